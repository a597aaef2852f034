set_option maxHeartbeats 4000000 in
set_option maxRecDepth 100000 in
theorem c_X2_put (l : Launch) (D : va_G) (c5 : Nat → ClassId) (a : KAd) (k : KSt) (hI : KI a) (sz : Nat) (p1 : Int32) (r : Int32 × KSt) (h : R_X2_put k p1 = some (.ok r)) : Met l yX2_put (ws_ yX2_put cX2_put 5 (some .int)) { frames := 4, cells := 0, slots := 0, locals := 91 } (va_Pc [.ref (aO a 0), .int p1] (rwB D (tyG c5) (KW c5 a k) sz)) (va_Qi (fun x u => x = r.1 ∧ u = r.2) (rwE D (tyG c5) (va_A (KW c5 a k) sz) (fun u => KW c5 a u)) (va_A (KW c5 a k) sz)) 0 0 (va_A (KW c5 a k) sz) := by
  refine Met.ofW (cc := cX2_put) (maxL := 5) (ret := (some .int)) (by decide) rfl ?_
  intro p e s m args below meth c s₁ B hml hv
  obtain ⟨rfl, hsz, hP, hK, hD0⟩ := hv
  have hx := B.exec
  have hb := B.bytes
  have hr := B.returns
  have hts : ∀ w ∈ LA, w.before _ s = true := fun w hw => atoms_spec (ws := ws_ yX2_put cX2_put 5 (some .int)) B.pre w (List.mem_cons_of_mem _ hw)
  have hown : s.vm.findClass RX2 = some m.cls := findClass_of_methodNamed B.named
  have hlocks := B.notSynchronized
  subst hsz
  have hD := hD0.self (sz := s.heap.size)
  generalize hAe : va_A (KW c5 a k) s.heap.size = A at hD ⊢
  have hA : ∀ q : Nat, s.heap.size ≤ q → A q := fun q h => by rw [← hAe]; exact Or.inr h
  have hS : va_S A s.heap s.heap [] := va_S.rf
  have hl := lv_entry ([.ref (aO a 0), .int p1] : List Value) (n := 5) (Nat.le_of_ble_eq_true rfl)
  rw [lg_entry_eq]
  generalize (lg_sl ([.ref (aO a 0), .int p1] : List Value) ++ List.replicate (5 - (lg_sl ([.ref (aO a 0), .int p1] : List Value)).length) Slot.unset).toArray = ls at hl ⊢
  have hl : lv_has ls 5 [(0, .ref (aO a 0)), (1, .int p1)] := hl
  unfold R_X2_put at h
  refine lv_aload_n hx hb dX2_put_0 rfl (lv_at hl 0 rfl) ?_
  refine lv_iload_n hx hb dX2_put_1 rfl (lv_at hl 1 rfl) ?_
  obtain ⟨v2, e2, h⟩ := xb_ok h
  refine ro_calle1 (ro_runV (As := [.int p1]) (rest := []) ⟨hx, hb, hml, hown, hts⟩ hP hK (c_X2_kindOf l D c5 a k hI p1 v2 e2) gG_RX2_60 (va_recv hK hP (ci := 2) (q0 := 0) rfl (KW_0 c5 a k)) hd_X2_kindOf ⟨Nat.le_of_ble_eq_true rfl, Nat.le_of_ble_eq_true rfl⟩ ⟨rfl, rfl⟩ hl.1 (Nat.le_of_ble_eq_true rfl) dX2_put_2 ⟨Nat.zero_le _, Nat.zero_le _⟩ rfl) ?_
  obtain ⟨gr2, h⟩ := o_if h
  refine lv_astore_n (i := 2) (lv' := [(2, .ref (aK a v2)), (0, .ref (aO a 0)), (1, .int p1)]) hx hb dX2_put_5 rfl hl (by decide) rfl (fun ls hl => ?_)
  refine lv_aload_n hx hb dX2_put_6 rfl (lv_at hl 1 rfl) ?_
  refine lv_aload_n hx hb dX2_put_7 rfl (lv_at hl 0 rfl) ?_
  obtain ⟨v8, e8, h⟩ := o_bind h
  refine ro_calle (ro_runV (As := [.ref (aK a v2)]) (rest := []) ⟨hx, hb, hml, hown, hts⟩ hP hK (c_X2_shelfToPut l D c5 a k hI v2 gr2 v8 e8) gG_RX2_64 (va_recv hK hP (ci := 2) (q0 := 0) rfl (KW_0 c5 a k)) hd_X2_shelfToPut ⟨Nat.le_of_ble_eq_true rfl, Nat.le_of_ble_eq_true rfl⟩ ⟨rfl, rfl⟩ hl.1 (Nat.le_of_ble_eq_true rfl) dX2_put_8 ⟨Nat.zero_le _, Nat.zero_le _⟩ rfl) ?_
  refine qv_astore_n (i := 3) (lv' := [(3, va_rf (v8.map (aS a))), (2, .ref (aK a v2)), (0, .ref (aO a 0)), (1, .int p1)]) hx hb dX2_put_11 rfl hl (by decide) rfl (fun ls hl => ?_)
  refine qv_aload_n hx hb dX2_put_12 rfl (lv_at hl 0 rfl) ?_
  cases v8 with
  | none =>
    have h := oe_n h
    have hl : lv_has ls 5 [(3, .null), (2, .ref (aK a v2)), (0, .ref (aO a 0)), (1, .int p1)] := hl
    refine lv_ifnonnullN hx hb dX2_put_13 ?_
    cases h
  | some j13 =>
    obtain ⟨hj13, h⟩ := oe_sif h
    have hl : lv_has ls 5 [(3, .ref (aS a j13)), (2, .ref (aK a v2)), (0, .ref (aO a 0)), (1, .int p1)] := hl
    refine lv_ifnonnull (tgt := 26) hx hb dX2_put_13 (by decide) ?_
    refine lv_aload_n hx hb dX2_put_26 rfl (lv_at hl 0 rfl) ?_
    obtain ⟨v27, e27, h⟩ := o_bind h
    refine ro_calli (ro_runV (As := []) (rest := []) ⟨hx, hb, hml, hown, hts⟩ hP hK (c_X1_state l D c5 a k hI j13 hj13 v27 e27) gG_RX2_70 (va_recv hK hP (ci := 1) (q0 := (3 + j13)) rfl (KW_S c5 a k hj13)) hd_X1_state ⟨Nat.le_of_ble_eq_true rfl, Nat.le_of_ble_eq_true rfl⟩ ⟨rfl, rfl⟩ hl.1 (Nat.le_of_ble_eq_true rfl) dX2_put_27 ⟨Nat.zero_le _, Nat.zero_le _⟩ rfl) ?_
    refine lv_if_ne (tgt := 38) hx hb dX2_put_30 (by decide) (fun q => ?_) (fun q => ?_)
    · have h := o_t' h q
      refine lv_aload_n hx hb dX2_put_38 rfl (lv_at hl 0 rfl) ?_
      obtain ⟨v39, e39, h⟩ := o_bind h
      refine ro_calli (ro_runV (As := []) (rest := []) ⟨hx, hb, hml, hown, hts⟩ hP hK (c_X1_firstGap l D c5 a k hI j13 hj13 v39 e39) gG_RX2_78 (va_recv hK hP (ci := 1) (q0 := (3 + j13)) rfl (KW_S c5 a k hj13)) hd_X1_firstGap ⟨Nat.le_of_ble_eq_true rfl, Nat.le_of_ble_eq_true rfl⟩ ⟨rfl, rfl⟩ hl.1 (Nat.le_of_ble_eq_true rfl) dX2_put_39 ⟨Nat.zero_le _, Nat.zero_le _⟩ rfl) ?_
      refine lv_istore (i := 4) (lv' := [(4, .int v39), (3, .ref (aS a j13)), (2, .ref (aK a v2)), (0, .ref (aO a 0)), (1, .int p1)]) hx hb dX2_put_42 hl (by decide) rfl (fun ls hl => ?_)
      refine lv_aload_n hx hb dX2_put_44 rfl (lv_at hl 1 rfl) ?_
      refine lv_iload hx hb dX2_put_45 (lv_at hl 0 rfl) ?_
      obtain ⟨v47, e47, h⟩ := o_bind h
      refine rw_callv (rw_runV (As := [.int v39]) (rest := []) ⟨hx, hb, hml, hown, hts⟩ hP hK hD (c_X1_addBowl l D c5 a k hI s.heap.size j13 hj13 v39 v47 e47) gG_RX2_81 (va_recv hK hP (ci := 1) (q0 := (3 + j13)) rfl (KW_S c5 a k hj13)) hd_X1_addBowl ⟨Nat.le_of_ble_eq_true rfl, Nat.le_of_ble_eq_true rfl⟩ ⟨rfl, rfl⟩ hl.1 (Nat.le_of_ble_eq_true rfl) dX2_put_47 ⟨Nat.le_of_ble_eq_true rfl, Nat.le_of_ble_eq_true rfl⟩ rfl) hD hS hA (fun H locs hP hD hS => ?_)
      refine lv_aload_n hx hb dX2_put_50 rfl (lv_at hl 3 rfl) ?_
      refine lv_dup hx hb dX2_put_51 rfl ?_
      refine va_get (D := D) (ci := 2) (v := .int (kG v47 2)) (C := RX2) (T := TX2) (N := 7) hx hb hts iX2 hown hK hP 0 (KW_0 c5 a v47) rfl 4 (by decide) (hts _ wT1_64) (fun _ h9 => h9) rfl dX2_put_52 ?_
      refine lv_iconst (v := (1 : Int32)) hx hb dX2_put_55 (by decide) ?_
      refine lv_iadd hx hb dX2_put_56 ?_
      refine va_put (D := D) (ci := 2) (v := .int ((kG v47 2) + (1 : Int32))) (ty := .int) (C := RX2) (T := TX2) (N := 7) hx hb hts iX2 tyX2 tyX2_ok nmX2 hown hK hP hD hS 0 (KW_0 c5 a v47) rfl 4 (by decide) (hts _ wT1_64) (fun _ h9 => h9) rfl (by decide +kernel) rfl rfl (Nat.le_of_ble_eq_true rfl) dX2_put_57 (fun H locs hP hD hS => ?_)
      have hP := wP (KW_set0 c5 a v47 2 (by decide) _) hP
      have hD := wD (KW_set0 c5 a v47 2 (by decide) _) hD
      refine lv_aload_n hx hb dX2_put_60 rfl (lv_at hl 3 rfl) ?_
      refine lv_dup hx hb dX2_put_61 rfl ?_
      refine va_get (D := D) (ci := 2) (v := .int (kG (kGs v47 2 ((kG v47 2) + (1 : Int32))) 3)) (C := RX2) (T := TX2) (N := 7) hx hb hts iX2 hown hK hP 0 (KW_0 c5 a (kGs v47 2 ((kG v47 2) + (1 : Int32)))) rfl 5 (by decide) (hts _ wT1_65) (fun _ h9 => h9) rfl dX2_put_62 ?_
      refine lv_iconst (v := (1 : Int32)) hx hb dX2_put_65 (by decide) ?_
      refine lv_iadd hx hb dX2_put_66 ?_
      refine va_put (D := D) (ci := 2) (v := .int ((kG (kGs v47 2 ((kG v47 2) + (1 : Int32))) 3) + (1 : Int32))) (ty := .int) (C := RX2) (T := TX2) (N := 7) hx hb hts iX2 tyX2 tyX2_ok nmX2 hown hK hP hD hS 0 (KW_0 c5 a (kGs v47 2 ((kG v47 2) + (1 : Int32)))) rfl 5 (by decide) (hts _ wT1_65) (fun _ h9 => h9) rfl (by decide +kernel) rfl rfl (Nat.le_of_ble_eq_true rfl) dX2_put_67 (fun H locs hP hD hS => ?_)
      have hP := wP (KW_set0 c5 a (kGs v47 2 ((kG v47 2) + (1 : Int32))) 3 (by decide) _) hP
      have hD := wD (KW_set0 c5 a (kGs v47 2 ((kG v47 2) + (1 : Int32))) 3 (by decide) _) hD
      refine lv_aload_n hx hb dX2_put_70 rfl (lv_at hl 1 rfl) ?_
      refine lv_iload hx hb dX2_put_71 (lv_at hl 0 rfl) ?_
      obtain ⟨v73, e73, h⟩ := o_bind h
      refine ro_calli (ro_runV (As := [.int v39]) (rest := []) ⟨hx, hb, hml, hown, hts⟩ hP hK (c_X1_beginOf l D c5 a (kGs (kGs v47 2 ((kG v47 2) + (1 : Int32))) 3 ((kG (kGs v47 2 ((kG v47 2) + (1 : Int32))) 3) + (1 : Int32))) hI j13 hj13 v39 v73 e73) gG_RX2_84 (va_recv hK hP (ci := 1) (q0 := (3 + j13)) rfl (KW_S c5 a (kGs (kGs v47 2 ((kG v47 2) + (1 : Int32))) 3 ((kG (kGs v47 2 ((kG v47 2) + (1 : Int32))) 3) + (1 : Int32))) hj13)) hd_X1_beginOf ⟨Nat.le_of_ble_eq_true rfl, Nat.le_of_ble_eq_true rfl⟩ ⟨rfl, rfl⟩ hl.1 (Nat.le_of_ble_eq_true rfl) dX2_put_73 ⟨Nat.zero_le _, Nat.zero_le _⟩ rfl) ?_
      obtain rfl := (Except.ok.inj (Option.some.inj h))
      exact rw_iret (wf := fun u => KW c5 a u) hx hb hr hlocks hP hK hD hS dX2_put_76 rfl
    · have h := o_f' h q
      refine lv_aload_n hx hb dX2_put_33 rfl (lv_at hl 0 rfl) ?_
      refine lv_aload_n hx hb dX2_put_34 rfl (lv_at hl 1 rfl) ?_
      obtain ⟨v35, e35, h⟩ := o_bind h
      refine rw_callv (rw_runV (As := [.ref (aK a v2)]) (rest := []) ⟨hx, hb, hml, hown, hts⟩ hP hK hD (c_X1_comeTo l D c5 a k hI s.heap.size j13 hj13 v2 gr2 v35 e35) gG_RX2_74 (va_recv hK hP (ci := 1) (q0 := (3 + j13)) rfl (KW_S c5 a k hj13)) hd_X1_comeTo ⟨Nat.le_of_ble_eq_true rfl, Nat.le_of_ble_eq_true rfl⟩ ⟨rfl, rfl⟩ hl.1 (Nat.le_of_ble_eq_true rfl) dX2_put_35 ⟨Nat.le_of_ble_eq_true rfl, Nat.le_of_ble_eq_true rfl⟩ rfl) hD hS hA (fun H locs hP hD hS => ?_)
      refine lv_aload_n hx hb dX2_put_38 rfl (lv_at hl 0 rfl) ?_
      obtain ⟨v39, e39, h⟩ := o_bind h
      refine ro_calli (ro_runV (As := []) (rest := []) ⟨hx, hb, hml, hown, hts⟩ hP hK (c_X1_firstGap l D c5 a v35 hI j13 hj13 v39 e39) gG_RX2_78 (va_recv hK hP (ci := 1) (q0 := (3 + j13)) rfl (KW_S c5 a v35 hj13)) hd_X1_firstGap ⟨Nat.le_of_ble_eq_true rfl, Nat.le_of_ble_eq_true rfl⟩ ⟨rfl, rfl⟩ hl.1 (Nat.le_of_ble_eq_true rfl) dX2_put_39 ⟨Nat.zero_le _, Nat.zero_le _⟩ rfl) ?_
      refine lv_istore (i := 4) (lv' := [(4, .int v39), (3, .ref (aS a j13)), (2, .ref (aK a v2)), (0, .ref (aO a 0)), (1, .int p1)]) hx hb dX2_put_42 hl (by decide) rfl (fun ls hl => ?_)
      refine lv_aload_n hx hb dX2_put_44 rfl (lv_at hl 1 rfl) ?_
      refine lv_iload hx hb dX2_put_45 (lv_at hl 0 rfl) ?_
      obtain ⟨v47, e47, h⟩ := o_bind h
      refine rw_callv (rw_runV (As := [.int v39]) (rest := []) ⟨hx, hb, hml, hown, hts⟩ hP hK hD (c_X1_addBowl l D c5 a v35 hI H.size j13 hj13 v39 v47 e47) gG_RX2_81 (va_recv hK hP (ci := 1) (q0 := (3 + j13)) rfl (KW_S c5 a v35 hj13)) hd_X1_addBowl ⟨Nat.le_of_ble_eq_true rfl, Nat.le_of_ble_eq_true rfl⟩ ⟨rfl, rfl⟩ hl.1 (Nat.le_of_ble_eq_true rfl) dX2_put_47 ⟨Nat.le_of_ble_eq_true rfl, Nat.le_of_ble_eq_true rfl⟩ rfl) hD hS hA (fun H locs hP hD hS => ?_)
      refine lv_aload_n hx hb dX2_put_50 rfl (lv_at hl 3 rfl) ?_
      refine lv_dup hx hb dX2_put_51 rfl ?_
      refine va_get (D := D) (ci := 2) (v := .int (kG v47 2)) (C := RX2) (T := TX2) (N := 7) hx hb hts iX2 hown hK hP 0 (KW_0 c5 a v47) rfl 4 (by decide) (hts _ wT1_64) (fun _ h9 => h9) rfl dX2_put_52 ?_
      refine lv_iconst (v := (1 : Int32)) hx hb dX2_put_55 (by decide) ?_
      refine lv_iadd hx hb dX2_put_56 ?_
      refine va_put (D := D) (ci := 2) (v := .int ((kG v47 2) + (1 : Int32))) (ty := .int) (C := RX2) (T := TX2) (N := 7) hx hb hts iX2 tyX2 tyX2_ok nmX2 hown hK hP hD hS 0 (KW_0 c5 a v47) rfl 4 (by decide) (hts _ wT1_64) (fun _ h9 => h9) rfl (by decide +kernel) rfl rfl (Nat.le_of_ble_eq_true rfl) dX2_put_57 (fun H locs hP hD hS => ?_)
      have hP := wP (KW_set0 c5 a v47 2 (by decide) _) hP
      have hD := wD (KW_set0 c5 a v47 2 (by decide) _) hD
      refine lv_aload_n hx hb dX2_put_60 rfl (lv_at hl 3 rfl) ?_
      refine lv_dup hx hb dX2_put_61 rfl ?_
      refine va_get (D := D) (ci := 2) (v := .int (kG (kGs v47 2 ((kG v47 2) + (1 : Int32))) 3)) (C := RX2) (T := TX2) (N := 7) hx hb hts iX2 hown hK hP 0 (KW_0 c5 a (kGs v47 2 ((kG v47 2) + (1 : Int32)))) rfl 5 (by decide) (hts _ wT1_65) (fun _ h9 => h9) rfl dX2_put_62 ?_
      refine lv_iconst (v := (1 : Int32)) hx hb dX2_put_65 (by decide) ?_
      refine lv_iadd hx hb dX2_put_66 ?_
      refine va_put (D := D) (ci := 2) (v := .int ((kG (kGs v47 2 ((kG v47 2) + (1 : Int32))) 3) + (1 : Int32))) (ty := .int) (C := RX2) (T := TX2) (N := 7) hx hb hts iX2 tyX2 tyX2_ok nmX2 hown hK hP hD hS 0 (KW_0 c5 a (kGs v47 2 ((kG v47 2) + (1 : Int32)))) rfl 5 (by decide) (hts _ wT1_65) (fun _ h9 => h9) rfl (by decide +kernel) rfl rfl (Nat.le_of_ble_eq_true rfl) dX2_put_67 (fun H locs hP hD hS => ?_)
      have hP := wP (KW_set0 c5 a (kGs v47 2 ((kG v47 2) + (1 : Int32))) 3 (by decide) _) hP
      have hD := wD (KW_set0 c5 a (kGs v47 2 ((kG v47 2) + (1 : Int32))) 3 (by decide) _) hD
      refine lv_aload_n hx hb dX2_put_70 rfl (lv_at hl 1 rfl) ?_
      refine lv_iload hx hb dX2_put_71 (lv_at hl 0 rfl) ?_
      obtain ⟨v73, e73, h⟩ := o_bind h
      refine ro_calli (ro_runV (As := [.int v39]) (rest := []) ⟨hx, hb, hml, hown, hts⟩ hP hK (c_X1_beginOf l D c5 a (kGs (kGs v47 2 ((kG v47 2) + (1 : Int32))) 3 ((kG (kGs v47 2 ((kG v47 2) + (1 : Int32))) 3) + (1 : Int32))) hI j13 hj13 v39 v73 e73) gG_RX2_84 (va_recv hK hP (ci := 1) (q0 := (3 + j13)) rfl (KW_S c5 a (kGs (kGs v47 2 ((kG v47 2) + (1 : Int32))) 3 ((kG (kGs v47 2 ((kG v47 2) + (1 : Int32))) 3) + (1 : Int32))) hj13)) hd_X1_beginOf ⟨Nat.le_of_ble_eq_true rfl, Nat.le_of_ble_eq_true rfl⟩ ⟨rfl, rfl⟩ hl.1 (Nat.le_of_ble_eq_true rfl) dX2_put_73 ⟨Nat.zero_le _, Nat.zero_le _⟩ rfl) ?_
      obtain rfl := (Except.ok.inj (Option.some.inj h))
      exact rw_iret (wf := fun u => KW c5 a u) hx hb hr hlocks hP hK hD hS dX2_put_76 rfl

set_option maxHeartbeats 4000000 in
set_option maxRecDepth 100000 in
theorem x_X2_put (l : Launch) (D : va_G) (c5 : Nat → ClassId) (a : KAd) (k : KSt) (hI : KI a) (sx : Nat → Nat) (hflags : l.flags = flags0) (p1 : Int32) (E : String) (h : R_X2_put k p1 = some (.error E)) : vx_Met l yX2_put (ws_ yX2_put cX2_put 5 (some .int)) { frames := 7, cells := 1, slots := 6, locals := 111 } (va_Pc [.ref (aO a 0), .int p1] (erB D (tyG c5) (KW c5 a k) sx)) ErrQ (ErrX E) 1 6 (fun _ => False) := by
  refine vx_ofW (cc := cX2_put) (maxL := 5) (ret := (some .int)) (by decide) rfl ?_
  intro p e s m args below meth c s₁ B hml ht hv
  obtain ⟨rfl, hP, hK, hX⟩ := hv
  have hx := B.exec
  have hb := B.bytes
  have hr := B.returns
  have hts : ∀ w ∈ LA, w.before _ s = true := fun w hw => atoms_spec (ws := ws_ yX2_put cX2_put 5 (some .int)) B.pre w (List.mem_cons_of_mem _ hw)
  have hown : s.vm.findClass RX2 = some m.cls := findClass_of_methodNamed B.named
  have hlocks := B.notSynchronized
  have hs : va_S (fun _ => False) s.heap s.heap [] := va_S.rf
  have hl := lv_entry ([.ref (aO a 0), .int p1] : List Value) (n := 5) (Nat.le_of_ble_eq_true rfl)
  rw [lg_entry_eq]
  generalize (lg_sl ([.ref (aO a 0), .int p1] : List Value) ++ List.replicate (5 - (lg_sl ([.ref (aO a 0), .int p1] : List Value)).length) Slot.unset).toArray = ls at hl ⊢
  have hl : lv_has ls 5 [(0, .ref (aO a 0)), (1, .int p1)] := hl
  unfold R_X2_put at h
  refine lv_aload_n hx hb dX2_put_0 rfl (lv_at hl 0 rfl) ?_
  refine lv_iload_n hx hb dX2_put_1 rfl (lv_at hl 1 rfl) ?_
  rcases xb_some h with ⟨v2, e2, h⟩ | ⟨x9, e2, h⟩
  · refine ro_calle1 (ro_runV (As := [.int p1]) (rest := []) ⟨hx, hb, hml, hown, hts⟩ hP hK (c_X2_kindOf l D c5 a k hI p1 v2 e2) gG_RX2_60 (va_recv hK hP (ci := 2) (q0 := 0) rfl (KW_0 c5 a k)) hd_X2_kindOf ⟨Nat.le_of_ble_eq_true rfl, Nat.le_of_ble_eq_true rfl⟩ ⟨rfl, rfl⟩ hl.1 (Nat.le_of_ble_eq_true rfl) dX2_put_2 ⟨Nat.zero_le _, Nat.zero_le _⟩ rfl) ?_
    obtain ⟨gr2, h⟩ := o_if h
    refine lv_astore_n (i := 2) (lv' := [(2, .ref (aK a v2)), (0, .ref (aO a 0)), (1, .int p1)]) hx hb dX2_put_5 rfl hl (by decide) rfl (fun ls hl => ?_)
    refine lv_aload_n hx hb dX2_put_6 rfl (lv_at hl 1 rfl) ?_
    refine lv_aload_n hx hb dX2_put_7 rfl (lv_at hl 0 rfl) ?_
    obtain ⟨v8, e8, h⟩ := o_bind h
    refine ro_calle (ro_runV (As := [.ref (aK a v2)]) (rest := []) ⟨hx, hb, hml, hown, hts⟩ hP hK (c_X2_shelfToPut l D c5 a k hI v2 gr2 v8 e8) gG_RX2_64 (va_recv hK hP (ci := 2) (q0 := 0) rfl (KW_0 c5 a k)) hd_X2_shelfToPut ⟨Nat.le_of_ble_eq_true rfl, Nat.le_of_ble_eq_true rfl⟩ ⟨rfl, rfl⟩ hl.1 (Nat.le_of_ble_eq_true rfl) dX2_put_8 ⟨Nat.zero_le _, Nat.zero_le _⟩ rfl) ?_
    refine qv_astore_n (i := 3) (lv' := [(3, va_rf (v8.map (aS a))), (2, .ref (aK a v2)), (0, .ref (aO a 0)), (1, .int p1)]) hx hb dX2_put_11 rfl hl (by decide) rfl (fun ls hl => ?_)
    refine qv_aload_n hx hb dX2_put_12 rfl (lv_at hl 0 rfl) ?_
    cases v8 with
    | none =>
      have h := oe_n h
      have hl : lv_has ls 5 [(3, .null), (2, .ref (aK a v2)), (0, .ref (aO a 0)), (1, .int p1)] := hl
      refine lv_ifnonnullN hx hb dX2_put_13 ?_
      obtain rfl := Except.error.inj (Option.some.inj h)
      exact err_throw (own := RX2) hx hb hflags hown hX (hts _ wT1_190) (hts _ wT1_8) (st_68 hX) (at_51 hts hX) gd_51 hs (hl.1.trans hml.symm) dX2_put_16 dX2_put_19 dX2_put_20 dX2_put_22 dX2_put_25 ht hlocks (Nat.le_of_ble_eq_true rfl) (Nat.le_of_ble_eq_true rfl) ⟨Nat.le_of_ble_eq_true rfl, Nat.le_of_ble_eq_true rfl⟩ (by decide +kernel)
    | some j13 =>
      obtain ⟨hj13, h⟩ := oe_sif h
      have hl : lv_has ls 5 [(3, .ref (aS a j13)), (2, .ref (aK a v2)), (0, .ref (aO a 0)), (1, .int p1)] := hl
      refine lv_ifnonnull (tgt := 26) hx hb dX2_put_13 (by decide) ?_
      refine lv_aload_n hx hb dX2_put_26 rfl (lv_at hl 0 rfl) ?_
      obtain ⟨v27, e27, h⟩ := o_bind h
      refine ro_calli (ro_runV (As := []) (rest := []) ⟨hx, hb, hml, hown, hts⟩ hP hK (c_X1_state l D c5 a k hI j13 hj13 v27 e27) gG_RX2_70 (va_recv hK hP (ci := 1) (q0 := (3 + j13)) rfl (KW_S c5 a k hj13)) hd_X1_state ⟨Nat.le_of_ble_eq_true rfl, Nat.le_of_ble_eq_true rfl⟩ ⟨rfl, rfl⟩ hl.1 (Nat.le_of_ble_eq_true rfl) dX2_put_27 ⟨Nat.zero_le _, Nat.zero_le _⟩ rfl) ?_
      refine lv_if_ne (tgt := 38) hx hb dX2_put_30 (by decide) (fun q => ?_) (fun q => ?_)
      · have h := o_t' h q
        refine lv_aload_n hx hb dX2_put_38 rfl (lv_at hl 0 rfl) ?_
        obtain ⟨v39, e39, h⟩ := o_bind h
        refine ro_calli (ro_runV (As := []) (rest := []) ⟨hx, hb, hml, hown, hts⟩ hP hK (c_X1_firstGap l D c5 a k hI j13 hj13 v39 e39) gG_RX2_78 (va_recv hK hP (ci := 1) (q0 := (3 + j13)) rfl (KW_S c5 a k hj13)) hd_X1_firstGap ⟨Nat.le_of_ble_eq_true rfl, Nat.le_of_ble_eq_true rfl⟩ ⟨rfl, rfl⟩ hl.1 (Nat.le_of_ble_eq_true rfl) dX2_put_39 ⟨Nat.zero_le _, Nat.zero_le _⟩ rfl) ?_
        refine lv_istore (i := 4) (lv' := [(4, .int v39), (3, .ref (aS a j13)), (2, .ref (aK a v2)), (0, .ref (aO a 0)), (1, .int p1)]) hx hb dX2_put_42 hl (by decide) rfl (fun ls hl => ?_)
        refine lv_aload_n hx hb dX2_put_44 rfl (lv_at hl 1 rfl) ?_
        refine lv_iload hx hb dX2_put_45 (lv_at hl 0 rfl) ?_
        exfalso
        obtain ⟨v47, e47, h⟩ := o_bind h
        obtain ⟨v73, e73, h⟩ := o_bind h
        cases h
      · have h := o_f' h q
        refine lv_aload_n hx hb dX2_put_33 rfl (lv_at hl 0 rfl) ?_
        refine lv_aload_n hx hb dX2_put_34 rfl (lv_at hl 1 rfl) ?_
        exfalso
        obtain ⟨v35, e35, h⟩ := o_bind h
        obtain ⟨v39, e39, h⟩ := o_bind h
        obtain ⟨v47, e47, h⟩ := o_bind h
        obtain ⟨v73, e73, h⟩ := o_bind h
        cases h
  · obtain rfl := Except.error.inj h
    exact er_call (er_runV (As := [.int p1]) (rest := []) ⟨hx, hb, hml, hown, hts⟩ hP hK hX (x_X2_kindOf l D c5 a k hI sx hflags p1 E e2) gG_RX2_60 (va_recv hK hP (ci := 2) (q0 := 0) rfl (KW_0 c5 a k)) hd_X2_kindOf ⟨Nat.le_of_ble_eq_true rfl, Nat.le_of_ble_eq_true rfl⟩ ⟨rfl, rfl⟩ hl.1 (Nat.le_of_ble_eq_true rfl) dX2_put_2 ⟨Nat.le_of_ble_eq_true rfl, Nat.le_of_ble_eq_true rfl⟩ rfl) ht hlocks
set_option maxHeartbeats 4000000 in
set_option maxRecDepth 100000 in
theorem c_X2_take (l : Launch) (D : va_G) (c5 : Nat → ClassId) (a : KAd) (k : KSt) (hI : KI a) (sz : Nat) (p1 : Int32) (r : Int32 × KSt) (h : R_X2_take k p1 = some (.ok r)) : Met l yX2_take (ws_ yX2_take cX2_take 4 (some .int)) { frames := 1, cells := 0, slots := 0, locals := 22 } (va_Pc [.ref (aO a 0), .int p1] (rwB D (tyG c5) (KW c5 a k) sz)) (va_Qi (fun x u => x = r.1 ∧ u = r.2) (rwE D (tyG c5) (va_A (KW c5 a k) sz) (fun u => KW c5 a u)) (va_A (KW c5 a k) sz)) 0 0 (va_A (KW c5 a k) sz) := by
  refine Met.ofW (cc := cX2_take) (maxL := 4) (ret := (some .int)) (by decide) rfl ?_
  intro p e s m args below meth c s₁ B hml hv
  obtain ⟨rfl, hsz, hP, hK, hD0⟩ := hv
  have hx := B.exec
  have hb := B.bytes
  have hr := B.returns
  have hts : ∀ w ∈ LA, w.before _ s = true := fun w hw => atoms_spec (ws := ws_ yX2_take cX2_take 4 (some .int)) B.pre w (List.mem_cons_of_mem _ hw)
  have hown : s.vm.findClass RX2 = some m.cls := findClass_of_methodNamed B.named
  have hlocks := B.notSynchronized
  subst hsz
  have hD := hD0.self (sz := s.heap.size)
  generalize hAe : va_A (KW c5 a k) s.heap.size = A at hD ⊢
  have hA : ∀ q : Nat, s.heap.size ≤ q → A q := fun q h => by rw [← hAe]; exact Or.inr h
  have hS : va_S A s.heap s.heap [] := va_S.rf
  have hl := lv_entry ([.ref (aO a 0), .int p1] : List Value) (n := 4) (Nat.le_of_ble_eq_true rfl)
  rw [lg_entry_eq]
  generalize (lg_sl ([.ref (aO a 0), .int p1] : List Value) ++ List.replicate (4 - (lg_sl ([.ref (aO a 0), .int p1] : List Value)).length) Slot.unset).toArray = ls at hl ⊢
  have hl : lv_has ls 4 [(0, .ref (aO a 0)), (1, .int p1)] := hl
  unfold R_X2_take at h
  refine lv_aload_n hx hb dX2_take_0 rfl (lv_at hl 0 rfl) ?_
  refine lv_iload_n hx hb dX2_take_1 rfl (lv_at hl 1 rfl) ?_
  obtain ⟨v2, e2, h⟩ := xb_ok h
  refine ro_calle1 (ro_runV (As := [.int p1]) (rest := []) ⟨hx, hb, hml, hown, hts⟩ hP hK (c_X2_shelfAt l D c5 a k hI p1 v2 e2) gG_RX2_88 (va_recv hK hP (ci := 2) (q0 := 0) rfl (KW_0 c5 a k)) hd_X2_shelfAt ⟨Nat.le_of_ble_eq_true rfl, Nat.le_of_ble_eq_true rfl⟩ ⟨rfl, rfl⟩ hl.1 (Nat.le_of_ble_eq_true rfl) dX2_take_2 ⟨Nat.zero_le _, Nat.zero_le _⟩ rfl) ?_
  obtain ⟨gr2, h⟩ := o_if h
  refine lv_astore_n (i := 2) (lv' := [(2, .ref (aS a v2)), (0, .ref (aO a 0)), (1, .int p1)]) hx hb dX2_take_5 rfl hl (by decide) rfl (fun ls hl => ?_)
  refine lv_aload_n hx hb dX2_take_6 rfl (lv_at hl 0 rfl) ?_
  refine lv_iload_n hx hb dX2_take_7 rfl (lv_at hl 2 rfl) ?_
  obtain ⟨v8, e8, h⟩ := o_bind h
  refine ro_calli (ro_runV (As := [.int p1]) (rest := []) ⟨hx, hb, hml, hown, hts⟩ hP hK (c_X1_placeAt l D c5 a k hI v2 gr2 p1 v8 e8) gG_RX2_92 (va_recv hK hP (ci := 1) (q0 := (3 + v2)) rfl (KW_S c5 a k gr2)) hd_X1_placeAt ⟨Nat.le_of_ble_eq_true rfl, Nat.le_of_ble_eq_true rfl⟩ ⟨rfl, rfl⟩ hl.1 (Nat.le_of_ble_eq_true rfl) dX2_take_8 ⟨Nat.zero_le _, Nat.zero_le _⟩ rfl) ?_
  refine lv_istore_n (i := 3) (lv' := [(3, .int v8), (2, .ref (aS a v2)), (0, .ref (aO a 0)), (1, .int p1)]) hx hb dX2_take_11 rfl hl (by decide) rfl (fun ls hl => ?_)
  refine lv_aload_n hx hb dX2_take_12 rfl (lv_at hl 1 rfl) ?_
  refine lv_iload_n hx hb dX2_take_13 rfl (lv_at hl 0 rfl) ?_
  obtain ⟨v14, e14, h⟩ := o_bind h
  refine ro_calli (ro_runV (As := [.int v8]) (rest := []) ⟨hx, hb, hml, hown, hts⟩ hP hK (c_X1_standsOn l D c5 a k hI v2 gr2 v8 v14 e14) gG_RX2_95 (va_recv hK hP (ci := 1) (q0 := (3 + v2)) rfl (KW_S c5 a k gr2)) hd_X1_standsOn ⟨Nat.le_of_ble_eq_true rfl, Nat.le_of_ble_eq_true rfl⟩ ⟨rfl, rfl⟩ hl.1 (Nat.le_of_ble_eq_true rfl) dX2_take_14 ⟨Nat.zero_le _, Nat.zero_le _⟩ rfl) ?_
  refine lv_if_eq (tgt := 29) hx hb dX2_take_17 (by decide) (fun q => ?_) (fun q => ?_)
  · have h := o_t h q
    cases h
  · have h := o_f h q
    refine lv_aload_n hx hb dX2_take_20 rfl (lv_at hl 1 rfl) ?_
    refine lv_iload_n hx hb dX2_take_21 rfl (lv_at hl 0 rfl) ?_
    obtain ⟨v22, e22, h⟩ := o_bind h
    refine ro_calli (ro_runV (As := [.int v8]) (rest := []) ⟨hx, hb, hml, hown, hts⟩ hP hK (c_X1_beginOf l D c5 a k hI v2 gr2 v8 v22 e22) gG_RX2_84 (va_recv hK hP (ci := 1) (q0 := (3 + v2)) rfl (KW_S c5 a k gr2)) hd_X1_beginOf ⟨Nat.le_of_ble_eq_true rfl, Nat.le_of_ble_eq_true rfl⟩ ⟨rfl, rfl⟩ hl.1 (Nat.le_of_ble_eq_true rfl) dX2_take_22 ⟨Nat.zero_le _, Nat.zero_le _⟩ rfl) ?_
    refine lv_iload_n hx hb dX2_take_25 rfl (lv_at hl 3 rfl) ?_
    refine lv_icmp_eq (tgt := 39) hx hb dX2_take_26 (by decide) (fun q => ?_) (fun q => ?_)
    · have h := o_t h q
      refine lv_aload_n hx hb dX2_take_39 rfl (lv_at hl 2 rfl) ?_
      refine lv_dup hx hb dX2_take_40 rfl ?_
      refine va_get (D := D) (ci := 2) (v := .int (kG k 2)) (C := RX2) (T := TX2) (N := 7) hx hb hts iX2 hown hK hP 0 (KW_0 c5 a k) rfl 4 (by decide) (hts _ wT1_64) (fun _ h9 => h9) rfl dX2_take_41 ?_
      refine lv_iconst (v := (1 : Int32)) hx hb dX2_take_44 (by decide) ?_
      refine lv_iadd hx hb dX2_take_45 ?_
      refine va_put (D := D) (ci := 2) (v := .int ((kG k 2) + (1 : Int32))) (ty := .int) (C := RX2) (T := TX2) (N := 7) hx hb hts iX2 tyX2 tyX2_ok nmX2 hown hK hP hD hS 0 (KW_0 c5 a k) rfl 4 (by decide) (hts _ wT1_64) (fun _ h9 => h9) rfl (by decide +kernel) rfl rfl (Nat.le_of_ble_eq_true rfl) dX2_take_46 (fun H locs hP hD hS => ?_)
      have hP := wP (KW_set0 c5 a k 2 (by decide) _) hP
      have hD := wD (KW_set0 c5 a k 2 (by decide) _) hD
      refine lv_aload_n hx hb dX2_take_49 rfl (lv_at hl 1 rfl) ?_
      refine lv_iload_n hx hb dX2_take_50 rfl (lv_at hl 0 rfl) ?_
      refine lv_aload_n hx hb dX2_take_51 rfl (lv_at hl 2 rfl) ?_
      refine va_get (D := D) (ci := 2) (v := .int (kG (kGs k 2 ((kG k 2) + (1 : Int32))) 2)) (C := RX2) (T := TX2) (N := 7) hx hb hts iX2 hown hK hP 0 (KW_0 c5 a (kGs k 2 ((kG k 2) + (1 : Int32)))) rfl 4 (by decide) (hts _ wT1_64) (fun _ h9 => h9) rfl dX2_take_52 ?_
      obtain ⟨v55, e55, h⟩ := o_bind h
      refine rw_callv (rw_runV (As := [.int v8, .int (kG (kGs k 2 ((kG k 2) + (1 : Int32))) 2)]) (rest := []) ⟨hx, hb, hml, hown, hts⟩ hP hK hD (c_X1_removeBowl l D c5 a (kGs k 2 ((kG k 2) + (1 : Int32))) hI H.size v2 gr2 v8 (kG (kGs k 2 ((kG k 2) + (1 : Int32))) 2) v55 e55) gG_RX2_101 (va_recv hK hP (ci := 1) (q0 := (3 + v2)) rfl (KW_S c5 a (kGs k 2 ((kG k 2) + (1 : Int32))) gr2)) hd_X1_removeBowl ⟨Nat.le_of_ble_eq_true rfl, Nat.le_of_ble_eq_true rfl⟩ ⟨rfl, rfl⟩ hl.1 (Nat.le_of_ble_eq_true rfl) dX2_take_55 ⟨Nat.le_of_ble_eq_true rfl, Nat.le_of_ble_eq_true rfl⟩ rfl) hD hS hA (fun H locs hP hD hS => ?_)
      refine lv_aload_n hx hb dX2_take_58 rfl (lv_at hl 1 rfl) ?_
      refine va_get (D := D) (ci := 1) (v := .int (kS v55 6 v2)) (C := RX1) (T := TX1) (N := 8) hx hb hts iX1 hown hK hP (3 + v2) (KW_S c5 a v55 gr2) rfl 6 (by decide) (hts _ wT1_39) (fun _ h9 => h9) rfl dX2_take_59 ?_
      obtain rfl := (Except.ok.inj (Option.some.inj h))
      exact rw_iret (wf := fun u => KW c5 a u) hx hb hr hlocks hP hK hD hS dX2_take_62 rfl
    · have h := o_f h q
      cases h

set_option maxHeartbeats 4000000 in
set_option maxRecDepth 100000 in
theorem x_X2_take (l : Launch) (D : va_G) (c5 : Nat → ClassId) (a : KAd) (k : KSt) (hI : KI a) (sx : Nat → Nat) (hflags : l.flags = flags0) (p1 : Int32) (E : String) (h : R_X2_take k p1 = some (.error E)) : vx_Met l yX2_take (ws_ yX2_take cX2_take 4 (some .int)) { frames := 7, cells := 1, slots := 6, locals := 111 } (va_Pc [.ref (aO a 0), .int p1] (erB D (tyG c5) (KW c5 a k) sx)) ErrQ (ErrX E) 1 6 (fun _ => False) := by
  refine vx_ofW (cc := cX2_take) (maxL := 4) (ret := (some .int)) (by decide) rfl ?_
  intro p e s m args below meth c s₁ B hml ht hv
  obtain ⟨rfl, hP, hK, hX⟩ := hv
  have hx := B.exec
  have hb := B.bytes
  have hr := B.returns
  have hts : ∀ w ∈ LA, w.before _ s = true := fun w hw => atoms_spec (ws := ws_ yX2_take cX2_take 4 (some .int)) B.pre w (List.mem_cons_of_mem _ hw)
  have hown : s.vm.findClass RX2 = some m.cls := findClass_of_methodNamed B.named
  have hlocks := B.notSynchronized
  have hs : va_S (fun _ => False) s.heap s.heap [] := va_S.rf
  have hl := lv_entry ([.ref (aO a 0), .int p1] : List Value) (n := 4) (Nat.le_of_ble_eq_true rfl)
  rw [lg_entry_eq]
  generalize (lg_sl ([.ref (aO a 0), .int p1] : List Value) ++ List.replicate (4 - (lg_sl ([.ref (aO a 0), .int p1] : List Value)).length) Slot.unset).toArray = ls at hl ⊢
  have hl : lv_has ls 4 [(0, .ref (aO a 0)), (1, .int p1)] := hl
  unfold R_X2_take at h
  refine lv_aload_n hx hb dX2_take_0 rfl (lv_at hl 0 rfl) ?_
  refine lv_iload_n hx hb dX2_take_1 rfl (lv_at hl 1 rfl) ?_
  rcases xb_some h with ⟨v2, e2, h⟩ | ⟨x9, e2, h⟩
  · refine ro_calle1 (ro_runV (As := [.int p1]) (rest := []) ⟨hx, hb, hml, hown, hts⟩ hP hK (c_X2_shelfAt l D c5 a k hI p1 v2 e2) gG_RX2_88 (va_recv hK hP (ci := 2) (q0 := 0) rfl (KW_0 c5 a k)) hd_X2_shelfAt ⟨Nat.le_of_ble_eq_true rfl, Nat.le_of_ble_eq_true rfl⟩ ⟨rfl, rfl⟩ hl.1 (Nat.le_of_ble_eq_true rfl) dX2_take_2 ⟨Nat.zero_le _, Nat.zero_le _⟩ rfl) ?_
    obtain ⟨gr2, h⟩ := o_if h
    refine lv_astore_n (i := 2) (lv' := [(2, .ref (aS a v2)), (0, .ref (aO a 0)), (1, .int p1)]) hx hb dX2_take_5 rfl hl (by decide) rfl (fun ls hl => ?_)
    refine lv_aload_n hx hb dX2_take_6 rfl (lv_at hl 0 rfl) ?_
    refine lv_iload_n hx hb dX2_take_7 rfl (lv_at hl 2 rfl) ?_
    obtain ⟨v8, e8, h⟩ := o_bind h
    refine ro_calli (ro_runV (As := [.int p1]) (rest := []) ⟨hx, hb, hml, hown, hts⟩ hP hK (c_X1_placeAt l D c5 a k hI v2 gr2 p1 v8 e8) gG_RX2_92 (va_recv hK hP (ci := 1) (q0 := (3 + v2)) rfl (KW_S c5 a k gr2)) hd_X1_placeAt ⟨Nat.le_of_ble_eq_true rfl, Nat.le_of_ble_eq_true rfl⟩ ⟨rfl, rfl⟩ hl.1 (Nat.le_of_ble_eq_true rfl) dX2_take_8 ⟨Nat.zero_le _, Nat.zero_le _⟩ rfl) ?_
    refine lv_istore_n (i := 3) (lv' := [(3, .int v8), (2, .ref (aS a v2)), (0, .ref (aO a 0)), (1, .int p1)]) hx hb dX2_take_11 rfl hl (by decide) rfl (fun ls hl => ?_)
    refine lv_aload_n hx hb dX2_take_12 rfl (lv_at hl 1 rfl) ?_
    refine lv_iload_n hx hb dX2_take_13 rfl (lv_at hl 0 rfl) ?_
    obtain ⟨v14, e14, h⟩ := o_bind h
    refine ro_calli (ro_runV (As := [.int v8]) (rest := []) ⟨hx, hb, hml, hown, hts⟩ hP hK (c_X1_standsOn l D c5 a k hI v2 gr2 v8 v14 e14) gG_RX2_95 (va_recv hK hP (ci := 1) (q0 := (3 + v2)) rfl (KW_S c5 a k gr2)) hd_X1_standsOn ⟨Nat.le_of_ble_eq_true rfl, Nat.le_of_ble_eq_true rfl⟩ ⟨rfl, rfl⟩ hl.1 (Nat.le_of_ble_eq_true rfl) dX2_take_14 ⟨Nat.zero_le _, Nat.zero_le _⟩ rfl) ?_
    refine lv_if_eq (tgt := 29) hx hb dX2_take_17 (by decide) (fun q => ?_) (fun q => ?_)
    · have h := o_t h q
      obtain rfl := Except.error.inj (Option.some.inj h)
      exact err_throw (own := RX2) hx hb hflags hown hX (hts _ wT2_4) (hts _ wT1_7) (st_99 hX) (at_44 hts hX) gd_44 hs (hl.1.trans hml.symm) dX2_take_29 dX2_take_32 dX2_take_33 dX2_take_35 dX2_take_38 ht hlocks (Nat.le_of_ble_eq_true rfl) (Nat.le_of_ble_eq_true rfl) ⟨Nat.le_of_ble_eq_true rfl, Nat.le_of_ble_eq_true rfl⟩ (by decide +kernel)
    · have h := o_f h q
      refine lv_aload_n hx hb dX2_take_20 rfl (lv_at hl 1 rfl) ?_
      refine lv_iload_n hx hb dX2_take_21 rfl (lv_at hl 0 rfl) ?_
      obtain ⟨v22, e22, h⟩ := o_bind h
      refine ro_calli (ro_runV (As := [.int v8]) (rest := []) ⟨hx, hb, hml, hown, hts⟩ hP hK (c_X1_beginOf l D c5 a k hI v2 gr2 v8 v22 e22) gG_RX2_84 (va_recv hK hP (ci := 1) (q0 := (3 + v2)) rfl (KW_S c5 a k gr2)) hd_X1_beginOf ⟨Nat.le_of_ble_eq_true rfl, Nat.le_of_ble_eq_true rfl⟩ ⟨rfl, rfl⟩ hl.1 (Nat.le_of_ble_eq_true rfl) dX2_take_22 ⟨Nat.zero_le _, Nat.zero_le _⟩ rfl) ?_
      refine lv_iload_n hx hb dX2_take_25 rfl (lv_at hl 3 rfl) ?_
      refine lv_icmp_eq (tgt := 39) hx hb dX2_take_26 (by decide) (fun q => ?_) (fun q => ?_)
      · have h := o_t h q
        refine lv_aload_n hx hb dX2_take_39 rfl (lv_at hl 2 rfl) ?_
        refine lv_dup hx hb dX2_take_40 rfl ?_
        refine va_get (D := D) (ci := 2) (v := .int (kG k 2)) (C := RX2) (T := TX2) (N := 7) hx hb hts iX2 hown hK hP 0 (KW_0 c5 a k) rfl 4 (by decide) (hts _ wT1_64) (fun _ h9 => h9) rfl dX2_take_41 ?_
        refine lv_iconst (v := (1 : Int32)) hx hb dX2_take_44 (by decide) ?_
        refine lv_iadd hx hb dX2_take_45 ?_
        exfalso
        obtain ⟨v55, e55, h⟩ := o_bind h
        cases h
      · have h := o_f h q
        obtain rfl := Except.error.inj (Option.some.inj h)
        exact err_throw (own := RX2) hx hb hflags hown hX (hts _ wT2_4) (hts _ wT1_7) (st_99 hX) (at_44 hts hX) gd_44 hs (hl.1.trans hml.symm) dX2_take_29 dX2_take_32 dX2_take_33 dX2_take_35 dX2_take_38 ht hlocks (Nat.le_of_ble_eq_true rfl) (Nat.le_of_ble_eq_true rfl) ⟨Nat.le_of_ble_eq_true rfl, Nat.le_of_ble_eq_true rfl⟩ (by decide +kernel)
  · obtain rfl := Except.error.inj h
    exact er_call (er_runV (As := [.int p1]) (rest := []) ⟨hx, hb, hml, hown, hts⟩ hP hK hX (x_X2_shelfAt l D c5 a k hI sx hflags p1 E e2) gG_RX2_88 (va_recv hK hP (ci := 2) (q0 := 0) rfl (KW_0 c5 a k)) hd_X2_shelfAt ⟨Nat.le_of_ble_eq_true rfl, Nat.le_of_ble_eq_true rfl⟩ ⟨rfl, rfl⟩ hl.1 (Nat.le_of_ble_eq_true rfl) dX2_take_2 ⟨Nat.le_of_ble_eq_true rfl, Nat.le_of_ble_eq_true rfl⟩ rfl) ht hlocks
set_option maxHeartbeats 4000000 in
set_option maxRecDepth 100000 in
theorem c_X2_reap (l : Launch) (D : va_G) (c5 : Nat → ClassId) (a : KAd) (k : KSt) (hI : KI a) (sz : Nat) (p1 : Int32) (r : Int32 × KSt) (h : R_X2_reap k p1 = some (.ok r)) : Met l yX2_reap (ws_ yX2_reap cX2_reap 7 (some .int)) { frames := 1, cells := 0, slots := 0, locals := 20 } (va_Pc [.ref (aO a 0), .int p1] (rwB D (tyG c5) (KW c5 a k) sz)) (va_Qi (fun x u => x = r.1 ∧ u = r.2) (rwE D (tyG c5) (va_A (KW c5 a k) sz) (fun u => KW c5 a u)) (va_A (KW c5 a k) sz)) 0 0 (va_A (KW c5 a k) sz) := by
  refine Met.ofW (cc := cX2_reap) (maxL := 7) (ret := (some .int)) (by decide) rfl ?_
  intro p e s m args below meth c s₁ B hml hv
  obtain ⟨rfl, hsz, hP, hK, hD0⟩ := hv
  have hx := B.exec
  have hb := B.bytes
  have hr := B.returns
  have hts : ∀ w ∈ LA, w.before _ s = true := fun w hw => atoms_spec (ws := ws_ yX2_reap cX2_reap 7 (some .int)) B.pre w (List.mem_cons_of_mem _ hw)
  have hown : s.vm.findClass RX2 = some m.cls := findClass_of_methodNamed B.named
  have hlocks := B.notSynchronized
  subst hsz
  have hD := hD0.self (sz := s.heap.size)
  generalize hAe : va_A (KW c5 a k) s.heap.size = A at hD ⊢
  have hA : ∀ q : Nat, s.heap.size ≤ q → A q := fun q h => by rw [← hAe]; exact Or.inr h
  have hS : va_S A s.heap s.heap [] := va_S.rf
  have hl := lv_entry ([.ref (aO a 0), .int p1] : List Value) (n := 7) (Nat.le_of_ble_eq_true rfl)
  rw [lg_entry_eq]
  generalize (lg_sl ([.ref (aO a 0), .int p1] : List Value) ++ List.replicate (7 - (lg_sl ([.ref (aO a 0), .int p1] : List Value)).length) Slot.unset).toArray = ls at hl ⊢
  have hl : lv_has ls 7 [(0, .ref (aO a 0)), (1, .int p1)] := hl
  unfold R_X2_reap at h
  refine lv_iload_n hx hb dX2_reap_0 rfl (lv_at hl 1 rfl) ?_
  refine lv_if_lt (tgt := 10) hx hb dX2_reap_1 (by decide) (fun q => ?_) (fun q => ?_)
  · have h := o_t h q
    cases h
  · have h := o_f h q
    refine lv_iload_n hx hb dX2_reap_4 rfl (lv_at hl 1 rfl) ?_
    refine lv_bipush (v := (99 : Int32)) hx hb dX2_reap_5 (by decide) ?_
    refine lv_icmp_le (tgt := 20) hx hb dX2_reap_7 (by decide) (fun q => ?_) (fun q => ?_)
    · have h := o_t h q
      refine lv_iconst (v := (0 : Int32)) hx hb dX2_reap_20 (by decide) ?_
      refine lv_istore_n (i := 2) (lv' := [(2, .int (0 : Int32)), (0, .ref (aO a 0)), (1, .int p1)]) hx hb dX2_reap_21 rfl hl (by decide) rfl (fun ls hl => ?_)
      refine lv_aload_n hx hb dX2_reap_22 rfl (lv_at hl 1 rfl) ?_
      refine va_get (D := D) (ci := 2) (v := .ref (aO a 1)) (C := RX2) (T := TX2) (N := 7) hx hb hts iX2 hown hK hP 0 (KW_0 c5 a k) rfl 0 (by decide) (hts _ wT1_60) (fun _ h9 => h9) rfl dX2_reap_23 ?_
      refine lv_astore_n (i := 3) (lv' := [(3, .ref (aO a 1)), (2, .int (0 : Int32)), (0, .ref (aO a 0)), (1, .int p1)]) hx hb dX2_reap_26 rfl hl (by decide) rfl (fun ls hl => ?_)
      refine lv_aload_n hx hb dX2_reap_27 rfl (lv_at hl 0 rfl) ?_
      refine va_alen (v := (12 : Int32)) hx hb hK hP 1 0 (KW_1 c5 a k) rfl rfl dX2_reap_28 ?_
      refine lv_istore (i := 4) (lv' := [(4, .int (12 : Int32)), (3, .ref (aO a 1)), (2, .int (0 : Int32)), (0, .ref (aO a 0)), (1, .int p1)]) hx hb dX2_reap_29 hl (by decide) rfl (fun ls hl => ?_)
      refine lv_iconst (v := (0 : Int32)) hx hb dX2_reap_31 (by decide) ?_
      refine lv_istore (i := 5) (lv' := [(5, .int (0 : Int32)), (4, .int (12 : Int32)), (3, .ref (aO a 1)), (2, .int (0 : Int32)), (0, .ref (aO a 0)), (1, .int p1)]) hx hb dX2_reap_32 hl (by decide) rfl (fun ls hl => ?_)
      have L34 : ∀ (n : Nat) (k : KSt) (H : Heap) (locs : List Loc) (x2_34 : Int32) (x5_34 : Int32) (ls : Array Slot), lv_has ls 7 [(0, .ref (aO a 0)), (1, .int p1), (2, .int x2_34), (3, .ref (aO a 1)), (4, .int (12 : Int32)), (5, .int x5_34)] → va_P D vwCl (KW c5 a k) H → va_D A (KW c5 a k) → va_S A s.heap H locs → R_X2_reap_L34 p1 n k x2_34 x5_34 = some (.ok r) → W p l e (headSpec (ws_ yX2_reap cX2_reap 7 (some .int)) { frames := 1, cells := 0, slots := 0, locals := 20 }).room s m ([.ref (aO a 0), .int p1] : List Value).toArray below meth c H locs 0 0 (MQ below (va_Qi (fun x u => x = r.1 ∧ u = r.2) (rwE D (tyG c5) (A) (fun u => KW c5 a u)) (A)) ([.ref (aO a 0), .int p1] : List Value).toArray s 0 0 A) (F0 m 34 ls []) := by
        intro n
        induction n with
        | zero =>
          intro k H locs x2_34 x5_34 ls hl hP hD hS h
          exact absurd h (by simp [R_X2_reap_L34])
        | succ n ih =>
          intro k H locs x2_34 x5_34 ls hl hP hD hS h
          rw [R_X2_reap_L34] at h
          refine lv_iload hx hb dX2_reap_34 (lv_at hl 5 rfl) ?_
          refine lv_iload hx hb dX2_reap_36 (lv_at hl 4 rfl) ?_
          refine lv_icmp_ge (tgt := 84) hx hb dX2_reap_38 (by decide) (fun q => ?_) (fun q => ?_)
          · have h := o_t h q
            refine lv_iload_n hx hb dX2_reap_84 rfl (lv_at hl 2 rfl) ?_
            obtain rfl := (Except.ok.inj (Option.some.inj h))
            exact rw_iret (wf := fun u => KW c5 a u) hx hb hr hlocks hP hK hD hS dX2_reap_85 rfl
          · have h := o_f h q
            refine lv_aload_n hx hb dX2_reap_41 rfl (lv_at hl 3 rfl) ?_
            refine lv_iload hx hb dX2_reap_42 (lv_at hl 5 rfl) ?_
            obtain ⟨g44, h⟩ := o_if h
            refine va_aldS hx hb hK hP g44 dX2_reap_44 ?_
            refine lv_astore (i := 6) (lv' := [(6, .ref (aS a (x5_34.toNatClampNeg))), (0, .ref (aO a 0)), (1, .int p1), (2, .int x2_34), (3, .ref (aO a 1)), (4, .int (12 : Int32)), (5, .int x5_34)]) hx hb dX2_reap_45 hl (by decide) rfl (fun ls hl => ?_)
            refine lv_aload hx hb dX2_reap_47 (lv_at hl 0 rfl) ?_
            obtain ⟨v49, e49, h⟩ := o_bind h
            refine ro_calli (ro_runV (As := []) (rest := []) ⟨hx, hb, hml, hown, hts⟩ hP hK (c_X1_state l D c5 a k hI (x5_34.toNatClampNeg) (inb_lt g44) v49 e49) gG_RX2_70 (va_recv hK hP (ci := 1) (q0 := (3 + (x5_34.toNatClampNeg))) rfl (KW_S c5 a k (inb_lt g44))) hd_X1_state ⟨Nat.le_of_ble_eq_true rfl, Nat.le_of_ble_eq_true rfl⟩ ⟨rfl, rfl⟩ hl.1 (Nat.le_of_ble_eq_true rfl) dX2_reap_49 ⟨Nat.zero_le _, Nat.zero_le _⟩ rfl) ?_
            refine lv_iconst (v := (1 : Int32)) hx hb dX2_reap_52 (by decide) ?_
            refine lv_icmp_ne (tgt := 78) hx hb dX2_reap_53 (by decide) (fun q => ?_) (fun q => ?_)
            · have h := o_t' h q
              refine lv_iinc (v := (x5_34 + (1 : Int32))) (lv' := [(5, .int (x5_34 + (1 : Int32))), (6, .ref (aS a (x5_34.toNatClampNeg))), (0, .ref (aO a 0)), (1, .int p1), (2, .int x2_34), (3, .ref (aO a 1)), (4, .int (12 : Int32))]) hx hb dX2_reap_78 hl (k := 6) rfl rfl (by decide) rfl (fun ls hl => ?_)
              refine lv_goto (tgt := 34) hx hb dX2_reap_81 (by decide) ?_
              exact ih k H locs x2_34 (x5_34 + (1 : Int32))  ls (lv_sub hl [2, 3, 4, 5, 6, 0] rfl) hP hD hS h
            · have h := o_f' h q
              refine lv_aload_n hx hb dX2_reap_56 rfl (lv_at hl 1 rfl) ?_
              refine va_get (D := D) (ci := 2) (v := .int (kG k 2)) (C := RX2) (T := TX2) (N := 7) hx hb hts iX2 hown hK hP 0 (KW_0 c5 a k) rfl 4 (by decide) (hts _ wT1_64) (fun _ h9 => h9) rfl dX2_reap_57 ?_
              refine lv_aload hx hb dX2_reap_60 (lv_at hl 0 rfl) ?_
              refine va_get (D := D) (ci := 1) (v := .int (kS k 7 (x5_34.toNatClampNeg))) (C := RX1) (T := TX1) (N := 8) hx hb hts iX1 hown hK hP (3 + (x5_34.toNatClampNeg)) (KW_S c5 a k (inb_lt g44)) rfl 7 (by decide) (hts _ wT1_41) (fun _ h9 => h9) rfl dX2_reap_62 ?_
              refine lv_isub hx hb dX2_reap_65 ?_
              refine lv_iload_n hx hb dX2_reap_66 rfl (lv_at hl 2 rfl) ?_
              refine lv_icmp_lt (tgt := 78) hx hb dX2_reap_67 (by decide) (fun q => ?_) (fun q => ?_)
              · have h := o_t h q
                refine lv_iinc (v := (x5_34 + (1 : Int32))) (lv' := [(5, .int (x5_34 + (1 : Int32))), (6, .ref (aS a (x5_34.toNatClampNeg))), (0, .ref (aO a 0)), (1, .int p1), (2, .int x2_34), (3, .ref (aO a 1)), (4, .int (12 : Int32))]) hx hb dX2_reap_78 hl (k := 6) rfl rfl (by decide) rfl (fun ls hl => ?_)
                refine lv_goto (tgt := 34) hx hb dX2_reap_81 (by decide) ?_
                exact ih k H locs x2_34 (x5_34 + (1 : Int32))  ls (lv_sub hl [2, 3, 4, 5, 6, 0] rfl) hP hD hS h
              · have h := o_f h q
                refine lv_aload hx hb dX2_reap_70 (lv_at hl 0 rfl) ?_
                obtain ⟨v72, e72, h⟩ := o_bind h
                refine rw_callv (rw_runV (As := []) (rest := []) ⟨hx, hb, hml, hown, hts⟩ hP hK hD (c_X1_becomeFree l D c5 a k hI H.size (x5_34.toNatClampNeg) (inb_lt g44) v72 e72) gG_RX2_112 (va_recv hK hP (ci := 1) (q0 := (3 + (x5_34.toNatClampNeg))) rfl (KW_S c5 a k (inb_lt g44))) hd_X1_becomeFree ⟨Nat.le_of_ble_eq_true rfl, Nat.le_of_ble_eq_true rfl⟩ ⟨rfl, rfl⟩ hl.1 (Nat.le_of_ble_eq_true rfl) dX2_reap_72 ⟨Nat.le_of_ble_eq_true rfl, Nat.le_of_ble_eq_true rfl⟩ rfl) hD hS hA (fun H locs hP hD hS => ?_)
                refine lv_iinc (v := (x2_34 + (1 : Int32))) (lv' := [(2, .int (x2_34 + (1 : Int32))), (6, .ref (aS a (x5_34.toNatClampNeg))), (0, .ref (aO a 0)), (1, .int p1), (3, .ref (aO a 1)), (4, .int (12 : Int32)), (5, .int x5_34)]) hx hb dX2_reap_75 hl (k := 3) rfl rfl (by decide) rfl (fun ls hl => ?_)
                refine lv_iinc (v := (x5_34 + (1 : Int32))) (lv' := [(5, .int (x5_34 + (1 : Int32))), (2, .int (x2_34 + (1 : Int32))), (6, .ref (aS a (x5_34.toNatClampNeg))), (0, .ref (aO a 0)), (1, .int p1), (3, .ref (aO a 1)), (4, .int (12 : Int32))]) hx hb dX2_reap_78 hl (k := 6) rfl rfl (by decide) rfl (fun ls hl => ?_)
                refine lv_goto (tgt := 34) hx hb dX2_reap_81 (by decide) ?_
                exact ih v72 H locs (x2_34 + (1 : Int32)) (x5_34 + (1 : Int32))  ls (lv_sub hl [3, 4, 1, 5, 6, 0] rfl) hP hD hS h
      exact L34 FU k s.heap [] (0 : Int32) (0 : Int32)  ls (lv_sub hl [4, 5, 3, 2, 1, 0] rfl) hP hD hS h
    · have h := o_f h q
      cases h

set_option maxHeartbeats 4000000 in
set_option maxRecDepth 100000 in
theorem x_X2_reap (l : Launch) (D : va_G) (c5 : Nat → ClassId) (a : KAd) (k : KSt) (hI : KI a) (sx : Nat → Nat) (hflags : l.flags = flags0) (p1 : Int32) (E : String) (h : R_X2_reap k p1 = some (.error E)) : vx_Met l yX2_reap (ws_ yX2_reap cX2_reap 7 (some .int)) { frames := 6, cells := 1, slots := 6, locals := 90 } (va_Pc [.ref (aO a 0), .int p1] (erB D (tyG c5) (KW c5 a k) sx)) ErrQ (ErrX E) 1 6 (fun _ => False) := by
  refine vx_ofW (cc := cX2_reap) (maxL := 7) (ret := (some .int)) (by decide) rfl ?_
  intro p e s m args below meth c s₁ B hml ht hv
  obtain ⟨rfl, hP, hK, hX⟩ := hv
  have hx := B.exec
  have hb := B.bytes
  have hr := B.returns
  have hts : ∀ w ∈ LA, w.before _ s = true := fun w hw => atoms_spec (ws := ws_ yX2_reap cX2_reap 7 (some .int)) B.pre w (List.mem_cons_of_mem _ hw)
  have hown : s.vm.findClass RX2 = some m.cls := findClass_of_methodNamed B.named
  have hlocks := B.notSynchronized
  have hs : va_S (fun _ => False) s.heap s.heap [] := va_S.rf
  have hl := lv_entry ([.ref (aO a 0), .int p1] : List Value) (n := 7) (Nat.le_of_ble_eq_true rfl)
  rw [lg_entry_eq]
  generalize (lg_sl ([.ref (aO a 0), .int p1] : List Value) ++ List.replicate (7 - (lg_sl ([.ref (aO a 0), .int p1] : List Value)).length) Slot.unset).toArray = ls at hl ⊢
  have hl : lv_has ls 7 [(0, .ref (aO a 0)), (1, .int p1)] := hl
  unfold R_X2_reap at h
  refine lv_iload_n hx hb dX2_reap_0 rfl (lv_at hl 1 rfl) ?_
  refine lv_if_lt (tgt := 10) hx hb dX2_reap_1 (by decide) (fun q => ?_) (fun q => ?_)
  · have h := o_t h q
    obtain rfl := Except.error.inj (Option.some.inj h)
    exact err_throw (own := RX2) hx hb hflags hown hX (hts _ wT2_4) (hts _ wT1_7) (st_107 hX) (at_44 hts hX) gd_44 hs (hl.1.trans hml.symm) dX2_reap_10 dX2_reap_13 dX2_reap_14 dX2_reap_16 dX2_reap_19 ht hlocks (Nat.le_of_ble_eq_true rfl) (Nat.le_of_ble_eq_true rfl) ⟨Nat.le_of_ble_eq_true rfl, Nat.le_of_ble_eq_true rfl⟩ (by decide +kernel)
  · have h := o_f h q
    refine lv_iload_n hx hb dX2_reap_4 rfl (lv_at hl 1 rfl) ?_
    refine lv_bipush (v := (99 : Int32)) hx hb dX2_reap_5 (by decide) ?_
    refine lv_icmp_le (tgt := 20) hx hb dX2_reap_7 (by decide) (fun q => ?_) (fun q => ?_)
    · have h := o_t h q
      refine lv_iconst (v := (0 : Int32)) hx hb dX2_reap_20 (by decide) ?_
      refine lv_istore_n (i := 2) (lv' := [(2, .int (0 : Int32)), (0, .ref (aO a 0)), (1, .int p1)]) hx hb dX2_reap_21 rfl hl (by decide) rfl (fun ls hl => ?_)
      refine lv_aload_n hx hb dX2_reap_22 rfl (lv_at hl 1 rfl) ?_
      refine va_get (D := D) (ci := 2) (v := .ref (aO a 1)) (C := RX2) (T := TX2) (N := 7) hx hb hts iX2 hown hK hP 0 (KW_0 c5 a k) rfl 0 (by decide) (hts _ wT1_60) (fun _ h9 => h9) rfl dX2_reap_23 ?_
      refine lv_astore_n (i := 3) (lv' := [(3, .ref (aO a 1)), (2, .int (0 : Int32)), (0, .ref (aO a 0)), (1, .int p1)]) hx hb dX2_reap_26 rfl hl (by decide) rfl (fun ls hl => ?_)
      refine lv_aload_n hx hb dX2_reap_27 rfl (lv_at hl 0 rfl) ?_
      refine va_alen (v := (12 : Int32)) hx hb hK hP 1 0 (KW_1 c5 a k) rfl rfl dX2_reap_28 ?_
      refine lv_istore (i := 4) (lv' := [(4, .int (12 : Int32)), (3, .ref (aO a 1)), (2, .int (0 : Int32)), (0, .ref (aO a 0)), (1, .int p1)]) hx hb dX2_reap_29 hl (by decide) rfl (fun ls hl => ?_)
      refine lv_iconst (v := (0 : Int32)) hx hb dX2_reap_31 (by decide) ?_
      refine lv_istore (i := 5) (lv' := [(5, .int (0 : Int32)), (4, .int (12 : Int32)), (3, .ref (aO a 1)), (2, .int (0 : Int32)), (0, .ref (aO a 0)), (1, .int p1)]) hx hb dX2_reap_32 hl (by decide) rfl (fun ls hl => ?_)
      exfalso
      have L34 : ∀ (n : Nat) (k : KSt) (x2_34 : Int32) (x5_34 : Int32), R_X2_reap_L34 p1 n k x2_34 x5_34 = some (.error E) → False := by
        intro n
        induction n with
        | zero =>
          intro k x2_34 x5_34 h
          exact absurd h (by simp [R_X2_reap_L34])
        | succ n ih =>
          intro k x2_34 x5_34 h
          rw [R_X2_reap_L34] at h
          rcases Decidable.em ((12 : Int32) ≤ x5_34) with q | q
          · have h := o_t h q
            cases h
          · have h := o_f h q
            obtain ⟨g44, h⟩ := o_if h
            obtain ⟨v49, e49, h⟩ := o_bind h
            rcases Decidable.em (v49 = (1 : Int32)) with q | q
            · have h := o_f' h q
              rcases Decidable.em (((kG k 2) - (kS k 7 (x5_34.toNatClampNeg))) < p1) with q | q
              · have h := o_t h q
                exact ih k x2_34 (x5_34 + (1 : Int32)) h
              · have h := o_f h q
                obtain ⟨v72, e72, h⟩ := o_bind h
                exact ih v72 (x2_34 + (1 : Int32)) (x5_34 + (1 : Int32)) h
            · have h := o_t' h q
              exact ih k x2_34 (x5_34 + (1 : Int32)) h
      exact L34 FU k (0 : Int32) (0 : Int32) h
    · have h := o_f h q
      obtain rfl := Except.error.inj (Option.some.inj h)
      exact err_throw (own := RX2) hx hb hflags hown hX (hts _ wT2_4) (hts _ wT1_7) (st_107 hX) (at_44 hts hX) gd_44 hs (hl.1.trans hml.symm) dX2_reap_10 dX2_reap_13 dX2_reap_14 dX2_reap_16 dX2_reap_19 ht hlocks (Nat.le_of_ble_eq_true rfl) (Nat.le_of_ble_eq_true rfl) ⟨Nat.le_of_ble_eq_true rfl, Nat.le_of_ble_eq_true rfl⟩ (by decide +kernel)
set_option maxHeartbeats 4000000 in
set_option maxRecDepth 100000 in
theorem c_X2_pack (l : Launch) (D : va_G) (c5 : Nat → ClassId) (a : KAd) (k : KSt) (hI : KI a) (sz : Nat) (p1 : Int32) (r : Int32 × KSt) (h : R_X2_pack k p1 = some (.ok r)) : Met l yX2_pack (ws_ yX2_pack cX2_pack 4 (some .int)) { frames := 3, cells := 0, slots := 0, locals := 71 } (va_Pc [.ref (aO a 0), .int p1] (rwB D (tyG c5) (KW c5 a k) sz)) (va_Qi (fun x u => x = r.1 ∧ u = r.2) (rwE D (tyG c5) (va_A (KW c5 a k) sz) (fun u => KW c5 a u)) (va_A (KW c5 a k) sz)) 0 0 (va_A (KW c5 a k) sz) := by
  refine Met.ofW (cc := cX2_pack) (maxL := 4) (ret := (some .int)) (by decide) rfl ?_
  intro p e s m args below meth c s₁ B hml hv
  obtain ⟨rfl, hsz, hP, hK, hD0⟩ := hv
  have hx := B.exec
  have hb := B.bytes
  have hr := B.returns
  have hts : ∀ w ∈ LA, w.before _ s = true := fun w hw => atoms_spec (ws := ws_ yX2_pack cX2_pack 4 (some .int)) B.pre w (List.mem_cons_of_mem _ hw)
  have hown : s.vm.findClass RX2 = some m.cls := findClass_of_methodNamed B.named
  have hlocks := B.notSynchronized
  subst hsz
  have hD := hD0.self (sz := s.heap.size)
  generalize hAe : va_A (KW c5 a k) s.heap.size = A at hD ⊢
  have hA : ∀ q : Nat, s.heap.size ≤ q → A q := fun q h => by rw [← hAe]; exact Or.inr h
  have hS : va_S A s.heap s.heap [] := va_S.rf
  have hl := lv_entry ([.ref (aO a 0), .int p1] : List Value) (n := 4) (Nat.le_of_ble_eq_true rfl)
  rw [lg_entry_eq]
  generalize (lg_sl ([.ref (aO a 0), .int p1] : List Value) ++ List.replicate (4 - (lg_sl ([.ref (aO a 0), .int p1] : List Value)).length) Slot.unset).toArray = ls at hl ⊢
  have hl : lv_has ls 4 [(0, .ref (aO a 0)), (1, .int p1)] := hl
  unfold R_X2_pack at h
  refine lv_aload_n hx hb dX2_pack_0 rfl (lv_at hl 0 rfl) ?_
  refine lv_iload_n hx hb dX2_pack_1 rfl (lv_at hl 1 rfl) ?_
  obtain ⟨v2, e2, h⟩ := xb_ok h
  refine ro_calle1 (ro_runV (As := [.int p1]) (rest := []) ⟨hx, hb, hml, hown, hts⟩ hP hK (c_X2_kindOf l D c5 a k hI p1 v2 e2) gG_RX2_60 (va_recv hK hP (ci := 2) (q0 := 0) rfl (KW_0 c5 a k)) hd_X2_kindOf ⟨Nat.le_of_ble_eq_true rfl, Nat.le_of_ble_eq_true rfl⟩ ⟨rfl, rfl⟩ hl.1 (Nat.le_of_ble_eq_true rfl) dX2_pack_2 ⟨Nat.zero_le _, Nat.zero_le _⟩ rfl) ?_
  obtain ⟨gr2, h⟩ := o_if h
  refine lv_astore_n (i := 2) (lv' := [(2, .ref (aK a v2)), (0, .ref (aO a 0)), (1, .int p1)]) hx hb dX2_pack_5 rfl hl (by decide) rfl (fun ls hl => ?_)
  refine lv_iconst (v := (0 : Int32)) hx hb dX2_pack_6 (by decide) ?_
  refine lv_istore_n (i := 3) (lv' := [(3, .int (0 : Int32)), (2, .ref (aK a v2)), (0, .ref (aO a 0)), (1, .int p1)]) hx hb dX2_pack_7 rfl hl (by decide) rfl (fun ls hl => ?_)
  have L8 : ∀ (n : Nat) (k : KSt) (H : Heap) (locs : List Loc) (v2 : Nat) (x3_8 : Int32) (ls : Array Slot), lv_has ls 4 [(0, .ref (aO a 0)), (1, .int p1), (2, .ref (aK a v2)), (3, .int x3_8)] → va_P D vwCl (KW c5 a k) H → va_D A (KW c5 a k) → va_S A s.heap H locs → R_X2_pack_L8 v2 n k x3_8 = some (.ok r) → W p l e (headSpec (ws_ yX2_pack cX2_pack 4 (some .int)) { frames := 3, cells := 0, slots := 0, locals := 71 }).room s m ([.ref (aO a 0), .int p1] : List Value).toArray below meth c H locs 0 0 (MQ below (va_Qi (fun x u => x = r.1 ∧ u = r.2) (rwE D (tyG c5) (A) (fun u => KW c5 a u)) (A)) ([.ref (aO a 0), .int p1] : List Value).toArray s 0 0 A) (F0 m 8 ls []) := by
    intro n
    induction n with
    | zero =>
      intro k H locs v2 x3_8 ls hl hP hD hS h
      exact absurd h (by simp [R_X2_pack_L8])
    | succ n ih =>
      intro k H locs v2 x3_8 ls hl hP hD hS h
      rw [R_X2_pack_L8] at h
      obtain ⟨hf2_8, h⟩ := o_if h
      refine lv_iload_n hx hb dX2_pack_8 rfl (lv_at hl 3 rfl) ?_
      refine lv_sipush (v := (1000 : Int32)) hx hb dX2_pack_9 (by decide) ?_
      refine lv_icmp_ge (tgt := 29) hx hb dX2_pack_12 (by decide) (fun q => ?_) (fun q => ?_)
      · have h := o_t h q
        refine lv_aload_n hx hb dX2_pack_29 rfl (lv_at hl 0 rfl) ?_
        refine lv_dup hx hb dX2_pack_30 rfl ?_
        refine va_get (D := D) (ci := 2) (v := .int (kG k 4)) (C := RX2) (T := TX2) (N := 7) hx hb hts iX2 hown hK hP 0 (KW_0 c5 a k) rfl 6 (by decide) (hts _ wT1_66) (fun _ h9 => h9) rfl dX2_pack_31 ?_
        refine lv_iload_n hx hb dX2_pack_34 rfl (lv_at hl 3 rfl) ?_
        refine lv_iadd hx hb dX2_pack_35 ?_
        refine va_put (D := D) (ci := 2) (v := .int ((kG k 4) + x3_8)) (ty := .int) (C := RX2) (T := TX2) (N := 7) hx hb hts iX2 tyX2 tyX2_ok nmX2 hown hK hP hD hS 0 (KW_0 c5 a k) rfl 6 (by decide) (hts _ wT1_66) (fun _ h9 => h9) rfl (by decide +kernel) rfl rfl (Nat.le_of_ble_eq_true rfl) dX2_pack_36 (fun H locs hP hD hS => ?_)
        have hP := wP (KW_set0 c5 a k 4 (by decide) _) hP
        have hD := wD (KW_set0 c5 a k 4 (by decide) _) hD
        refine lv_iload_n hx hb dX2_pack_39 rfl (lv_at hl 3 rfl) ?_
        obtain rfl := (Except.ok.inj (Option.some.inj h))
        exact rw_iret (wf := fun u => KW c5 a u) hx hb hr hlocks hP hK hD hS dX2_pack_40 rfl
      · have h := o_f h q
        refine lv_aload_n hx hb dX2_pack_15 rfl (lv_at hl 0 rfl) ?_
        refine lv_aload_n hx hb dX2_pack_16 rfl (lv_at hl 2 rfl) ?_
        obtain ⟨v17, e17, h⟩ := o_bind h
        refine rw_calli (rw_runV (As := [.ref (aK a v2)]) (rest := []) ⟨hx, hb, hml, hown, hts⟩ hP hK hD (c_X2_moveToPack l D c5 a k hI H.size v2 hf2_8 v17 e17) gG_RX2_115 (va_recv hK hP (ci := 2) (q0 := 0) rfl (KW_0 c5 a k)) hd_X2_moveToPack ⟨Nat.le_of_ble_eq_true rfl, Nat.le_of_ble_eq_true rfl⟩ ⟨rfl, rfl⟩ hl.1 (Nat.le_of_ble_eq_true rfl) dX2_pack_17 ⟨Nat.le_of_ble_eq_true rfl, Nat.le_of_ble_eq_true rfl⟩ rfl) hD hS hA (fun H locs hP hD hS => ?_)
        refine lv_if_eq (tgt := 29) hx hb dX2_pack_20 (by decide) (fun q => ?_) (fun q => ?_)
        · have h := o_t h q
          refine lv_aload_n hx hb dX2_pack_29 rfl (lv_at hl 0 rfl) ?_
          refine lv_dup hx hb dX2_pack_30 rfl ?_
          refine va_get (D := D) (ci := 2) (v := .int (kG v17.2 4)) (C := RX2) (T := TX2) (N := 7) hx hb hts iX2 hown hK hP 0 (KW_0 c5 a v17.2) rfl 6 (by decide) (hts _ wT1_66) (fun _ h9 => h9) rfl dX2_pack_31 ?_
          refine lv_iload_n hx hb dX2_pack_34 rfl (lv_at hl 3 rfl) ?_
          refine lv_iadd hx hb dX2_pack_35 ?_
          refine va_put (D := D) (ci := 2) (v := .int ((kG v17.2 4) + x3_8)) (ty := .int) (C := RX2) (T := TX2) (N := 7) hx hb hts iX2 tyX2 tyX2_ok nmX2 hown hK hP hD hS 0 (KW_0 c5 a v17.2) rfl 6 (by decide) (hts _ wT1_66) (fun _ h9 => h9) rfl (by decide +kernel) rfl rfl (Nat.le_of_ble_eq_true rfl) dX2_pack_36 (fun H locs hP hD hS => ?_)
          have hP := wP (KW_set0 c5 a v17.2 4 (by decide) _) hP
          have hD := wD (KW_set0 c5 a v17.2 4 (by decide) _) hD
          refine lv_iload_n hx hb dX2_pack_39 rfl (lv_at hl 3 rfl) ?_
          obtain rfl := (Except.ok.inj (Option.some.inj h))
          exact rw_iret (wf := fun u => KW c5 a u) hx hb hr hlocks hP hK hD hS dX2_pack_40 rfl
        · have h := o_f h q
          refine lv_iinc (v := (x3_8 + (1 : Int32))) (lv' := [(3, .int (x3_8 + (1 : Int32))), (0, .ref (aO a 0)), (1, .int p1), (2, .ref (aK a v2))]) hx hb dX2_pack_23 hl (k := 3) rfl rfl (by decide) rfl (fun ls hl => ?_)
          refine lv_goto (tgt := 8) hx hb dX2_pack_26 (by decide) ?_
          exact ih v17.2 H locs v2 (x3_8 + (1 : Int32))  ls (lv_sub hl [1, 2, 3, 0] rfl) hP hD hS h
  exact L8 FU k s.heap [] v2 (0 : Int32)  ls (lv_sub hl [2, 3, 1, 0] rfl) hP hD hS h

set_option maxHeartbeats 4000000 in
set_option maxRecDepth 100000 in
theorem x_X2_pack (l : Launch) (D : va_G) (c5 : Nat → ClassId) (a : KAd) (k : KSt) (hI : KI a) (sx : Nat → Nat) (hflags : l.flags = flags0) (p1 : Int32) (E : String) (h : R_X2_pack k p1 = some (.error E)) : vx_Met l yX2_pack (ws_ yX2_pack cX2_pack 4 (some .int)) { frames := 7, cells := 1, slots := 6, locals := 111 } (va_Pc [.ref (aO a 0), .int p1] (erB D (tyG c5) (KW c5 a k) sx)) ErrQ (ErrX E) 1 6 (fun _ => False) := by
  refine vx_ofW (cc := cX2_pack) (maxL := 4) (ret := (some .int)) (by decide) rfl ?_
  intro p e s m args below meth c s₁ B hml ht hv
  obtain ⟨rfl, hP, hK, hX⟩ := hv
  have hx := B.exec
  have hb := B.bytes
  have hr := B.returns
  have hts : ∀ w ∈ LA, w.before _ s = true := fun w hw => atoms_spec (ws := ws_ yX2_pack cX2_pack 4 (some .int)) B.pre w (List.mem_cons_of_mem _ hw)
  have hown : s.vm.findClass RX2 = some m.cls := findClass_of_methodNamed B.named
  have hlocks := B.notSynchronized
  have hs : va_S (fun _ => False) s.heap s.heap [] := va_S.rf
  have hl := lv_entry ([.ref (aO a 0), .int p1] : List Value) (n := 4) (Nat.le_of_ble_eq_true rfl)
  rw [lg_entry_eq]
  generalize (lg_sl ([.ref (aO a 0), .int p1] : List Value) ++ List.replicate (4 - (lg_sl ([.ref (aO a 0), .int p1] : List Value)).length) Slot.unset).toArray = ls at hl ⊢
  have hl : lv_has ls 4 [(0, .ref (aO a 0)), (1, .int p1)] := hl
  unfold R_X2_pack at h
  refine lv_aload_n hx hb dX2_pack_0 rfl (lv_at hl 0 rfl) ?_
  refine lv_iload_n hx hb dX2_pack_1 rfl (lv_at hl 1 rfl) ?_
  rcases xb_some h with ⟨v2, e2, h⟩ | ⟨x9, e2, h⟩
  · refine ro_calle1 (ro_runV (As := [.int p1]) (rest := []) ⟨hx, hb, hml, hown, hts⟩ hP hK (c_X2_kindOf l D c5 a k hI p1 v2 e2) gG_RX2_60 (va_recv hK hP (ci := 2) (q0 := 0) rfl (KW_0 c5 a k)) hd_X2_kindOf ⟨Nat.le_of_ble_eq_true rfl, Nat.le_of_ble_eq_true rfl⟩ ⟨rfl, rfl⟩ hl.1 (Nat.le_of_ble_eq_true rfl) dX2_pack_2 ⟨Nat.zero_le _, Nat.zero_le _⟩ rfl) ?_
    obtain ⟨gr2, h⟩ := o_if h
    refine lv_astore_n (i := 2) (lv' := [(2, .ref (aK a v2)), (0, .ref (aO a 0)), (1, .int p1)]) hx hb dX2_pack_5 rfl hl (by decide) rfl (fun ls hl => ?_)
    refine lv_iconst (v := (0 : Int32)) hx hb dX2_pack_6 (by decide) ?_
    refine lv_istore_n (i := 3) (lv' := [(3, .int (0 : Int32)), (2, .ref (aK a v2)), (0, .ref (aO a 0)), (1, .int p1)]) hx hb dX2_pack_7 rfl hl (by decide) rfl (fun ls hl => ?_)
    exfalso
    have L8 : ∀ (n : Nat) (k : KSt) (v2 : Nat) (x3_8 : Int32), R_X2_pack_L8 v2 n k x3_8 = some (.error E) → False := by
      intro n
      induction n with
      | zero =>
        intro k v2 x3_8 h
        exact absurd h (by simp [R_X2_pack_L8])
      | succ n ih =>
        intro k v2 x3_8 h
        rw [R_X2_pack_L8] at h
        obtain ⟨hf2_8, h⟩ := o_if h
        rcases Decidable.em ((1000 : Int32) ≤ x3_8) with q | q
        · have h := o_t h q
          cases h
        · have h := o_f h q
          obtain ⟨v17, e17, h⟩ := o_bind h
          rcases Decidable.em (v17.1 = 0) with q | q
          · have h := o_t h q
            cases h
          · have h := o_f h q
            exact ih v17.2 v2 (x3_8 + (1 : Int32)) h
    exact L8 FU k v2 (0 : Int32) h
  · obtain rfl := Except.error.inj h
    exact er_call (er_runV (As := [.int p1]) (rest := []) ⟨hx, hb, hml, hown, hts⟩ hP hK hX (x_X2_kindOf l D c5 a k hI sx hflags p1 E e2) gG_RX2_60 (va_recv hK hP (ci := 2) (q0 := 0) rfl (KW_0 c5 a k)) hd_X2_kindOf ⟨Nat.le_of_ble_eq_true rfl, Nat.le_of_ble_eq_true rfl⟩ ⟨rfl, rfl⟩ hl.1 (Nat.le_of_ble_eq_true rfl) dX2_pack_2 ⟨Nat.le_of_ble_eq_true rfl, Nat.le_of_ble_eq_true rfl⟩ rfl) ht hlocks
set_option maxHeartbeats 4000000 in
set_option maxRecDepth 100000 in
theorem c_X2_advise (l : Launch) (D : va_G) (c5 : Nat → ClassId) (a : KAd) (k : KSt) (hI : KI a) (r : Int32) (h : R_X2_advise k = some r) : Met l yX2_advise (ws_ yX2_advise cX2_advise 7 (some .int)) { frames := 2, cells := 0, slots := 0, locals := 48 } (va_Pc [.ref (aO a 0)] (roB D (tyG c5) (KW c5 a k))) (vp_Si (fun x => x = r)) 0 0 (fun _ => False) := by
  refine Met.ofW (cc := cX2_advise) (maxL := 7) (ret := (some .int)) (by decide) rfl ?_
  intro p e s m args below meth c s₁ B hml hv
  obtain ⟨rfl, hP, hK⟩ := hv
  have hx := B.exec
  have hb := B.bytes
  have hr := B.returns
  have hts : ∀ w ∈ LA, w.before _ s = true := fun w hw => atoms_spec (ws := ws_ yX2_advise cX2_advise 7 (some .int)) B.pre w (List.mem_cons_of_mem _ hw)
  have hown : s.vm.findClass RX2 = some m.cls := findClass_of_methodNamed B.named
  have hlocks := B.notSynchronized
  have hl := lv_entry ([.ref (aO a 0)] : List Value) (n := 7) (Nat.le_of_ble_eq_true rfl)
  rw [lg_entry_eq]
  generalize (lg_sl ([.ref (aO a 0)] : List Value) ++ List.replicate (7 - (lg_sl ([.ref (aO a 0)] : List Value)).length) Slot.unset).toArray = ls at hl ⊢
  have hl : lv_has ls 7 [(0, .ref (aO a 0))] := hl
  unfold R_X2_advise at h
  refine lv_iconst (v := (-1 : Int32)) hx hb dX2_advise_0 (by decide) ?_
  refine lv_istore_n (i := 1) (lv' := [(1, .int (-1 : Int32)), (0, .ref (aO a 0))]) hx hb dX2_advise_1 rfl hl (by decide) rfl (fun ls hl => ?_)
  refine lv_iconst (v := (-1 : Int32)) hx hb dX2_advise_2 (by decide) ?_
  refine lv_istore_n (i := 2) (lv' := [(2, .int (-1 : Int32)), (1, .int (-1 : Int32)), (0, .ref (aO a 0))]) hx hb dX2_advise_3 rfl hl (by decide) rfl (fun ls hl => ?_)
  refine lv_aload_n hx hb dX2_advise_4 rfl (lv_at hl 2 rfl) ?_
  refine va_get (D := D) (ci := 2) (v := .ref (aO a 2)) (C := RX2) (T := TX2) (N := 7) hx hb hts iX2 hown hK hP 0 (KW_0 c5 a k) rfl 1 (by decide) (hts _ wT1_61) (fun _ h9 => h9) rfl dX2_advise_5 ?_
  refine lv_astore_n (i := 3) (lv' := [(3, .ref (aO a 2)), (2, .int (-1 : Int32)), (1, .int (-1 : Int32)), (0, .ref (aO a 0))]) hx hb dX2_advise_8 rfl hl (by decide) rfl (fun ls hl => ?_)
  refine lv_aload_n hx hb dX2_advise_9 rfl (lv_at hl 0 rfl) ?_
  refine va_alen (v := (5 : Int32)) hx hb hK hP 2 1 (KW_2 c5 a k) rfl rfl dX2_advise_10 ?_
  refine lv_istore (i := 4) (lv' := [(4, .int (5 : Int32)), (3, .ref (aO a 2)), (2, .int (-1 : Int32)), (1, .int (-1 : Int32)), (0, .ref (aO a 0))]) hx hb dX2_advise_11 hl (by decide) rfl (fun ls hl => ?_)
  refine lv_iconst (v := (0 : Int32)) hx hb dX2_advise_13 (by decide) ?_
  refine lv_istore (i := 5) (lv' := [(5, .int (0 : Int32)), (4, .int (5 : Int32)), (3, .ref (aO a 2)), (2, .int (-1 : Int32)), (1, .int (-1 : Int32)), (0, .ref (aO a 0))]) hx hb dX2_advise_14 hl (by decide) rfl (fun ls hl => ?_)
  have L16 : ∀ (n : Nat) (x1_16 : Int32) (x2_16 : Int32) (x5_16 : Int32) (ls : Array Slot), lv_has ls 7 [(0, .ref (aO a 0)), (1, .int x1_16), (2, .int x2_16), (3, .ref (aO a 2)), (4, .int (5 : Int32)), (5, .int x5_16)] → R_X2_advise_L16 k n x1_16 x2_16 x5_16 = some r → W p l e (headSpec (ws_ yX2_advise cX2_advise 7 (some .int)) { frames := 2, cells := 0, slots := 0, locals := 48 }).room s m ([.ref (aO a 0)] : List Value).toArray below meth c s.heap [] 0 0 (MQ below (vp_Si (fun x => x = r)) ([.ref (aO a 0)] : List Value).toArray s 0 0 (fun _ => False)) (F0 m 16 ls []) := by
    intro n
    induction n with
    | zero =>
      intro x1_16 x2_16 x5_16 ls hl h
      exact absurd h (by simp [R_X2_advise_L16])
    | succ n ih =>
      intro x1_16 x2_16 x5_16 ls hl h
      rw [R_X2_advise_L16] at h
      refine lv_iload hx hb dX2_advise_16 (lv_at hl 5 rfl) ?_
      refine lv_iload hx hb dX2_advise_18 (lv_at hl 4 rfl) ?_
      refine lv_icmp_ge (tgt := 63) hx hb dX2_advise_20 (by decide) (fun q => ?_) (fun q => ?_)
      · have h := o_t h q
        refine lv_iload_n hx hb dX2_advise_63 rfl (lv_at hl 1 rfl) ?_
        exact ro_iret hx hb hr hlocks dX2_advise_64 (Option.some.inj h)
      · have h := o_f h q
        refine lv_aload_n hx hb dX2_advise_23 rfl (lv_at hl 3 rfl) ?_
        refine lv_iload hx hb dX2_advise_24 (lv_at hl 5 rfl) ?_
        obtain ⟨g26, h⟩ := o_if h
        refine va_aldK hx hb hK hP g26 dX2_advise_26 ?_
        refine qv_astore (i := 6) (lv' := [(6, va_rf ((knd k (x5_16.toNatClampNeg)).map (aK a))), (0, .ref (aO a 0)), (1, .int x1_16), (2, .int x2_16), (3, .ref (aO a 2)), (4, .int (5 : Int32)), (5, .int x5_16)]) hx hb dX2_advise_27 hl (by decide) rfl (fun ls hl => ?_)
        refine qv_aload hx hb dX2_advise_29 (lv_at hl 0 rfl) ?_
        generalize hq31 : (knd k (x5_16.toNatClampNeg)) = q31 at h hl ⊢
        cases q31 with
        | none =>
          have h := oe_n h
          have hl : lv_has ls 7 [(6, .null), (0, .ref (aO a 0)), (1, .int x1_16), (2, .int x2_16), (3, .ref (aO a 2)), (4, .int (5 : Int32)), (5, .int x5_16)] := hl
          refine lv_ifnullN (tgt := 57) hx hb dX2_advise_31 (by decide) ?_
          refine lv_iinc (v := (x5_16 + (1 : Int32))) (lv' := [(5, .int (x5_16 + (1 : Int32))), (6, .null), (0, .ref (aO a 0)), (1, .int x1_16), (2, .int x2_16), (3, .ref (aO a 2)), (4, .int (5 : Int32))]) hx hb dX2_advise_57 hl (k := 6) rfl rfl (by decide) rfl (fun ls hl => ?_)
          refine lv_goto (tgt := 16) hx hb dX2_advise_60 (by decide) ?_
          exact ih x1_16 x2_16 (x5_16 + (1 : Int32))  ls (lv_sub hl [2, 3, 4, 5, 6, 0] rfl) h
        | some j31 =>
          obtain ⟨hj31, h⟩ := oe_sif h
          have hl : lv_has ls 7 [(6, .ref (aK a j31)), (0, .ref (aO a 0)), (1, .int x1_16), (2, .int x2_16), (3, .ref (aO a 2)), (4, .int (5 : Int32)), (5, .int x5_16)] := hl
          refine lv_ifnull hx hb dX2_advise_31 ?_
          refine lv_aload_n hx hb dX2_advise_34 rfl (lv_at hl 1 rfl) ?_
          refine lv_aload hx hb dX2_advise_35 (lv_at hl 0 rfl) ?_
          obtain ⟨v37, e37, h⟩ := o_bind h
          refine ro_calli (ro_runV (As := [.ref (aK a j31)]) (rest := []) ⟨hx, hb, hml, hown, hts⟩ hP hK (c_X2_gainsOf l D c5 a k hI j31 hj31 v37 e37) gG_RX2_164 (va_recv hK hP (ci := 2) (q0 := 0) rfl (KW_0 c5 a k)) hd_X2_gainsOf ⟨Nat.le_of_ble_eq_true rfl, Nat.le_of_ble_eq_true rfl⟩ ⟨rfl, rfl⟩ hl.1 (Nat.le_of_ble_eq_true rfl) dX2_advise_37 ⟨Nat.zero_le _, Nat.zero_le _⟩ rfl) ?_
          refine lv_iload_n hx hb dX2_advise_40 rfl (lv_at hl 3 rfl) ?_
          refine lv_icmp_le (tgt := 57) hx hb dX2_advise_41 (by decide) (fun q => ?_) (fun q => ?_)
          · have h := o_t h q
            refine lv_iinc (v := (x5_16 + (1 : Int32))) (lv' := [(5, .int (x5_16 + (1 : Int32))), (6, .ref (aK a j31)), (0, .ref (aO a 0)), (1, .int x1_16), (2, .int x2_16), (3, .ref (aO a 2)), (4, .int (5 : Int32))]) hx hb dX2_advise_57 hl (k := 6) rfl rfl (by decide) rfl (fun ls hl => ?_)
            refine lv_goto (tgt := 16) hx hb dX2_advise_60 (by decide) ?_
            exact ih x1_16 x2_16 (x5_16 + (1 : Int32))  ls (lv_sub hl [2, 3, 4, 5, 6, 0] rfl) h
          · have h := o_f h q
            refine lv_aload hx hb dX2_advise_44 (lv_at hl 0 rfl) ?_
            refine va_get (D := D) (ci := 0) (v := .int (nI j31)) (C := RX0) (T := TX0) (N := 6) hx hb hts iX0 hown hK hP (27 + j31) (KW_K c5 a k hj31) rfl 0 (by decide) (hts _ wT3_52) (fun _ h9 => h9) rfl dX2_advise_46 ?_
            refine lv_istore_n (i := 1) (lv' := [(1, .int (nI j31)), (6, .ref (aK a j31)), (0, .ref (aO a 0)), (2, .int x2_16), (3, .ref (aO a 2)), (4, .int (5 : Int32)), (5, .int x5_16)]) hx hb dX2_advise_49 rfl hl (by decide) rfl (fun ls hl => ?_)
            refine lv_aload_n hx hb dX2_advise_50 rfl (lv_at hl 2 rfl) ?_
            refine lv_aload hx hb dX2_advise_51 (lv_at hl 1 rfl) ?_
            obtain ⟨v53, e53, h⟩ := o_bind h
            refine ro_calli (ro_runV (As := [.ref (aK a j31)]) (rest := []) ⟨hx, hb, hml, hown, hts⟩ hP hK (c_X2_gainsOf l D c5 a k hI j31 hj31 v53 e53) gG_RX2_164 (va_recv hK hP (ci := 2) (q0 := 0) rfl (KW_0 c5 a k)) hd_X2_gainsOf ⟨Nat.le_of_ble_eq_true rfl, Nat.le_of_ble_eq_true rfl⟩ ⟨rfl, rfl⟩ hl.1 (Nat.le_of_ble_eq_true rfl) dX2_advise_53 ⟨Nat.zero_le _, Nat.zero_le _⟩ rfl) ?_
            refine lv_istore_n (i := 2) (lv' := [(2, .int v53), (1, .int (nI j31)), (6, .ref (aK a j31)), (0, .ref (aO a 0)), (3, .ref (aO a 2)), (4, .int (5 : Int32)), (5, .int x5_16)]) hx hb dX2_advise_56 rfl hl (by decide) rfl (fun ls hl => ?_)
            refine lv_iinc (v := (x5_16 + (1 : Int32))) (lv' := [(5, .int (x5_16 + (1 : Int32))), (2, .int v53), (1, .int (nI j31)), (6, .ref (aK a j31)), (0, .ref (aO a 0)), (3, .ref (aO a 2)), (4, .int (5 : Int32))]) hx hb dX2_advise_57 hl (k := 6) rfl rfl (by decide) rfl (fun ls hl => ?_)
            refine lv_goto (tgt := 16) hx hb dX2_advise_60 (by decide) ?_
            exact ih (nI j31) v53 (x5_16 + (1 : Int32))  ls (lv_sub hl [4, 2, 1, 5, 6, 0] rfl) h
  exact L16 FU (-1 : Int32) (-1 : Int32) (0 : Int32)  ls (lv_sub hl [5, 4, 3, 2, 1, 0] rfl) h
set_option maxHeartbeats 4000000 in
set_option maxRecDepth 100000 in
theorem c_X2_mean (l : Launch) (D : va_G) (c5 : Nat → ClassId) (a : KAd) (k : KSt) (hI : KI a) (r : UInt64) (h : R_X2_mean k = some r) : Met l yX2_mean (ws_ yX2_mean cX2_mean 2 (some .double)) { frames := 3, cells := 0, slots := 0, locals := 65 } (va_Pc [.ref (aO a 0)] (roB D (tyG c5) (KW c5 a k))) (vp_Sd (fun x => x = r)) 0 0 (fun _ => False) := by
  refine Met.ofW (cc := cX2_mean) (maxL := 2) (ret := (some .double)) (by decide) rfl ?_
  intro p e s m args below meth c s₁ B hml hv
  obtain ⟨rfl, hP, hK⟩ := hv
  have hx := B.exec
  have hb := B.bytes
  have hr := B.returns
  have hts : ∀ w ∈ LA, w.before _ s = true := fun w hw => atoms_spec (ws := ws_ yX2_mean cX2_mean 2 (some .double)) B.pre w (List.mem_cons_of_mem _ hw)
  have hown : s.vm.findClass RX2 = some m.cls := findClass_of_methodNamed B.named
  have hlocks := B.notSynchronized
  have hl := lv_entry ([.ref (aO a 0)] : List Value) (n := 2) (Nat.le_of_ble_eq_true rfl)
  rw [lg_entry_eq]
  generalize (lg_sl ([.ref (aO a 0)] : List Value) ++ List.replicate (2 - (lg_sl ([.ref (aO a 0)] : List Value)).length) Slot.unset).toArray = ls at hl ⊢
  have hl : lv_has ls 2 [(0, .ref (aO a 0))] := hl
  unfold R_X2_mean at h
  refine lv_aload_n hx hb dX2_mean_0 rfl (lv_at hl 0 rfl) ?_
  obtain ⟨v1, e1, h⟩ := o_bind h
  refine ro_calli (ro_runV (As := []) (rest := []) ⟨hx, hb, hml, hown, hts⟩ hP hK (c_X2_takenShelves l D c5 a k hI  v1 e1) gG_RX2_143 (va_recv hK hP (ci := 2) (q0 := 0) rfl (KW_0 c5 a k)) hd_X2_takenShelves ⟨Nat.le_of_ble_eq_true rfl, Nat.le_of_ble_eq_true rfl⟩ ⟨rfl, rfl⟩ hl.1 (Nat.le_of_ble_eq_true rfl) dX2_mean_1 ⟨Nat.zero_le _, Nat.zero_le _⟩ rfl) ?_
  refine lv_istore_n (i := 1) (lv' := [(1, .int v1), (0, .ref (aO a 0))]) hx hb dX2_mean_4 rfl hl (by decide) rfl (fun ls hl => ?_)
  refine lv_iload_n hx hb dX2_mean_5 rfl (lv_at hl 0 rfl) ?_
  refine lv_if_ne (tgt := 11) hx hb dX2_mean_6 (by decide) (fun q => ?_) (fun q => ?_)
  · have h := o_t' h q
    refine lv_aload_n hx hb dX2_mean_11 rfl (lv_at hl 1 rfl) ?_
    obtain ⟨v12, e12, h⟩ := o_bind h
    refine ro_calli (ro_runV (As := []) (rest := []) ⟨hx, hb, hml, hown, hts⟩ hP hK (c_X2_bowlsInAll l D c5 a k hI  v12 e12) gG_RX2_137 (va_recv hK hP (ci := 2) (q0 := 0) rfl (KW_0 c5 a k)) hd_X2_bowlsInAll ⟨Nat.le_of_ble_eq_true rfl, Nat.le_of_ble_eq_true rfl⟩ ⟨rfl, rfl⟩ hl.1 (Nat.le_of_ble_eq_true rfl) dX2_mean_12 ⟨Nat.zero_le _, Nat.zero_le _⟩ rfl) ?_
    refine lv_i2d hx hb dX2_mean_15 ?_
    refine lv_iload_n hx hb dX2_mean_16 rfl (lv_at hl 0 rfl) ?_
    refine lv_i2d hx hb dX2_mean_17 ?_
    obtain ⟨g18, h⟩ := o_if h
    refine lv_ddiv hx hb dX2_mean_18 (n64b_ok g18) ?_
    exact ro_dret hx hb hr hlocks dX2_mean_19 (Option.some.inj h)
  · have h := o_f' h q
    refine lv_dconst0 hx hb dX2_mean_9 ?_
    exact ro_dret hx hb hr hlocks dX2_mean_10 (Option.some.inj h)
set_option maxHeartbeats 4000000 in
set_option maxRecDepth 100000 in
theorem c_X2_digest (l : Launch) (D : va_G) (c5 : Nat → ClassId) (a : KAd) (k : KSt) (hI : KI a) (r : Int64) (h : R_X2_digest k = some r) : Met l yX2_digest (ws_ yX2_digest cX2_digest 7 (some .long)) { frames := 6, cells := 0, slots := 0, locals := 139 } (va_Pc [.ref (aO a 0)] (roB D (tyG c5) (KW c5 a k))) (vp_Sl (fun x => x = r)) 0 0 (fun _ => False) := by
  refine Met.ofW (cc := cX2_digest) (maxL := 7) (ret := (some .long)) (by decide) rfl ?_
  intro p e s m args below meth c s₁ B hml hv
  obtain ⟨rfl, hP, hK⟩ := hv
  have hx := B.exec
  have hb := B.bytes
  have hr := B.returns
  have hts : ∀ w ∈ LA, w.before _ s = true := fun w hw => atoms_spec (ws := ws_ yX2_digest cX2_digest 7 (some .long)) B.pre w (List.mem_cons_of_mem _ hw)
  have hown : s.vm.findClass RX2 = some m.cls := findClass_of_methodNamed B.named
  have hlocks := B.notSynchronized
  have hl := lv_entry ([.ref (aO a 0)] : List Value) (n := 7) (Nat.le_of_ble_eq_true rfl)
  rw [lg_entry_eq]
  generalize (lg_sl ([.ref (aO a 0)] : List Value) ++ List.replicate (7 - (lg_sl ([.ref (aO a 0)] : List Value)).length) Slot.unset).toArray = ls at hl ⊢
  have hl : lv_has ls 7 [(0, .ref (aO a 0))] := hl
  unfold R_X2_digest at h
  refine lv_ldc2 (v := 1733) hx hb hown (hts _ wT2_142) dX2_digest_0 ?_
  refine lv_lstore_n (i := 1) (lv' := [(1, .long (1733 : Int64)), (0, .ref (aO a 0))]) hx hb dX2_digest_3 rfl hl (by decide) rfl (fun ls hl => ?_)
  refine lv_iconst (v := (0 : Int32)) hx hb dX2_digest_4 (by decide) ?_
  refine lv_istore_n (i := 3) (lv' := [(3, .int (0 : Int32)), (1, .long (1733 : Int64)), (0, .ref (aO a 0))]) hx hb dX2_digest_5 rfl hl (by decide) rfl (fun ls hl => ?_)
  have L79 : ∀ (n : Nat) (x1_79 : Int64) (x5_79 : Int32) (ls : Array Slot), lv_has ls 7 [(0, .ref (aO a 0)), (1, .long x1_79), (3, .ref (aO a 2)), (4, .int (5 : Int32)), (5, .int x5_79)] → R_X2_digest_L79 k n x1_79 x5_79 = some r → W p l e (headSpec (ws_ yX2_digest cX2_digest 7 (some .long)) { frames := 6, cells := 0, slots := 0, locals := 139 }).room s m ([.ref (aO a 0)] : List Value).toArray below meth c s.heap [] 0 0 (MQ below (vp_Sl (fun x => x = r)) ([.ref (aO a 0)] : List Value).toArray s 0 0 (fun _ => False)) (F0 m 79 ls []) := by
    intro n
    induction n with
    | zero =>
      intro x1_79 x5_79 ls hl h
      exact absurd h (by simp [R_X2_digest_L79])
    | succ n ih =>
      intro x1_79 x5_79 ls hl h
      rw [R_X2_digest_L79] at h
      refine lv_iload hx hb dX2_digest_79 (lv_at hl 4 rfl) ?_
      refine lv_iload hx hb dX2_digest_81 (lv_at hl 3 rfl) ?_
      refine lv_icmp_ge (tgt := 111) hx hb dX2_digest_83 (by decide) (fun q => ?_) (fun q => ?_)
      · have h := o_t h q
        refine lv_lload_n hx hb dX2_digest_111 rfl (lv_at hl 1 rfl) ?_
        exact ro_lret hx hb hr hlocks dX2_digest_112 (Option.some.inj h)
      · have h := o_f h q
        refine lv_aload_n hx hb dX2_digest_86 rfl (lv_at hl 2 rfl) ?_
        refine lv_iload hx hb dX2_digest_87 (lv_at hl 4 rfl) ?_
        obtain ⟨g89, h⟩ := o_if h
        refine va_aldK hx hb hK hP g89 dX2_digest_89 ?_
        refine qv_astore (i := 6) (lv' := [(6, va_rf ((knd k (x5_79.toNatClampNeg)).map (aK a))), (0, .ref (aO a 0)), (1, .long x1_79), (3, .ref (aO a 2)), (4, .int (5 : Int32)), (5, .int x5_79)]) hx hb dX2_digest_90 hl (by decide) rfl (fun ls hl => ?_)
        refine qv_aload hx hb dX2_digest_92 (lv_at hl 0 rfl) ?_
        generalize hq94 : (knd k (x5_79.toNatClampNeg)) = q94 at h hl ⊢
        cases q94 with
        | none =>
          have h := oe_n h
          have hl : lv_has ls 7 [(6, .null), (0, .ref (aO a 0)), (1, .long x1_79), (3, .ref (aO a 2)), (4, .int (5 : Int32)), (5, .int x5_79)] := hl
          refine lv_ifnullN (tgt := 105) hx hb dX2_digest_94 (by decide) ?_
          refine lv_iinc (v := (x5_79 + (1 : Int32))) (lv' := [(5, .int (x5_79 + (1 : Int32))), (6, .null), (0, .ref (aO a 0)), (1, .long x1_79), (3, .ref (aO a 2)), (4, .int (5 : Int32))]) hx hb dX2_digest_105 hl (k := 5) rfl rfl (by decide) rfl (fun ls hl => ?_)
          refine lv_goto (tgt := 79) hx hb dX2_digest_108 (by decide) ?_
          exact ih x1_79 (x5_79 + (1 : Int32))  ls (lv_sub hl [2, 3, 4, 5, 0] rfl) h
        | some j94 =>
          obtain ⟨hj94, h⟩ := oe_sif h
          have hl : lv_has ls 7 [(6, .ref (aK a j94)), (0, .ref (aO a 0)), (1, .long x1_79), (3, .ref (aO a 2)), (4, .int (5 : Int32)), (5, .int x5_79)] := hl
          refine lv_ifnull hx hb dX2_digest_94 ?_
          refine lv_aload_n hx hb dX2_digest_97 rfl (lv_at hl 1 rfl) ?_
          refine lv_lload_n hx hb dX2_digest_98 rfl (lv_at hl 2 rfl) ?_
          refine lv_aload hx hb dX2_digest_99 (lv_at hl 0 rfl) ?_
          obtain ⟨v101, e101, h⟩ := o_bind h
          refine ro_calll (ro_runV (As := [.long x1_79, .ref (aK a j94)]) (rest := []) ⟨hx, hb, hml, hown, hts⟩ hP hK (c_X2_mixedWithKind l D c5 a k hI x1_79 j94 hj94 v101 e101) gG_RX2_183 (va_recv hK hP (ci := 2) (q0 := 0) rfl (KW_0 c5 a k)) hd_X2_mixedWithKind ⟨Nat.le_of_ble_eq_true rfl, Nat.le_of_ble_eq_true rfl⟩ ⟨rfl, rfl⟩ hl.1 (Nat.le_of_ble_eq_true rfl) dX2_digest_101 ⟨Nat.zero_le _, Nat.zero_le _⟩ rfl) ?_
          refine lv_lstore_n (i := 1) (lv' := [(1, .long v101), (6, .ref (aK a j94)), (0, .ref (aO a 0)), (3, .ref (aO a 2)), (4, .int (5 : Int32)), (5, .int x5_79)]) hx hb dX2_digest_104 rfl hl (by decide) rfl (fun ls hl => ?_)
          refine lv_iinc (v := (x5_79 + (1 : Int32))) (lv' := [(5, .int (x5_79 + (1 : Int32))), (1, .long v101), (6, .ref (aK a j94)), (0, .ref (aO a 0)), (3, .ref (aO a 2)), (4, .int (5 : Int32))]) hx hb dX2_digest_105 hl (k := 5) rfl rfl (by decide) rfl (fun ls hl => ?_)
          refine lv_goto (tgt := 79) hx hb dX2_digest_108 (by decide) ?_
          exact ih v101 (x5_79 + (1 : Int32))  ls (lv_sub hl [3, 1, 4, 5, 0] rfl) h
  have L41 : ∀ (n : Nat) (x1_41 : Int64) (x5_41 : Int32) (ls : Array Slot), lv_has ls 7 [(0, .ref (aO a 0)), (1, .long x1_41), (3, .ref (aO a 1)), (4, .int (12 : Int32)), (5, .int x5_41)] → R_X2_digest_L41 k n x1_41 x5_41 = some r → W p l e (headSpec (ws_ yX2_digest cX2_digest 7 (some .long)) { frames := 6, cells := 0, slots := 0, locals := 139 }).room s m ([.ref (aO a 0)] : List Value).toArray below meth c s.heap [] 0 0 (MQ below (vp_Sl (fun x => x = r)) ([.ref (aO a 0)] : List Value).toArray s 0 0 (fun _ => False)) (F0 m 41 ls []) := by
    intro n
    induction n with
    | zero =>
      intro x1_41 x5_41 ls hl h
      exact absurd h (by simp [R_X2_digest_L41])
    | succ n ih =>
      intro x1_41 x5_41 ls hl h
      rw [R_X2_digest_L41] at h
      refine lv_iload hx hb dX2_digest_41 (lv_at hl 4 rfl) ?_
      refine lv_iload hx hb dX2_digest_43 (lv_at hl 3 rfl) ?_
      refine lv_icmp_ge (tgt := 67) hx hb dX2_digest_45 (by decide) (fun q => ?_) (fun q => ?_)
      · have h := o_t h q
        refine lv_aload_n hx hb dX2_digest_67 rfl (lv_at hl 0 rfl) ?_
        refine va_get (D := D) (ci := 2) (v := .ref (aO a 2)) (C := RX2) (T := TX2) (N := 7) hx hb hts iX2 hown hK hP 0 (KW_0 c5 a k) rfl 1 (by decide) (hts _ wT1_61) (fun _ h9 => h9) rfl dX2_digest_68 ?_
        refine lv_astore_n (i := 3) (lv' := [(3, .ref (aO a 2)), (0, .ref (aO a 0)), (1, .long x1_41), (4, .int (12 : Int32)), (5, .int x5_41)]) hx hb dX2_digest_71 rfl hl (by decide) rfl (fun ls hl => ?_)
        refine lv_aload_n hx hb dX2_digest_72 rfl (lv_at hl 0 rfl) ?_
        refine va_alen (v := (5 : Int32)) hx hb hK hP 2 1 (KW_2 c5 a k) rfl rfl dX2_digest_73 ?_
        refine lv_istore (i := 4) (lv' := [(4, .int (5 : Int32)), (3, .ref (aO a 2)), (0, .ref (aO a 0)), (1, .long x1_41), (5, .int x5_41)]) hx hb dX2_digest_74 hl (by decide) rfl (fun ls hl => ?_)
        refine lv_iconst (v := (0 : Int32)) hx hb dX2_digest_76 (by decide) ?_
        refine lv_istore (i := 5) (lv' := [(5, .int (0 : Int32)), (4, .int (5 : Int32)), (3, .ref (aO a 2)), (0, .ref (aO a 0)), (1, .long x1_41)]) hx hb dX2_digest_77 hl (by decide) rfl (fun ls hl => ?_)
        exact L79 FU x1_41 (0 : Int32)  ls (lv_sub hl [3, 4, 2, 1, 0] rfl) h
      · have h := o_f h q
        refine lv_aload_n hx hb dX2_digest_48 rfl (lv_at hl 2 rfl) ?_
        refine lv_iload hx hb dX2_digest_49 (lv_at hl 4 rfl) ?_
        obtain ⟨g51, h⟩ := o_if h
        refine va_aldS hx hb hK hP g51 dX2_digest_51 ?_
        refine lv_astore (i := 6) (lv' := [(6, .ref (aS a (x5_41.toNatClampNeg))), (0, .ref (aO a 0)), (1, .long x1_41), (3, .ref (aO a 1)), (4, .int (12 : Int32)), (5, .int x5_41)]) hx hb dX2_digest_52 hl (by decide) rfl (fun ls hl => ?_)
        refine lv_lload_n hx hb dX2_digest_54 rfl (lv_at hl 2 rfl) ?_
        refine lv_aload hx hb dX2_digest_55 (lv_at hl 0 rfl) ?_
        obtain ⟨v57, e57, h⟩ := o_bind h
        refine ro_calll (ro_runS (As := [.long x1_41, .ref (aS a (x5_41.toNatClampNeg))]) (rest := []) ⟨hx, hb, hml, hown, hts⟩ hP hK (c_X2_mixedWithShelf l D c5 a k hI x1_41 (x5_41.toNatClampNeg) (inb_lt g51) v57 e57) gG_RX2_179 hd_X2_mixedWithShelf ⟨Nat.le_of_ble_eq_true rfl, Nat.le_of_ble_eq_true rfl⟩ ⟨rfl, rfl⟩ hl.1 (Nat.le_of_ble_eq_true rfl) dX2_digest_57 ⟨Nat.zero_le _, Nat.zero_le _⟩ rfl) ?_
        refine lv_lstore_n (i := 1) (lv' := [(1, .long v57), (6, .ref (aS a (x5_41.toNatClampNeg))), (0, .ref (aO a 0)), (3, .ref (aO a 1)), (4, .int (12 : Int32)), (5, .int x5_41)]) hx hb dX2_digest_60 rfl hl (by decide) rfl (fun ls hl => ?_)
        refine lv_iinc (v := (x5_41 + (1 : Int32))) (lv' := [(5, .int (x5_41 + (1 : Int32))), (1, .long v57), (6, .ref (aS a (x5_41.toNatClampNeg))), (0, .ref (aO a 0)), (3, .ref (aO a 1)), (4, .int (12 : Int32))]) hx hb dX2_digest_61 hl (k := 5) rfl rfl (by decide) rfl (fun ls hl => ?_)
        refine lv_goto (tgt := 41) hx hb dX2_digest_64 (by decide) ?_
        exact ih v57 (x5_41 + (1 : Int32))  ls (lv_sub hl [3, 1, 4, 5, 0] rfl) h
  have L6 : ∀ (n : Nat) (x1_6 : Int64) (x3_6 : Int32) (ls : Array Slot), lv_has ls 7 [(0, .ref (aO a 0)), (1, .long x1_6), (3, .int x3_6)] → R_X2_digest_L6 k n x1_6 x3_6 = some r → W p l e (headSpec (ws_ yX2_digest cX2_digest 7 (some .long)) { frames := 6, cells := 0, slots := 0, locals := 139 }).room s m ([.ref (aO a 0)] : List Value).toArray below meth c s.heap [] 0 0 (MQ below (vp_Sl (fun x => x = r)) ([.ref (aO a 0)] : List Value).toArray s 0 0 (fun _ => False)) (F0 m 6 ls []) := by
    intro n
    induction n with
    | zero =>
      intro x1_6 x3_6 ls hl h
      exact absurd h (by simp [R_X2_digest_L6])
    | succ n ih =>
      intro x1_6 x3_6 ls hl h
      rw [R_X2_digest_L6] at h
      refine lv_iload_n hx hb dX2_digest_6 rfl (lv_at hl 2 rfl) ?_
      refine lv_bipush (v := (10 : Int32)) hx hb dX2_digest_7 (by decide) ?_
      refine lv_icmp_ge (tgt := 29) hx hb dX2_digest_9 (by decide) (fun q => ?_) (fun q => ?_)
      · have h := o_t h q
        refine lv_aload_n hx hb dX2_digest_29 rfl (lv_at hl 0 rfl) ?_
        refine va_get (D := D) (ci := 2) (v := .ref (aO a 1)) (C := RX2) (T := TX2) (N := 7) hx hb hts iX2 hown hK hP 0 (KW_0 c5 a k) rfl 0 (by decide) (hts _ wT1_60) (fun _ h9 => h9) rfl dX2_digest_30 ?_
        refine lv_astore_n (i := 3) (lv' := [(3, .ref (aO a 1)), (0, .ref (aO a 0)), (1, .long x1_6)]) hx hb dX2_digest_33 rfl hl (by decide) rfl (fun ls hl => ?_)
        refine lv_aload_n hx hb dX2_digest_34 rfl (lv_at hl 0 rfl) ?_
        refine va_alen (v := (12 : Int32)) hx hb hK hP 1 0 (KW_1 c5 a k) rfl rfl dX2_digest_35 ?_
        refine lv_istore (i := 4) (lv' := [(4, .int (12 : Int32)), (3, .ref (aO a 1)), (0, .ref (aO a 0)), (1, .long x1_6)]) hx hb dX2_digest_36 hl (by decide) rfl (fun ls hl => ?_)
        refine lv_iconst (v := (0 : Int32)) hx hb dX2_digest_38 (by decide) ?_
        refine lv_istore (i := 5) (lv' := [(5, .int (0 : Int32)), (4, .int (12 : Int32)), (3, .ref (aO a 1)), (0, .ref (aO a 0)), (1, .long x1_6)]) hx hb dX2_digest_39 hl (by decide) rfl (fun ls hl => ?_)
        exact L41 FU x1_6 (0 : Int32)  ls (lv_sub hl [3, 4, 2, 1, 0] rfl) h
      · have h := o_f h q
        refine lv_lload_n hx hb dX2_digest_12 rfl (lv_at hl 1 rfl) ?_
        refine lv_aload_n hx hb dX2_digest_13 rfl (lv_at hl 0 rfl) ?_
        refine lv_iload_n hx hb dX2_digest_14 rfl (lv_at hl 2 rfl) ?_
        obtain ⟨v15, e15, h⟩ := yb_some h
        refine ro_calli (ro_runV (As := [.int x3_6]) (rest := [.long x1_6]) ⟨hx, hb, hml, hown, hts⟩ hP hK (c_X2_count l D c5 a k hI x3_6 v15 e15) gG_RX2_172 (va_recv hK hP (ci := 2) (q0 := 0) rfl (KW_0 c5 a k)) hd_X2_count ⟨Nat.le_of_ble_eq_true rfl, Nat.le_of_ble_eq_true rfl⟩ ⟨rfl, rfl⟩ hl.1 (Nat.le_of_ble_eq_true rfl) dX2_digest_15 ⟨Nat.zero_le _, Nat.zero_le _⟩ rfl) ?_
        refine lv_i2l (v := v15.toInt64) hx hb dX2_digest_18 rfl ?_
        obtain ⟨v19, e19, h⟩ := o_bind h
        refine ro_calll (ro_runS (As := [.long x1_6, .long v15.toInt64]) (rest := []) ⟨hx, hb, hml, hown, hts⟩ hP hK (c_X2_mixed l D (tyG c5) (KW c5 a k) x1_6 v15.toInt64 v19 e19) gG_RX2_175 hd_X2_mixed ⟨Nat.le_of_ble_eq_true rfl, Nat.le_of_ble_eq_true rfl⟩ ⟨rfl, rfl⟩ hl.1 (Nat.le_of_ble_eq_true rfl) dX2_digest_19 ⟨Nat.zero_le _, Nat.zero_le _⟩ rfl) ?_
        refine lv_lstore_n (i := 1) (lv' := [(1, .long v19), (0, .ref (aO a 0)), (3, .int x3_6)]) hx hb dX2_digest_22 rfl hl (by decide) rfl (fun ls hl => ?_)
        refine lv_iinc (v := (x3_6 + (1 : Int32))) (lv' := [(3, .int (x3_6 + (1 : Int32))), (1, .long v19), (0, .ref (aO a 0))]) hx hb dX2_digest_23 hl (k := 2) rfl rfl (by decide) rfl (fun ls hl => ?_)
        refine lv_goto (tgt := 6) hx hb dX2_digest_26 (by decide) ?_
        exact ih v19 (x3_6 + (1 : Int32))  ls (lv_sub hl [2, 1, 0] rfl) h
  exact L6 FU (1733 : Int64) (0 : Int32)  ls (lv_sub hl [2, 1, 0] rfl) h
