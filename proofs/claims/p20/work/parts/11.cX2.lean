set_option maxHeartbeats 4000000 in
set_option maxRecDepth 100000 in
theorem c_X2_mostBowls_n (l : Launch) (D : va_G) (c5 : Nat → ClassId) (a : KAd) (k : KSt) (hI : KI a) (j1 : Nat) (hj1 : j1 < kN k) (r : Option Nat) (h : R_X2_mostBowls k j1 none = some r) : Met l yX2_mostBowls (ws_ yX2_mostBowls cX2_mostBowls 8 (some (.object "SlabKitchen$Shelf"))) { frames := 1, cells := 0, slots := 0, locals := 21 } (va_Pc [.ref (aO a 0), .ref (aK a j1), .null] (roB D (tyG c5) (KW c5 a k))) (va_Se (aS a) (fun x => x = r)) 0 0 (fun _ => False) := by
  refine Met.ofW (cc := cX2_mostBowls) (maxL := 8) (ret := (some (.object "SlabKitchen$Shelf"))) (by decide) rfl ?_
  intro p e s m args below meth c s₁ B hml hv
  obtain ⟨rfl, hP, hK⟩ := hv
  have hx := B.exec
  have hb := B.bytes
  have hr := B.returns
  have hts : ∀ w ∈ LA, w.before _ s = true := fun w hw => atoms_spec (ws := ws_ yX2_mostBowls cX2_mostBowls 8 (some (.object "SlabKitchen$Shelf"))) B.pre w (List.mem_cons_of_mem _ hw)
  have hown : s.vm.findClass RX2 = some m.cls := findClass_of_methodNamed B.named
  have hlocks := B.notSynchronized
  have hl := lv_entry ([.ref (aO a 0), .ref (aK a j1), .null] : List Value) (n := 8) (Nat.le_of_ble_eq_true rfl)
  rw [lg_entry_eq]
  generalize (lg_sl ([.ref (aO a 0), .ref (aK a j1), .null] : List Value) ++ List.replicate (8 - (lg_sl ([.ref (aO a 0), .ref (aK a j1), .null] : List Value)).length) Slot.unset).toArray = ls at hl ⊢
  have hl : lv_has ls 8 [(0, .ref (aO a 0)), (1, .ref (aK a j1)), (2, .null)] := hl
  unfold R_X2_mostBowls at h
  refine lv_null hx hb dX2_mostBowls_0 ?_
  refine lv_astore_nN (i := 3) (lv' := [(3, .null), (0, .ref (aO a 0)), (1, .ref (aK a j1)), (2, .null)]) hx hb dX2_mostBowls_1 rfl hl (by decide) rfl (fun ls hl => ?_)
  refine lv_aload_n hx hb dX2_mostBowls_2 rfl (lv_at hl 1 rfl) ?_
  refine va_get (D := D) (ci := 2) (v := .ref (aO a 1)) (C := RX2) (T := TX2) (N := 7) hx hb hts iX2 hown hK hP 0 (KW_0 c5 a k) rfl 0 (by decide) (hts _ wT1_60) (fun _ h9 => h9) rfl dX2_mostBowls_3 ?_
  refine lv_astore (i := 4) (lv' := [(4, .ref (aO a 1)), (3, .null), (0, .ref (aO a 0)), (1, .ref (aK a j1)), (2, .null)]) hx hb dX2_mostBowls_6 hl (by decide) rfl (fun ls hl => ?_)
  refine lv_aload hx hb dX2_mostBowls_8 (lv_at hl 0 rfl) ?_
  refine va_alen (v := (12 : Int32)) hx hb hK hP 1 0 (KW_1 c5 a k) rfl rfl dX2_mostBowls_10 ?_
  refine lv_istore (i := 5) (lv' := [(5, .int (12 : Int32)), (4, .ref (aO a 1)), (3, .null), (0, .ref (aO a 0)), (1, .ref (aK a j1)), (2, .null)]) hx hb dX2_mostBowls_11 hl (by decide) rfl (fun ls hl => ?_)
  refine lv_iconst (v := (0 : Int32)) hx hb dX2_mostBowls_13 (by decide) ?_
  refine lv_istore (i := 6) (lv' := [(6, .int (0 : Int32)), (5, .int (12 : Int32)), (4, .ref (aO a 1)), (3, .null), (0, .ref (aO a 0)), (1, .ref (aK a j1)), (2, .null)]) hx hb dX2_mostBowls_14 hl (by decide) rfl (fun ls hl => ?_)
  have L16 : ∀ (n : Nat) (x3_16 : Option Nat) (x6_16 : Int32) (ls : Array Slot), lv_has ls 8 [(0, .ref (aO a 0)), (1, .ref (aK a j1)), (2, .null), (3, va_rf (x3_16.map (aS a))), (4, .ref (aO a 1)), (5, .int (12 : Int32)), (6, .int x6_16)] → R_X2_mostBowls_L16 k j1 none n x3_16 x6_16 = some r → W p l e (headSpec (ws_ yX2_mostBowls cX2_mostBowls 8 (some (.object "SlabKitchen$Shelf"))) { frames := 1, cells := 0, slots := 0, locals := 21 }).room s m ([.ref (aO a 0), .ref (aK a j1), .null] : List Value).toArray below meth c s.heap [] 0 0 (MQ below (va_Se (aS a) (fun x => x = r)) ([.ref (aO a 0), .ref (aK a j1), .null] : List Value).toArray s 0 0 (fun _ => False)) (F0 m 16 ls []) := by
    intro n
    induction n with
    | zero =>
      intro x3_16 x6_16 ls hl h
      exact absurd h (by simp [R_X2_mostBowls_L16])
    | succ n ih =>
      intro x3_16 x6_16 ls hl h
      rw [R_X2_mostBowls_L16] at h
      refine lv_iload hx hb dX2_mostBowls_16 (lv_at hl 6 rfl) ?_
      refine lv_iload hx hb dX2_mostBowls_18 (lv_at hl 5 rfl) ?_
      refine lv_icmp_ge (tgt := 79) hx hb dX2_mostBowls_20 (by decide) (fun q => ?_) (fun q => ?_)
      · have h := o_t h q
        refine qv_aload_n hx hb dX2_mostBowls_79 rfl (lv_at hl 3 rfl) ?_
        exact ro_aret (ad := aS a) (v := x3_16) hx hb hr hlocks dX2_mostBowls_80 (Option.some.inj h)
      · have h := o_f h q
        refine lv_aload hx hb dX2_mostBowls_23 (lv_at hl 4 rfl) ?_
        refine lv_iload hx hb dX2_mostBowls_25 (lv_at hl 6 rfl) ?_
        obtain ⟨g27, h⟩ := o_if h
        refine va_aldS hx hb hK hP g27 dX2_mostBowls_27 ?_
        refine lv_astore (i := 7) (lv' := [(7, .ref (aS a (x6_16.toNatClampNeg))), (0, .ref (aO a 0)), (1, .ref (aK a j1)), (2, .null), (3, va_rf (x3_16.map (aS a))), (4, .ref (aO a 1)), (5, .int (12 : Int32)), (6, .int x6_16)]) hx hb dX2_mostBowls_28 hl (by decide) rfl (fun ls hl => ?_)
        refine lv_aload hx hb dX2_mostBowls_30 (lv_at hl 0 rfl) ?_
        refine lv_aload_nN hx hb dX2_mostBowls_32 rfl (lv_at hl 3 rfl) ?_
        refine lv_acmp_eq (rx := some (aS a (x6_16.toNatClampNeg))) (ry := none) (tgt := 73) hx hb dX2_mostBowls_33 (by decide) (fun q => ?_) (fun q => ?_)
        · exact absurd q (by simp)
        · have h := o_f h (by simp)
          refine lv_aload hx hb dX2_mostBowls_36 (lv_at hl 0 rfl) ?_
          refine lv_aload_n hx hb dX2_mostBowls_38 rfl (lv_at hl 2 rfl) ?_
          obtain ⟨v39, e39, h⟩ := o_bind h
          refine ro_calli (ro_runV (As := [.ref (aK a j1)]) (rest := []) ⟨hx, hb, hml, hown, hts⟩ hP hK (c_X1_isOf l D c5 a k hI (x6_16.toNatClampNeg) (inb_lt g27) j1 hj1 v39 e39) gG_RX2_235 (va_recv hK hP (ci := 1) (q0 := (3 + (x6_16.toNatClampNeg))) rfl (KW_S c5 a k (inb_lt g27))) hd_X1_isOf ⟨Nat.le_of_ble_eq_true rfl, Nat.le_of_ble_eq_true rfl⟩ ⟨rfl, rfl⟩ hl.1 (Nat.le_of_ble_eq_true rfl) dX2_mostBowls_39 ⟨Nat.zero_le _, Nat.zero_le _⟩ rfl) ?_
          refine lv_if_eq (tgt := 73) hx hb dX2_mostBowls_42 (by decide) (fun q => ?_) (fun q => ?_)
          · have h := o_t h q
            refine lv_iinc (v := (x6_16 + (1 : Int32))) (lv' := [(6, .int (x6_16 + (1 : Int32))), (7, .ref (aS a (x6_16.toNatClampNeg))), (0, .ref (aO a 0)), (1, .ref (aK a j1)), (2, .null), (3, va_rf (x3_16.map (aS a))), (4, .ref (aO a 1)), (5, .int (12 : Int32))]) hx hb dX2_mostBowls_73 hl (k := 7) rfl rfl (by decide) rfl (fun ls hl => ?_)
            refine lv_goto (tgt := 16) hx hb dX2_mostBowls_76 (by decide) ?_
            exact ih x3_16 (x6_16 + (1 : Int32))  ls (lv_sub hl [2, 3, 4, 5, 6, 7, 0] rfl) h
          · have h := o_f h q
            refine lv_aload hx hb dX2_mostBowls_45 (lv_at hl 0 rfl) ?_
            obtain ⟨v47, e47, h⟩ := o_bind h
            refine ro_calli (ro_runV (As := []) (rest := []) ⟨hx, hb, hml, hown, hts⟩ hP hK (c_X1_state l D c5 a k hI (x6_16.toNatClampNeg) (inb_lt g27) v47 e47) gG_RX2_70 (va_recv hK hP (ci := 1) (q0 := (3 + (x6_16.toNatClampNeg))) rfl (KW_S c5 a k (inb_lt g27))) hd_X1_state ⟨Nat.le_of_ble_eq_true rfl, Nat.le_of_ble_eq_true rfl⟩ ⟨rfl, rfl⟩ hl.1 (Nat.le_of_ble_eq_true rfl) dX2_mostBowls_47 ⟨Nat.zero_le _, Nat.zero_le _⟩ rfl) ?_
            refine lv_iconst (v := (2 : Int32)) hx hb dX2_mostBowls_50 (by decide) ?_
            refine lv_icmp_ne (tgt := 73) hx hb dX2_mostBowls_51 (by decide) (fun q => ?_) (fun q => ?_)
            · have h := o_t' h q
              refine lv_iinc (v := (x6_16 + (1 : Int32))) (lv' := [(6, .int (x6_16 + (1 : Int32))), (7, .ref (aS a (x6_16.toNatClampNeg))), (0, .ref (aO a 0)), (1, .ref (aK a j1)), (2, .null), (3, va_rf (x3_16.map (aS a))), (4, .ref (aO a 1)), (5, .int (12 : Int32))]) hx hb dX2_mostBowls_73 hl (k := 7) rfl rfl (by decide) rfl (fun ls hl => ?_)
              refine lv_goto (tgt := 16) hx hb dX2_mostBowls_76 (by decide) ?_
              exact ih x3_16 (x6_16 + (1 : Int32))  ls (lv_sub hl [2, 3, 4, 5, 6, 7, 0] rfl) h
            · have h := o_f' h q
              refine qv_aload_n hx hb dX2_mostBowls_54 rfl (lv_at hl 4 rfl) ?_
              cases x3_16 with
              | none =>
                have h := oe_n h
                have hl : lv_has ls 8 [(7, .ref (aS a (x6_16.toNatClampNeg))), (0, .ref (aO a 0)), (1, .ref (aK a j1)), (2, .null), (3, .null), (4, .ref (aO a 1)), (5, .int (12 : Int32)), (6, .int x6_16)] := hl
                refine lv_ifnullN (tgt := 70) hx hb dX2_mostBowls_55 (by decide) ?_
                refine lv_aload hx hb dX2_mostBowls_70 (lv_at hl 0 rfl) ?_
                refine lv_astore_n (i := 3) (lv' := [(3, .ref (aS a (x6_16.toNatClampNeg))), (7, .ref (aS a (x6_16.toNatClampNeg))), (0, .ref (aO a 0)), (1, .ref (aK a j1)), (2, .null), (4, .ref (aO a 1)), (5, .int (12 : Int32)), (6, .int x6_16)]) hx hb dX2_mostBowls_72 rfl hl (by decide) rfl (fun ls hl => ?_)
                refine lv_iinc (v := (x6_16 + (1 : Int32))) (lv' := [(6, .int (x6_16 + (1 : Int32))), (3, .ref (aS a (x6_16.toNatClampNeg))), (7, .ref (aS a (x6_16.toNatClampNeg))), (0, .ref (aO a 0)), (1, .ref (aK a j1)), (2, .null), (4, .ref (aO a 1)), (5, .int (12 : Int32))]) hx hb dX2_mostBowls_73 hl (k := 7) rfl rfl (by decide) rfl (fun ls hl => ?_)
                refine lv_goto (tgt := 16) hx hb dX2_mostBowls_76 (by decide) ?_
                exact ih (some (x6_16.toNatClampNeg)) (x6_16 + (1 : Int32))  ls (lv_sub hl [3, 4, 5, 1, 6, 7, 0] rfl) h
              | some j55 =>
                obtain ⟨hj55, h⟩ := oe_sif h
                have hl : lv_has ls 8 [(7, .ref (aS a (x6_16.toNatClampNeg))), (0, .ref (aO a 0)), (1, .ref (aK a j1)), (2, .null), (3, .ref (aS a j55)), (4, .ref (aO a 1)), (5, .int (12 : Int32)), (6, .int x6_16)] := hl
                refine lv_ifnull hx hb dX2_mostBowls_55 ?_
                refine lv_aload hx hb dX2_mostBowls_58 (lv_at hl 0 rfl) ?_
                refine va_get (D := D) (ci := 1) (v := .int (kS k 6 (x6_16.toNatClampNeg))) (C := RX1) (T := TX1) (N := 8) hx hb hts iX1 hown hK hP (3 + (x6_16.toNatClampNeg)) (KW_S c5 a k (inb_lt g27)) rfl 6 (by decide) (hts _ wT1_39) (fun _ h9 => h9) rfl dX2_mostBowls_60 ?_
                refine lv_aload_n hx hb dX2_mostBowls_63 rfl (lv_at hl 4 rfl) ?_
                refine va_get (D := D) (ci := 1) (v := .int (kS k 6 j55)) (C := RX1) (T := TX1) (N := 8) hx hb hts iX1 hown hK hP (3 + j55) (KW_S c5 a k hj55) rfl 6 (by decide) (hts _ wT1_39) (fun _ h9 => h9) rfl dX2_mostBowls_64 ?_
                refine lv_icmp_le (tgt := 73) hx hb dX2_mostBowls_67 (by decide) (fun q => ?_) (fun q => ?_)
                · have h := o_t h q
                  refine lv_iinc (v := (x6_16 + (1 : Int32))) (lv' := [(6, .int (x6_16 + (1 : Int32))), (7, .ref (aS a (x6_16.toNatClampNeg))), (0, .ref (aO a 0)), (1, .ref (aK a j1)), (2, .null), (3, .ref (aS a j55)), (4, .ref (aO a 1)), (5, .int (12 : Int32))]) hx hb dX2_mostBowls_73 hl (k := 7) rfl rfl (by decide) rfl (fun ls hl => ?_)
                  refine lv_goto (tgt := 16) hx hb dX2_mostBowls_76 (by decide) ?_
                  exact ih (some j55) (x6_16 + (1 : Int32))  ls (lv_sub hl [2, 3, 4, 5, 6, 7, 0] rfl) h
                · have h := o_f h q
                  refine lv_aload hx hb dX2_mostBowls_70 (lv_at hl 0 rfl) ?_
                  refine lv_astore_n (i := 3) (lv' := [(3, .ref (aS a (x6_16.toNatClampNeg))), (7, .ref (aS a (x6_16.toNatClampNeg))), (0, .ref (aO a 0)), (1, .ref (aK a j1)), (2, .null), (4, .ref (aO a 1)), (5, .int (12 : Int32)), (6, .int x6_16)]) hx hb dX2_mostBowls_72 rfl hl (by decide) rfl (fun ls hl => ?_)
                  refine lv_iinc (v := (x6_16 + (1 : Int32))) (lv' := [(6, .int (x6_16 + (1 : Int32))), (3, .ref (aS a (x6_16.toNatClampNeg))), (7, .ref (aS a (x6_16.toNatClampNeg))), (0, .ref (aO a 0)), (1, .ref (aK a j1)), (2, .null), (4, .ref (aO a 1)), (5, .int (12 : Int32))]) hx hb dX2_mostBowls_73 hl (k := 7) rfl rfl (by decide) rfl (fun ls hl => ?_)
                  refine lv_goto (tgt := 16) hx hb dX2_mostBowls_76 (by decide) ?_
                  exact ih (some (x6_16.toNatClampNeg)) (x6_16 + (1 : Int32))  ls (lv_sub hl [3, 4, 5, 1, 6, 7, 0] rfl) h
  exact L16 FU none (0 : Int32)  ls (lv_sub hl [4, 5, 6, 3, 2, 1, 0] rfl) h

set_option maxHeartbeats 4000000 in
set_option maxRecDepth 100000 in
theorem c_X2_mostBowls_s (l : Launch) (D : va_G) (c5 : Nat → ClassId) (a : KAd) (k : KSt) (hI : KI a) (j1 : Nat) (hj1 : j1 < kN k) (bj : Nat) (hbj : bj < 12) (r : Option Nat) (h : R_X2_mostBowls k j1 (some bj) = some r) : Met l yX2_mostBowls (ws_ yX2_mostBowls cX2_mostBowls 8 (some (.object "SlabKitchen$Shelf"))) { frames := 1, cells := 0, slots := 0, locals := 21 } (va_Pc [.ref (aO a 0), .ref (aK a j1), .ref (aS a bj)] (roB D (tyG c5) (KW c5 a k))) (va_Se (aS a) (fun x => x = r)) 0 0 (fun _ => False) := by
  refine Met.ofW (cc := cX2_mostBowls) (maxL := 8) (ret := (some (.object "SlabKitchen$Shelf"))) (by decide) rfl ?_
  intro p e s m args below meth c s₁ B hml hv
  obtain ⟨rfl, hP, hK⟩ := hv
  have hx := B.exec
  have hb := B.bytes
  have hr := B.returns
  have hts : ∀ w ∈ LA, w.before _ s = true := fun w hw => atoms_spec (ws := ws_ yX2_mostBowls cX2_mostBowls 8 (some (.object "SlabKitchen$Shelf"))) B.pre w (List.mem_cons_of_mem _ hw)
  have hown : s.vm.findClass RX2 = some m.cls := findClass_of_methodNamed B.named
  have hlocks := B.notSynchronized
  have hl := lv_entry ([.ref (aO a 0), .ref (aK a j1), .ref (aS a bj)] : List Value) (n := 8) (Nat.le_of_ble_eq_true rfl)
  rw [lg_entry_eq]
  generalize (lg_sl ([.ref (aO a 0), .ref (aK a j1), .ref (aS a bj)] : List Value) ++ List.replicate (8 - (lg_sl ([.ref (aO a 0), .ref (aK a j1), .ref (aS a bj)] : List Value)).length) Slot.unset).toArray = ls at hl ⊢
  have hl : lv_has ls 8 [(0, .ref (aO a 0)), (1, .ref (aK a j1)), (2, .ref (aS a bj))] := hl
  unfold R_X2_mostBowls at h
  refine lv_null hx hb dX2_mostBowls_0 ?_
  refine lv_astore_nN (i := 3) (lv' := [(3, .null), (0, .ref (aO a 0)), (1, .ref (aK a j1)), (2, .ref (aS a bj))]) hx hb dX2_mostBowls_1 rfl hl (by decide) rfl (fun ls hl => ?_)
  refine lv_aload_n hx hb dX2_mostBowls_2 rfl (lv_at hl 1 rfl) ?_
  refine va_get (D := D) (ci := 2) (v := .ref (aO a 1)) (C := RX2) (T := TX2) (N := 7) hx hb hts iX2 hown hK hP 0 (KW_0 c5 a k) rfl 0 (by decide) (hts _ wT1_60) (fun _ h9 => h9) rfl dX2_mostBowls_3 ?_
  refine lv_astore (i := 4) (lv' := [(4, .ref (aO a 1)), (3, .null), (0, .ref (aO a 0)), (1, .ref (aK a j1)), (2, .ref (aS a bj))]) hx hb dX2_mostBowls_6 hl (by decide) rfl (fun ls hl => ?_)
  refine lv_aload hx hb dX2_mostBowls_8 (lv_at hl 0 rfl) ?_
  refine va_alen (v := (12 : Int32)) hx hb hK hP 1 0 (KW_1 c5 a k) rfl rfl dX2_mostBowls_10 ?_
  refine lv_istore (i := 5) (lv' := [(5, .int (12 : Int32)), (4, .ref (aO a 1)), (3, .null), (0, .ref (aO a 0)), (1, .ref (aK a j1)), (2, .ref (aS a bj))]) hx hb dX2_mostBowls_11 hl (by decide) rfl (fun ls hl => ?_)
  refine lv_iconst (v := (0 : Int32)) hx hb dX2_mostBowls_13 (by decide) ?_
  refine lv_istore (i := 6) (lv' := [(6, .int (0 : Int32)), (5, .int (12 : Int32)), (4, .ref (aO a 1)), (3, .null), (0, .ref (aO a 0)), (1, .ref (aK a j1)), (2, .ref (aS a bj))]) hx hb dX2_mostBowls_14 hl (by decide) rfl (fun ls hl => ?_)
  have L16 : ∀ (n : Nat) (x3_16 : Option Nat) (x6_16 : Int32) (ls : Array Slot), lv_has ls 8 [(0, .ref (aO a 0)), (1, .ref (aK a j1)), (2, .ref (aS a bj)), (3, va_rf (x3_16.map (aS a))), (4, .ref (aO a 1)), (5, .int (12 : Int32)), (6, .int x6_16)] → R_X2_mostBowls_L16 k j1 (some bj) n x3_16 x6_16 = some r → W p l e (headSpec (ws_ yX2_mostBowls cX2_mostBowls 8 (some (.object "SlabKitchen$Shelf"))) { frames := 1, cells := 0, slots := 0, locals := 21 }).room s m ([.ref (aO a 0), .ref (aK a j1), .ref (aS a bj)] : List Value).toArray below meth c s.heap [] 0 0 (MQ below (va_Se (aS a) (fun x => x = r)) ([.ref (aO a 0), .ref (aK a j1), .ref (aS a bj)] : List Value).toArray s 0 0 (fun _ => False)) (F0 m 16 ls []) := by
    intro n
    induction n with
    | zero =>
      intro x3_16 x6_16 ls hl h
      exact absurd h (by simp [R_X2_mostBowls_L16])
    | succ n ih =>
      intro x3_16 x6_16 ls hl h
      rw [R_X2_mostBowls_L16] at h
      refine lv_iload hx hb dX2_mostBowls_16 (lv_at hl 6 rfl) ?_
      refine lv_iload hx hb dX2_mostBowls_18 (lv_at hl 5 rfl) ?_
      refine lv_icmp_ge (tgt := 79) hx hb dX2_mostBowls_20 (by decide) (fun q => ?_) (fun q => ?_)
      · have h := o_t h q
        refine qv_aload_n hx hb dX2_mostBowls_79 rfl (lv_at hl 3 rfl) ?_
        exact ro_aret (ad := aS a) (v := x3_16) hx hb hr hlocks dX2_mostBowls_80 (Option.some.inj h)
      · have h := o_f h q
        refine lv_aload hx hb dX2_mostBowls_23 (lv_at hl 4 rfl) ?_
        refine lv_iload hx hb dX2_mostBowls_25 (lv_at hl 6 rfl) ?_
        obtain ⟨g27, h⟩ := o_if h
        refine va_aldS hx hb hK hP g27 dX2_mostBowls_27 ?_
        refine lv_astore (i := 7) (lv' := [(7, .ref (aS a (x6_16.toNatClampNeg))), (0, .ref (aO a 0)), (1, .ref (aK a j1)), (2, .ref (aS a bj)), (3, va_rf (x3_16.map (aS a))), (4, .ref (aO a 1)), (5, .int (12 : Int32)), (6, .int x6_16)]) hx hb dX2_mostBowls_28 hl (by decide) rfl (fun ls hl => ?_)
        refine lv_aload hx hb dX2_mostBowls_30 (lv_at hl 0 rfl) ?_
        refine lv_aload_n hx hb dX2_mostBowls_32 rfl (lv_at hl 3 rfl) ?_
        refine lv_acmp_eq (rx := some (aS a (x6_16.toNatClampNeg))) (ry := some (aS a bj)) (tgt := 73) hx hb dX2_mostBowls_33 (by decide) (fun q => ?_) (fun q => ?_)
        · have h := o_t h (congrArg some (hI _ _ (inb_lt g27) hbj (Option.some.inj q)))
          refine lv_iinc (v := (x6_16 + (1 : Int32))) (lv' := [(6, .int (x6_16 + (1 : Int32))), (7, .ref (aS a (x6_16.toNatClampNeg))), (0, .ref (aO a 0)), (1, .ref (aK a j1)), (2, .ref (aS a bj)), (3, va_rf (x3_16.map (aS a))), (4, .ref (aO a 1)), (5, .int (12 : Int32))]) hx hb dX2_mostBowls_73 hl (k := 7) rfl rfl (by decide) rfl (fun ls hl => ?_)
          refine lv_goto (tgt := 16) hx hb dX2_mostBowls_76 (by decide) ?_
          exact ih x3_16 (x6_16 + (1 : Int32))  ls (lv_sub hl [2, 3, 4, 5, 6, 7, 0] rfl) h
        · have h := o_f h (fun z => q (by cases z; rfl))
          refine lv_aload hx hb dX2_mostBowls_36 (lv_at hl 0 rfl) ?_
          refine lv_aload_n hx hb dX2_mostBowls_38 rfl (lv_at hl 2 rfl) ?_
          obtain ⟨v39, e39, h⟩ := o_bind h
          refine ro_calli (ro_runV (As := [.ref (aK a j1)]) (rest := []) ⟨hx, hb, hml, hown, hts⟩ hP hK (c_X1_isOf l D c5 a k hI (x6_16.toNatClampNeg) (inb_lt g27) j1 hj1 v39 e39) gG_RX2_235 (va_recv hK hP (ci := 1) (q0 := (3 + (x6_16.toNatClampNeg))) rfl (KW_S c5 a k (inb_lt g27))) hd_X1_isOf ⟨Nat.le_of_ble_eq_true rfl, Nat.le_of_ble_eq_true rfl⟩ ⟨rfl, rfl⟩ hl.1 (Nat.le_of_ble_eq_true rfl) dX2_mostBowls_39 ⟨Nat.zero_le _, Nat.zero_le _⟩ rfl) ?_
          refine lv_if_eq (tgt := 73) hx hb dX2_mostBowls_42 (by decide) (fun q => ?_) (fun q => ?_)
          · have h := o_t h q
            refine lv_iinc (v := (x6_16 + (1 : Int32))) (lv' := [(6, .int (x6_16 + (1 : Int32))), (7, .ref (aS a (x6_16.toNatClampNeg))), (0, .ref (aO a 0)), (1, .ref (aK a j1)), (2, .ref (aS a bj)), (3, va_rf (x3_16.map (aS a))), (4, .ref (aO a 1)), (5, .int (12 : Int32))]) hx hb dX2_mostBowls_73 hl (k := 7) rfl rfl (by decide) rfl (fun ls hl => ?_)
            refine lv_goto (tgt := 16) hx hb dX2_mostBowls_76 (by decide) ?_
            exact ih x3_16 (x6_16 + (1 : Int32))  ls (lv_sub hl [2, 3, 4, 5, 6, 7, 0] rfl) h
          · have h := o_f h q
            refine lv_aload hx hb dX2_mostBowls_45 (lv_at hl 0 rfl) ?_
            obtain ⟨v47, e47, h⟩ := o_bind h
            refine ro_calli (ro_runV (As := []) (rest := []) ⟨hx, hb, hml, hown, hts⟩ hP hK (c_X1_state l D c5 a k hI (x6_16.toNatClampNeg) (inb_lt g27) v47 e47) gG_RX2_70 (va_recv hK hP (ci := 1) (q0 := (3 + (x6_16.toNatClampNeg))) rfl (KW_S c5 a k (inb_lt g27))) hd_X1_state ⟨Nat.le_of_ble_eq_true rfl, Nat.le_of_ble_eq_true rfl⟩ ⟨rfl, rfl⟩ hl.1 (Nat.le_of_ble_eq_true rfl) dX2_mostBowls_47 ⟨Nat.zero_le _, Nat.zero_le _⟩ rfl) ?_
            refine lv_iconst (v := (2 : Int32)) hx hb dX2_mostBowls_50 (by decide) ?_
            refine lv_icmp_ne (tgt := 73) hx hb dX2_mostBowls_51 (by decide) (fun q => ?_) (fun q => ?_)
            · have h := o_t' h q
              refine lv_iinc (v := (x6_16 + (1 : Int32))) (lv' := [(6, .int (x6_16 + (1 : Int32))), (7, .ref (aS a (x6_16.toNatClampNeg))), (0, .ref (aO a 0)), (1, .ref (aK a j1)), (2, .ref (aS a bj)), (3, va_rf (x3_16.map (aS a))), (4, .ref (aO a 1)), (5, .int (12 : Int32))]) hx hb dX2_mostBowls_73 hl (k := 7) rfl rfl (by decide) rfl (fun ls hl => ?_)
              refine lv_goto (tgt := 16) hx hb dX2_mostBowls_76 (by decide) ?_
              exact ih x3_16 (x6_16 + (1 : Int32))  ls (lv_sub hl [2, 3, 4, 5, 6, 7, 0] rfl) h
            · have h := o_f' h q
              refine qv_aload_n hx hb dX2_mostBowls_54 rfl (lv_at hl 4 rfl) ?_
              cases x3_16 with
              | none =>
                have h := oe_n h
                have hl : lv_has ls 8 [(7, .ref (aS a (x6_16.toNatClampNeg))), (0, .ref (aO a 0)), (1, .ref (aK a j1)), (2, .ref (aS a bj)), (3, .null), (4, .ref (aO a 1)), (5, .int (12 : Int32)), (6, .int x6_16)] := hl
                refine lv_ifnullN (tgt := 70) hx hb dX2_mostBowls_55 (by decide) ?_
                refine lv_aload hx hb dX2_mostBowls_70 (lv_at hl 0 rfl) ?_
                refine lv_astore_n (i := 3) (lv' := [(3, .ref (aS a (x6_16.toNatClampNeg))), (7, .ref (aS a (x6_16.toNatClampNeg))), (0, .ref (aO a 0)), (1, .ref (aK a j1)), (2, .ref (aS a bj)), (4, .ref (aO a 1)), (5, .int (12 : Int32)), (6, .int x6_16)]) hx hb dX2_mostBowls_72 rfl hl (by decide) rfl (fun ls hl => ?_)
                refine lv_iinc (v := (x6_16 + (1 : Int32))) (lv' := [(6, .int (x6_16 + (1 : Int32))), (3, .ref (aS a (x6_16.toNatClampNeg))), (7, .ref (aS a (x6_16.toNatClampNeg))), (0, .ref (aO a 0)), (1, .ref (aK a j1)), (2, .ref (aS a bj)), (4, .ref (aO a 1)), (5, .int (12 : Int32))]) hx hb dX2_mostBowls_73 hl (k := 7) rfl rfl (by decide) rfl (fun ls hl => ?_)
                refine lv_goto (tgt := 16) hx hb dX2_mostBowls_76 (by decide) ?_
                exact ih (some (x6_16.toNatClampNeg)) (x6_16 + (1 : Int32))  ls (lv_sub hl [3, 4, 5, 1, 6, 7, 0] rfl) h
              | some j55 =>
                obtain ⟨hj55, h⟩ := oe_sif h
                have hl : lv_has ls 8 [(7, .ref (aS a (x6_16.toNatClampNeg))), (0, .ref (aO a 0)), (1, .ref (aK a j1)), (2, .ref (aS a bj)), (3, .ref (aS a j55)), (4, .ref (aO a 1)), (5, .int (12 : Int32)), (6, .int x6_16)] := hl
                refine lv_ifnull hx hb dX2_mostBowls_55 ?_
                refine lv_aload hx hb dX2_mostBowls_58 (lv_at hl 0 rfl) ?_
                refine va_get (D := D) (ci := 1) (v := .int (kS k 6 (x6_16.toNatClampNeg))) (C := RX1) (T := TX1) (N := 8) hx hb hts iX1 hown hK hP (3 + (x6_16.toNatClampNeg)) (KW_S c5 a k (inb_lt g27)) rfl 6 (by decide) (hts _ wT1_39) (fun _ h9 => h9) rfl dX2_mostBowls_60 ?_
                refine lv_aload_n hx hb dX2_mostBowls_63 rfl (lv_at hl 4 rfl) ?_
                refine va_get (D := D) (ci := 1) (v := .int (kS k 6 j55)) (C := RX1) (T := TX1) (N := 8) hx hb hts iX1 hown hK hP (3 + j55) (KW_S c5 a k hj55) rfl 6 (by decide) (hts _ wT1_39) (fun _ h9 => h9) rfl dX2_mostBowls_64 ?_
                refine lv_icmp_le (tgt := 73) hx hb dX2_mostBowls_67 (by decide) (fun q => ?_) (fun q => ?_)
                · have h := o_t h q
                  refine lv_iinc (v := (x6_16 + (1 : Int32))) (lv' := [(6, .int (x6_16 + (1 : Int32))), (7, .ref (aS a (x6_16.toNatClampNeg))), (0, .ref (aO a 0)), (1, .ref (aK a j1)), (2, .ref (aS a bj)), (3, .ref (aS a j55)), (4, .ref (aO a 1)), (5, .int (12 : Int32))]) hx hb dX2_mostBowls_73 hl (k := 7) rfl rfl (by decide) rfl (fun ls hl => ?_)
                  refine lv_goto (tgt := 16) hx hb dX2_mostBowls_76 (by decide) ?_
                  exact ih (some j55) (x6_16 + (1 : Int32))  ls (lv_sub hl [2, 3, 4, 5, 6, 7, 0] rfl) h
                · have h := o_f h q
                  refine lv_aload hx hb dX2_mostBowls_70 (lv_at hl 0 rfl) ?_
                  refine lv_astore_n (i := 3) (lv' := [(3, .ref (aS a (x6_16.toNatClampNeg))), (7, .ref (aS a (x6_16.toNatClampNeg))), (0, .ref (aO a 0)), (1, .ref (aK a j1)), (2, .ref (aS a bj)), (4, .ref (aO a 1)), (5, .int (12 : Int32)), (6, .int x6_16)]) hx hb dX2_mostBowls_72 rfl hl (by decide) rfl (fun ls hl => ?_)
                  refine lv_iinc (v := (x6_16 + (1 : Int32))) (lv' := [(6, .int (x6_16 + (1 : Int32))), (3, .ref (aS a (x6_16.toNatClampNeg))), (7, .ref (aS a (x6_16.toNatClampNeg))), (0, .ref (aO a 0)), (1, .ref (aK a j1)), (2, .ref (aS a bj)), (4, .ref (aO a 1)), (5, .int (12 : Int32))]) hx hb dX2_mostBowls_73 hl (k := 7) rfl rfl (by decide) rfl (fun ls hl => ?_)
                  refine lv_goto (tgt := 16) hx hb dX2_mostBowls_76 (by decide) ?_
                  exact ih (some (x6_16.toNatClampNeg)) (x6_16 + (1 : Int32))  ls (lv_sub hl [3, 4, 5, 1, 6, 7, 0] rfl) h
  exact L16 FU none (0 : Int32)  ls (lv_sub hl [4, 5, 6, 3, 2, 1, 0] rfl) h

theorem c_X2_mostBowls (l : Launch) (D : va_G) (c5 : Nat → ClassId) (a : KAd) (k : KSt) (hI : KI a) (j1 : Nat) (hj1 : j1 < kN k) (o2 : Option Nat) (ho2 : obn o2 12 = true) (r : Option Nat) (h : R_X2_mostBowls k j1 o2 = some r) : Met l yX2_mostBowls (ws_ yX2_mostBowls cX2_mostBowls 8 (some (.object "SlabKitchen$Shelf"))) { frames := 1, cells := 0, slots := 0, locals := 21 } (va_Pc [.ref (aO a 0), .ref (aK a j1), va_rf (o2.map (aS a))] (roB D (tyG c5) (KW c5 a k))) (va_Se (aS a) (fun x => x = r)) 0 0 (fun _ => False) := by
  cases o2 with
  | none => exact c_X2_mostBowls_n l D c5 a k hI j1 hj1 r h
  | some bj => exact c_X2_mostBowls_s l D c5 a k hI j1 hj1 bj (obn_some ho2 rfl) r h
set_option maxHeartbeats 4000000 in
set_option maxRecDepth 100000 in
theorem c_X2_fewestBowls (l : Launch) (D : va_G) (c5 : Nat → ClassId) (a : KAd) (k : KSt) (hI : KI a) (j1 : Nat) (hj1 : j1 < kN k) (r : Option Nat) (h : R_X2_fewestBowls k j1 = some r) : Met l yX2_fewestBowls (ws_ yX2_fewestBowls cX2_fewestBowls 7 (some (.object "SlabKitchen$Shelf"))) { frames := 1, cells := 0, slots := 0, locals := 21 } (va_Pc [.ref (aO a 0), .ref (aK a j1)] (roB D (tyG c5) (KW c5 a k))) (va_Se (aS a) (fun x => x = r)) 0 0 (fun _ => False) := by
  refine Met.ofW (cc := cX2_fewestBowls) (maxL := 7) (ret := (some (.object "SlabKitchen$Shelf"))) (by decide) rfl ?_
  intro p e s m args below meth c s₁ B hml hv
  obtain ⟨rfl, hP, hK⟩ := hv
  have hx := B.exec
  have hb := B.bytes
  have hr := B.returns
  have hts : ∀ w ∈ LA, w.before _ s = true := fun w hw => atoms_spec (ws := ws_ yX2_fewestBowls cX2_fewestBowls 7 (some (.object "SlabKitchen$Shelf"))) B.pre w (List.mem_cons_of_mem _ hw)
  have hown : s.vm.findClass RX2 = some m.cls := findClass_of_methodNamed B.named
  have hlocks := B.notSynchronized
  have hl := lv_entry ([.ref (aO a 0), .ref (aK a j1)] : List Value) (n := 7) (Nat.le_of_ble_eq_true rfl)
  rw [lg_entry_eq]
  generalize (lg_sl ([.ref (aO a 0), .ref (aK a j1)] : List Value) ++ List.replicate (7 - (lg_sl ([.ref (aO a 0), .ref (aK a j1)] : List Value)).length) Slot.unset).toArray = ls at hl ⊢
  have hl : lv_has ls 7 [(0, .ref (aO a 0)), (1, .ref (aK a j1))] := hl
  unfold R_X2_fewestBowls at h
  refine lv_null hx hb dX2_fewestBowls_0 ?_
  refine lv_astore_nN (i := 2) (lv' := [(2, .null), (0, .ref (aO a 0)), (1, .ref (aK a j1))]) hx hb dX2_fewestBowls_1 rfl hl (by decide) rfl (fun ls hl => ?_)
  refine lv_aload_n hx hb dX2_fewestBowls_2 rfl (lv_at hl 1 rfl) ?_
  refine va_get (D := D) (ci := 2) (v := .ref (aO a 1)) (C := RX2) (T := TX2) (N := 7) hx hb hts iX2 hown hK hP 0 (KW_0 c5 a k) rfl 0 (by decide) (hts _ wT1_60) (fun _ h9 => h9) rfl dX2_fewestBowls_3 ?_
  refine lv_astore_n (i := 3) (lv' := [(3, .ref (aO a 1)), (2, .null), (0, .ref (aO a 0)), (1, .ref (aK a j1))]) hx hb dX2_fewestBowls_6 rfl hl (by decide) rfl (fun ls hl => ?_)
  refine lv_aload_n hx hb dX2_fewestBowls_7 rfl (lv_at hl 0 rfl) ?_
  refine va_alen (v := (12 : Int32)) hx hb hK hP 1 0 (KW_1 c5 a k) rfl rfl dX2_fewestBowls_8 ?_
  refine lv_istore (i := 4) (lv' := [(4, .int (12 : Int32)), (3, .ref (aO a 1)), (2, .null), (0, .ref (aO a 0)), (1, .ref (aK a j1))]) hx hb dX2_fewestBowls_9 hl (by decide) rfl (fun ls hl => ?_)
  refine lv_iconst (v := (0 : Int32)) hx hb dX2_fewestBowls_11 (by decide) ?_
  refine lv_istore (i := 5) (lv' := [(5, .int (0 : Int32)), (4, .int (12 : Int32)), (3, .ref (aO a 1)), (2, .null), (0, .ref (aO a 0)), (1, .ref (aK a j1))]) hx hb dX2_fewestBowls_12 hl (by decide) rfl (fun ls hl => ?_)
  have L14 : ∀ (n : Nat) (x2_14 : Option Nat) (x5_14 : Int32) (ls : Array Slot), lv_has ls 7 [(0, .ref (aO a 0)), (1, .ref (aK a j1)), (2, va_rf (x2_14.map (aS a))), (3, .ref (aO a 1)), (4, .int (12 : Int32)), (5, .int x5_14)] → R_X2_fewestBowls_L14 k j1 n x2_14 x5_14 = some r → W p l e (headSpec (ws_ yX2_fewestBowls cX2_fewestBowls 7 (some (.object "SlabKitchen$Shelf"))) { frames := 1, cells := 0, slots := 0, locals := 21 }).room s m ([.ref (aO a 0), .ref (aK a j1)] : List Value).toArray below meth c s.heap [] 0 0 (MQ below (va_Se (aS a) (fun x => x = r)) ([.ref (aO a 0), .ref (aK a j1)] : List Value).toArray s 0 0 (fun _ => False)) (F0 m 14 ls []) := by
    intro n
    induction n with
    | zero =>
      intro x2_14 x5_14 ls hl h
      exact absurd h (by simp [R_X2_fewestBowls_L14])
    | succ n ih =>
      intro x2_14 x5_14 ls hl h
      rw [R_X2_fewestBowls_L14] at h
      refine lv_iload hx hb dX2_fewestBowls_14 (lv_at hl 5 rfl) ?_
      refine lv_iload hx hb dX2_fewestBowls_16 (lv_at hl 4 rfl) ?_
      refine lv_icmp_ge (tgt := 70) hx hb dX2_fewestBowls_18 (by decide) (fun q => ?_) (fun q => ?_)
      · have h := o_t h q
        refine qv_aload_n hx hb dX2_fewestBowls_70 rfl (lv_at hl 2 rfl) ?_
        exact ro_aret (ad := aS a) (v := x2_14) hx hb hr hlocks dX2_fewestBowls_71 (Option.some.inj h)
      · have h := o_f h q
        refine lv_aload_n hx hb dX2_fewestBowls_21 rfl (lv_at hl 3 rfl) ?_
        refine lv_iload hx hb dX2_fewestBowls_22 (lv_at hl 5 rfl) ?_
        obtain ⟨g24, h⟩ := o_if h
        refine va_aldS hx hb hK hP g24 dX2_fewestBowls_24 ?_
        refine lv_astore (i := 6) (lv' := [(6, .ref (aS a (x5_14.toNatClampNeg))), (0, .ref (aO a 0)), (1, .ref (aK a j1)), (2, va_rf (x2_14.map (aS a))), (3, .ref (aO a 1)), (4, .int (12 : Int32)), (5, .int x5_14)]) hx hb dX2_fewestBowls_25 hl (by decide) rfl (fun ls hl => ?_)
        refine lv_aload hx hb dX2_fewestBowls_27 (lv_at hl 0 rfl) ?_
        refine lv_aload_n hx hb dX2_fewestBowls_29 rfl (lv_at hl 2 rfl) ?_
        obtain ⟨v30, e30, h⟩ := o_bind h
        refine ro_calli (ro_runV (As := [.ref (aK a j1)]) (rest := []) ⟨hx, hb, hml, hown, hts⟩ hP hK (c_X1_isOf l D c5 a k hI (x5_14.toNatClampNeg) (inb_lt g24) j1 hj1 v30 e30) gG_RX2_235 (va_recv hK hP (ci := 1) (q0 := (3 + (x5_14.toNatClampNeg))) rfl (KW_S c5 a k (inb_lt g24))) hd_X1_isOf ⟨Nat.le_of_ble_eq_true rfl, Nat.le_of_ble_eq_true rfl⟩ ⟨rfl, rfl⟩ hl.1 (Nat.le_of_ble_eq_true rfl) dX2_fewestBowls_30 ⟨Nat.zero_le _, Nat.zero_le _⟩ rfl) ?_
        refine lv_if_eq (tgt := 64) hx hb dX2_fewestBowls_33 (by decide) (fun q => ?_) (fun q => ?_)
        · have h := o_t h q
          refine lv_iinc (v := (x5_14 + (1 : Int32))) (lv' := [(5, .int (x5_14 + (1 : Int32))), (6, .ref (aS a (x5_14.toNatClampNeg))), (0, .ref (aO a 0)), (1, .ref (aK a j1)), (2, va_rf (x2_14.map (aS a))), (3, .ref (aO a 1)), (4, .int (12 : Int32))]) hx hb dX2_fewestBowls_64 hl (k := 6) rfl rfl (by decide) rfl (fun ls hl => ?_)
          refine lv_goto (tgt := 14) hx hb dX2_fewestBowls_67 (by decide) ?_
          exact ih x2_14 (x5_14 + (1 : Int32))  ls (lv_sub hl [2, 3, 4, 5, 6, 0] rfl) h
        · have h := o_f h q
          refine lv_aload hx hb dX2_fewestBowls_36 (lv_at hl 0 rfl) ?_
          obtain ⟨v38, e38, h⟩ := o_bind h
          refine ro_calli (ro_runV (As := []) (rest := []) ⟨hx, hb, hml, hown, hts⟩ hP hK (c_X1_state l D c5 a k hI (x5_14.toNatClampNeg) (inb_lt g24) v38 e38) gG_RX2_70 (va_recv hK hP (ci := 1) (q0 := (3 + (x5_14.toNatClampNeg))) rfl (KW_S c5 a k (inb_lt g24))) hd_X1_state ⟨Nat.le_of_ble_eq_true rfl, Nat.le_of_ble_eq_true rfl⟩ ⟨rfl, rfl⟩ hl.1 (Nat.le_of_ble_eq_true rfl) dX2_fewestBowls_38 ⟨Nat.zero_le _, Nat.zero_le _⟩ rfl) ?_
          refine lv_iconst (v := (2 : Int32)) hx hb dX2_fewestBowls_41 (by decide) ?_
          refine lv_icmp_ne (tgt := 64) hx hb dX2_fewestBowls_42 (by decide) (fun q => ?_) (fun q => ?_)
          · have h := o_t' h q
            refine lv_iinc (v := (x5_14 + (1 : Int32))) (lv' := [(5, .int (x5_14 + (1 : Int32))), (6, .ref (aS a (x5_14.toNatClampNeg))), (0, .ref (aO a 0)), (1, .ref (aK a j1)), (2, va_rf (x2_14.map (aS a))), (3, .ref (aO a 1)), (4, .int (12 : Int32))]) hx hb dX2_fewestBowls_64 hl (k := 6) rfl rfl (by decide) rfl (fun ls hl => ?_)
            refine lv_goto (tgt := 14) hx hb dX2_fewestBowls_67 (by decide) ?_
            exact ih x2_14 (x5_14 + (1 : Int32))  ls (lv_sub hl [2, 3, 4, 5, 6, 0] rfl) h
          · have h := o_f' h q
            refine qv_aload_n hx hb dX2_fewestBowls_45 rfl (lv_at hl 3 rfl) ?_
            cases x2_14 with
            | none =>
              have h := oe_n h
              have hl : lv_has ls 7 [(6, .ref (aS a (x5_14.toNatClampNeg))), (0, .ref (aO a 0)), (1, .ref (aK a j1)), (2, .null), (3, .ref (aO a 1)), (4, .int (12 : Int32)), (5, .int x5_14)] := hl
              refine lv_ifnullN (tgt := 61) hx hb dX2_fewestBowls_46 (by decide) ?_
              refine lv_aload hx hb dX2_fewestBowls_61 (lv_at hl 0 rfl) ?_
              refine lv_astore_n (i := 2) (lv' := [(2, .ref (aS a (x5_14.toNatClampNeg))), (6, .ref (aS a (x5_14.toNatClampNeg))), (0, .ref (aO a 0)), (1, .ref (aK a j1)), (3, .ref (aO a 1)), (4, .int (12 : Int32)), (5, .int x5_14)]) hx hb dX2_fewestBowls_63 rfl hl (by decide) rfl (fun ls hl => ?_)
              refine lv_iinc (v := (x5_14 + (1 : Int32))) (lv' := [(5, .int (x5_14 + (1 : Int32))), (2, .ref (aS a (x5_14.toNatClampNeg))), (6, .ref (aS a (x5_14.toNatClampNeg))), (0, .ref (aO a 0)), (1, .ref (aK a j1)), (3, .ref (aO a 1)), (4, .int (12 : Int32))]) hx hb dX2_fewestBowls_64 hl (k := 6) rfl rfl (by decide) rfl (fun ls hl => ?_)
              refine lv_goto (tgt := 14) hx hb dX2_fewestBowls_67 (by decide) ?_
              exact ih (some (x5_14.toNatClampNeg)) (x5_14 + (1 : Int32))  ls (lv_sub hl [3, 4, 1, 5, 6, 0] rfl) h
            | some j46 =>
              obtain ⟨hj46, h⟩ := oe_sif h
              have hl : lv_has ls 7 [(6, .ref (aS a (x5_14.toNatClampNeg))), (0, .ref (aO a 0)), (1, .ref (aK a j1)), (2, .ref (aS a j46)), (3, .ref (aO a 1)), (4, .int (12 : Int32)), (5, .int x5_14)] := hl
              refine lv_ifnull hx hb dX2_fewestBowls_46 ?_
              refine lv_aload hx hb dX2_fewestBowls_49 (lv_at hl 0 rfl) ?_
              refine va_get (D := D) (ci := 1) (v := .int (kS k 6 (x5_14.toNatClampNeg))) (C := RX1) (T := TX1) (N := 8) hx hb hts iX1 hown hK hP (3 + (x5_14.toNatClampNeg)) (KW_S c5 a k (inb_lt g24)) rfl 6 (by decide) (hts _ wT1_39) (fun _ h9 => h9) rfl dX2_fewestBowls_51 ?_
              refine lv_aload_n hx hb dX2_fewestBowls_54 rfl (lv_at hl 3 rfl) ?_
              refine va_get (D := D) (ci := 1) (v := .int (kS k 6 j46)) (C := RX1) (T := TX1) (N := 8) hx hb hts iX1 hown hK hP (3 + j46) (KW_S c5 a k hj46) rfl 6 (by decide) (hts _ wT1_39) (fun _ h9 => h9) rfl dX2_fewestBowls_55 ?_
              refine lv_icmp_ge (tgt := 64) hx hb dX2_fewestBowls_58 (by decide) (fun q => ?_) (fun q => ?_)
              · have h := o_t h q
                refine lv_iinc (v := (x5_14 + (1 : Int32))) (lv' := [(5, .int (x5_14 + (1 : Int32))), (6, .ref (aS a (x5_14.toNatClampNeg))), (0, .ref (aO a 0)), (1, .ref (aK a j1)), (2, .ref (aS a j46)), (3, .ref (aO a 1)), (4, .int (12 : Int32))]) hx hb dX2_fewestBowls_64 hl (k := 6) rfl rfl (by decide) rfl (fun ls hl => ?_)
                refine lv_goto (tgt := 14) hx hb dX2_fewestBowls_67 (by decide) ?_
                exact ih (some j46) (x5_14 + (1 : Int32))  ls (lv_sub hl [2, 3, 4, 5, 6, 0] rfl) h
              · have h := o_f h q
                refine lv_aload hx hb dX2_fewestBowls_61 (lv_at hl 0 rfl) ?_
                refine lv_astore_n (i := 2) (lv' := [(2, .ref (aS a (x5_14.toNatClampNeg))), (6, .ref (aS a (x5_14.toNatClampNeg))), (0, .ref (aO a 0)), (1, .ref (aK a j1)), (3, .ref (aO a 1)), (4, .int (12 : Int32)), (5, .int x5_14)]) hx hb dX2_fewestBowls_63 rfl hl (by decide) rfl (fun ls hl => ?_)
                refine lv_iinc (v := (x5_14 + (1 : Int32))) (lv' := [(5, .int (x5_14 + (1 : Int32))), (2, .ref (aS a (x5_14.toNatClampNeg))), (6, .ref (aS a (x5_14.toNatClampNeg))), (0, .ref (aO a 0)), (1, .ref (aK a j1)), (3, .ref (aO a 1)), (4, .int (12 : Int32))]) hx hb dX2_fewestBowls_64 hl (k := 6) rfl rfl (by decide) rfl (fun ls hl => ?_)
                refine lv_goto (tgt := 14) hx hb dX2_fewestBowls_67 (by decide) ?_
                exact ih (some (x5_14.toNatClampNeg)) (x5_14 + (1 : Int32))  ls (lv_sub hl [3, 4, 1, 5, 6, 0] rfl) h
  exact L14 FU none (0 : Int32)  ls (lv_sub hl [4, 5, 3, 2, 1, 0] rfl) h
set_option maxHeartbeats 4000000 in
set_option maxRecDepth 100000 in
theorem c_X2_firstInState (l : Launch) (D : va_G) (c5 : Nat → ClassId) (a : KAd) (k : KSt) (hI : KI a) (j1 : Nat) (hj1 : j1 < kN k) (p2 : Int32) (r : Option Nat) (h : R_X2_firstInState k j1 p2 = some r) : Met l yX2_firstInState (ws_ yX2_firstInState cX2_firstInState 7 (some (.object "SlabKitchen$Shelf"))) { frames := 1, cells := 0, slots := 0, locals := 21 } (va_Pc [.ref (aO a 0), .ref (aK a j1), .int p2] (roB D (tyG c5) (KW c5 a k))) (va_Se (aS a) (fun x => x = r)) 0 0 (fun _ => False) := by
  refine Met.ofW (cc := cX2_firstInState) (maxL := 7) (ret := (some (.object "SlabKitchen$Shelf"))) (by decide) rfl ?_
  intro p e s m args below meth c s₁ B hml hv
  obtain ⟨rfl, hP, hK⟩ := hv
  have hx := B.exec
  have hb := B.bytes
  have hr := B.returns
  have hts : ∀ w ∈ LA, w.before _ s = true := fun w hw => atoms_spec (ws := ws_ yX2_firstInState cX2_firstInState 7 (some (.object "SlabKitchen$Shelf"))) B.pre w (List.mem_cons_of_mem _ hw)
  have hown : s.vm.findClass RX2 = some m.cls := findClass_of_methodNamed B.named
  have hlocks := B.notSynchronized
  have hl := lv_entry ([.ref (aO a 0), .ref (aK a j1), .int p2] : List Value) (n := 7) (Nat.le_of_ble_eq_true rfl)
  rw [lg_entry_eq]
  generalize (lg_sl ([.ref (aO a 0), .ref (aK a j1), .int p2] : List Value) ++ List.replicate (7 - (lg_sl ([.ref (aO a 0), .ref (aK a j1), .int p2] : List Value)).length) Slot.unset).toArray = ls at hl ⊢
  have hl : lv_has ls 7 [(0, .ref (aO a 0)), (1, .ref (aK a j1)), (2, .int p2)] := hl
  unfold R_X2_firstInState at h
  refine lv_aload_n hx hb dX2_firstInState_0 rfl (lv_at hl 0 rfl) ?_
  refine va_get (D := D) (ci := 2) (v := .ref (aO a 1)) (C := RX2) (T := TX2) (N := 7) hx hb hts iX2 hown hK hP 0 (KW_0 c5 a k) rfl 0 (by decide) (hts _ wT1_60) (fun _ h9 => h9) rfl dX2_firstInState_1 ?_
  refine lv_astore_n (i := 3) (lv' := [(3, .ref (aO a 1)), (0, .ref (aO a 0)), (1, .ref (aK a j1)), (2, .int p2)]) hx hb dX2_firstInState_4 rfl hl (by decide) rfl (fun ls hl => ?_)
  refine lv_aload_n hx hb dX2_firstInState_5 rfl (lv_at hl 0 rfl) ?_
  refine va_alen (v := (12 : Int32)) hx hb hK hP 1 0 (KW_1 c5 a k) rfl rfl dX2_firstInState_6 ?_
  refine lv_istore (i := 4) (lv' := [(4, .int (12 : Int32)), (3, .ref (aO a 1)), (0, .ref (aO a 0)), (1, .ref (aK a j1)), (2, .int p2)]) hx hb dX2_firstInState_7 hl (by decide) rfl (fun ls hl => ?_)
  refine lv_iconst (v := (0 : Int32)) hx hb dX2_firstInState_9 (by decide) ?_
  refine lv_istore (i := 5) (lv' := [(5, .int (0 : Int32)), (4, .int (12 : Int32)), (3, .ref (aO a 1)), (0, .ref (aO a 0)), (1, .ref (aK a j1)), (2, .int p2)]) hx hb dX2_firstInState_10 hl (by decide) rfl (fun ls hl => ?_)
  have L12 : ∀ (n : Nat) (x5_12 : Int32) (ls : Array Slot), lv_has ls 7 [(0, .ref (aO a 0)), (1, .ref (aK a j1)), (2, .int p2), (3, .ref (aO a 1)), (4, .int (12 : Int32)), (5, .int x5_12)] → R_X2_firstInState_L12 k j1 p2 n x5_12 = some r → W p l e (headSpec (ws_ yX2_firstInState cX2_firstInState 7 (some (.object "SlabKitchen$Shelf"))) { frames := 1, cells := 0, slots := 0, locals := 21 }).room s m ([.ref (aO a 0), .ref (aK a j1), .int p2] : List Value).toArray below meth c s.heap [] 0 0 (MQ below (va_Se (aS a) (fun x => x = r)) ([.ref (aO a 0), .ref (aK a j1), .int p2] : List Value).toArray s 0 0 (fun _ => False)) (F0 m 12 ls []) := by
    intro n
    induction n with
    | zero =>
      intro x5_12 ls hl h
      exact absurd h (by simp [R_X2_firstInState_L12])
    | succ n ih =>
      intro x5_12 ls hl h
      rw [R_X2_firstInState_L12] at h
      refine lv_iload hx hb dX2_firstInState_12 (lv_at hl 5 rfl) ?_
      refine lv_iload hx hb dX2_firstInState_14 (lv_at hl 4 rfl) ?_
      refine lv_icmp_ge (tgt := 52) hx hb dX2_firstInState_16 (by decide) (fun q => ?_) (fun q => ?_)
      · have h := o_t h q
        refine lv_null hx hb dX2_firstInState_52 ?_
        exact ro_aret (ad := aS a) (v := none) hx hb hr hlocks dX2_firstInState_53 (Option.some.inj h)
      · have h := o_f h q
        refine lv_aload_n hx hb dX2_firstInState_19 rfl (lv_at hl 3 rfl) ?_
        refine lv_iload hx hb dX2_firstInState_20 (lv_at hl 5 rfl) ?_
        obtain ⟨g22, h⟩ := o_if h
        refine va_aldS hx hb hK hP g22 dX2_firstInState_22 ?_
        refine lv_astore (i := 6) (lv' := [(6, .ref (aS a (x5_12.toNatClampNeg))), (0, .ref (aO a 0)), (1, .ref (aK a j1)), (2, .int p2), (3, .ref (aO a 1)), (4, .int (12 : Int32)), (5, .int x5_12)]) hx hb dX2_firstInState_23 hl (by decide) rfl (fun ls hl => ?_)
        refine lv_aload hx hb dX2_firstInState_25 (lv_at hl 0 rfl) ?_
        refine lv_aload_n hx hb dX2_firstInState_27 rfl (lv_at hl 2 rfl) ?_
        obtain ⟨v28, e28, h⟩ := o_bind h
        refine ro_calli (ro_runV (As := [.ref (aK a j1)]) (rest := []) ⟨hx, hb, hml, hown, hts⟩ hP hK (c_X1_isOf l D c5 a k hI (x5_12.toNatClampNeg) (inb_lt g22) j1 hj1 v28 e28) gG_RX2_235 (va_recv hK hP (ci := 1) (q0 := (3 + (x5_12.toNatClampNeg))) rfl (KW_S c5 a k (inb_lt g22))) hd_X1_isOf ⟨Nat.le_of_ble_eq_true rfl, Nat.le_of_ble_eq_true rfl⟩ ⟨rfl, rfl⟩ hl.1 (Nat.le_of_ble_eq_true rfl) dX2_firstInState_28 ⟨Nat.zero_le _, Nat.zero_le _⟩ rfl) ?_
        refine lv_if_eq (tgt := 46) hx hb dX2_firstInState_31 (by decide) (fun q => ?_) (fun q => ?_)
        · have h := o_t h q
          refine lv_iinc (v := (x5_12 + (1 : Int32))) (lv' := [(5, .int (x5_12 + (1 : Int32))), (6, .ref (aS a (x5_12.toNatClampNeg))), (0, .ref (aO a 0)), (1, .ref (aK a j1)), (2, .int p2), (3, .ref (aO a 1)), (4, .int (12 : Int32))]) hx hb dX2_firstInState_46 hl (k := 6) rfl rfl (by decide) rfl (fun ls hl => ?_)
          refine lv_goto (tgt := 12) hx hb dX2_firstInState_49 (by decide) ?_
          exact ih (x5_12 + (1 : Int32))  ls (lv_sub hl [2, 3, 4, 5, 6, 0] rfl) h
        · have h := o_f h q
          refine lv_aload hx hb dX2_firstInState_34 (lv_at hl 0 rfl) ?_
          obtain ⟨v36, e36, h⟩ := o_bind h
          refine ro_calli (ro_runV (As := []) (rest := []) ⟨hx, hb, hml, hown, hts⟩ hP hK (c_X1_state l D c5 a k hI (x5_12.toNatClampNeg) (inb_lt g22) v36 e36) gG_RX2_70 (va_recv hK hP (ci := 1) (q0 := (3 + (x5_12.toNatClampNeg))) rfl (KW_S c5 a k (inb_lt g22))) hd_X1_state ⟨Nat.le_of_ble_eq_true rfl, Nat.le_of_ble_eq_true rfl⟩ ⟨rfl, rfl⟩ hl.1 (Nat.le_of_ble_eq_true rfl) dX2_firstInState_36 ⟨Nat.zero_le _, Nat.zero_le _⟩ rfl) ?_
          refine lv_iload_n hx hb dX2_firstInState_39 rfl (lv_at hl 3 rfl) ?_
          refine lv_icmp_ne (tgt := 46) hx hb dX2_firstInState_40 (by decide) (fun q => ?_) (fun q => ?_)
          · have h := o_t' h q
            refine lv_iinc (v := (x5_12 + (1 : Int32))) (lv' := [(5, .int (x5_12 + (1 : Int32))), (6, .ref (aS a (x5_12.toNatClampNeg))), (0, .ref (aO a 0)), (1, .ref (aK a j1)), (2, .int p2), (3, .ref (aO a 1)), (4, .int (12 : Int32))]) hx hb dX2_firstInState_46 hl (k := 6) rfl rfl (by decide) rfl (fun ls hl => ?_)
            refine lv_goto (tgt := 12) hx hb dX2_firstInState_49 (by decide) ?_
            exact ih (x5_12 + (1 : Int32))  ls (lv_sub hl [2, 3, 4, 5, 6, 0] rfl) h
          · have h := o_f' h q
            refine lv_aload hx hb dX2_firstInState_43 (lv_at hl 0 rfl) ?_
            exact ro_aret (ad := aS a) (v := (some (x5_12.toNatClampNeg))) hx hb hr hlocks dX2_firstInState_45 (Option.some.inj h)
  exact L12 FU (0 : Int32)  ls (lv_sub hl [3, 4, 5, 2, 1, 0] rfl) h
set_option maxHeartbeats 4000000 in
set_option maxRecDepth 100000 in
theorem c_X2_inUseByWay (l : Launch) (D : va_G) (c5 : Nat → ClassId) (a : KAd) (k : KSt) (hI : KI a) (j1 : Nat) (hj1 : j1 < kN k) (r : Option Nat) (h : R_X2_inUseByWay k j1 = some r) : Met l yX2_inUseByWay (ws_ yX2_inUseByWay cX2_inUseByWay 2 (some (.object "SlabKitchen$Shelf"))) { frames := 2, cells := 0, slots := 0, locals := 48 } (va_Pc [.ref (aO a 0), .ref (aK a j1)] (roB D (tyG c5) (KW c5 a k))) (va_Se (aS a) (fun x => x = r)) 0 0 (fun _ => False) := by
  refine Met.ofW (cc := cX2_inUseByWay) (maxL := 2) (ret := (some (.object "SlabKitchen$Shelf"))) (by decide) rfl ?_
  intro p e s m args below meth c s₁ B hml hv
  obtain ⟨rfl, hP, hK⟩ := hv
  have hx := B.exec
  have hb := B.bytes
  have hr := B.returns
  have hts : ∀ w ∈ LA, w.before _ s = true := fun w hw => atoms_spec (ws := ws_ yX2_inUseByWay cX2_inUseByWay 2 (some (.object "SlabKitchen$Shelf"))) B.pre w (List.mem_cons_of_mem _ hw)
  have hown : s.vm.findClass RX2 = some m.cls := findClass_of_methodNamed B.named
  have hlocks := B.notSynchronized
  have hl := lv_entry ([.ref (aO a 0), .ref (aK a j1)] : List Value) (n := 2) (Nat.le_of_ble_eq_true rfl)
  rw [lg_entry_eq]
  generalize (lg_sl ([.ref (aO a 0), .ref (aK a j1)] : List Value) ++ List.replicate (2 - (lg_sl ([.ref (aO a 0), .ref (aK a j1)] : List Value)).length) Slot.unset).toArray = ls at hl ⊢
  have hl : lv_has ls 2 [(0, .ref (aO a 0)), (1, .ref (aK a j1))] := hl
  unfold R_X2_inUseByWay at h
  refine lv_aload_n hx hb dX2_inUseByWay_0 rfl (lv_at hl 0 rfl) ?_
  refine va_get (D := D) (ci := 2) (v := .int (kG k 1)) (C := RX2) (T := TX2) (N := 7) hx hb hts iX2 hown hK hP 0 (KW_0 c5 a k) rfl 3 (by decide) (hts _ wT1_63) (fun _ h9 => h9) rfl dX2_inUseByWay_1 ?_
  rcases Decidable.em ((kG k 1) = 1) with c4_0 | c4_0
  · have h := o_t h c4_0
    refine lv_lookup (off := 28) (tgt := 32) hx hb dX2_inUseByWay_4 (by decide) (by rw [c4_0]; rfl) (by decide) ?_
    refine lv_aload_n hx hb dX2_inUseByWay_32 rfl (lv_at hl 0 rfl) ?_
    refine lv_aload_n hx hb dX2_inUseByWay_33 rfl (lv_at hl 1 rfl) ?_
    refine lv_null hx hb dX2_inUseByWay_34 ?_
    obtain ⟨v35, e35, h⟩ := o_bind h
    refine ro_calle (ro_runV (As := [.ref (aK a j1), .null]) (rest := []) ⟨hx, hb, hml, hown, hts⟩ hP hK (c_X2_mostBowls l D c5 a k hI j1 hj1 none rfl v35 e35) gG_RX2_228 (va_recv hK hP (ci := 2) (q0 := 0) rfl (KW_0 c5 a k)) hd_X2_mostBowls ⟨Nat.le_of_ble_eq_true rfl, Nat.le_of_ble_eq_true rfl⟩ ⟨rfl, rfl⟩ hl.1 (Nat.le_of_ble_eq_true rfl) dX2_inUseByWay_35 ⟨Nat.zero_le _, Nat.zero_le _⟩ rfl) ?_
    exact ro_aret (ad := aS a) (v := v35) hx hb hr hlocks dX2_inUseByWay_38 (Option.some.inj h)
  · have h := o_f h c4_0
    rcases Decidable.em ((kG k 1) = 2) with c4_1 | c4_1
    · have h := o_t h c4_1
      refine lv_lookup (off := 35) (tgt := 39) hx hb dX2_inUseByWay_4 (by decide) (by rw [c4_1]; rfl) (by decide) ?_
      refine lv_aload_n hx hb dX2_inUseByWay_39 rfl (lv_at hl 0 rfl) ?_
      refine lv_aload_n hx hb dX2_inUseByWay_40 rfl (lv_at hl 1 rfl) ?_
      obtain ⟨v41, e41, h⟩ := o_bind h
      refine ro_calle (ro_runV (As := [.ref (aK a j1)]) (rest := []) ⟨hx, hb, hml, hown, hts⟩ hP hK (c_X2_fewestBowls l D c5 a k hI j1 hj1 v41 e41) gG_RX2_232 (va_recv hK hP (ci := 2) (q0 := 0) rfl (KW_0 c5 a k)) hd_X2_fewestBowls ⟨Nat.le_of_ble_eq_true rfl, Nat.le_of_ble_eq_true rfl⟩ ⟨rfl, rfl⟩ hl.1 (Nat.le_of_ble_eq_true rfl) dX2_inUseByWay_41 ⟨Nat.zero_le _, Nat.zero_le _⟩ rfl) ?_
      exact ro_aret (ad := aS a) (v := v41) hx hb hr hlocks dX2_inUseByWay_44 (Option.some.inj h)
    · have h := o_f h c4_1
      refine lv_lookup (off := 41) (tgt := 45) hx hb dX2_inUseByWay_4 (by decide) (by simp only []; rw [lv_osw (a := 1) c4_0 rfl, lv_osw (a := 2) c4_1 rfl]; rfl) (by decide) ?_
      refine lv_aload_n hx hb dX2_inUseByWay_45 rfl (lv_at hl 0 rfl) ?_
      refine lv_aload_n hx hb dX2_inUseByWay_46 rfl (lv_at hl 1 rfl) ?_
      refine lv_iconst (v := (2 : Int32)) hx hb dX2_inUseByWay_47 (by decide) ?_
      obtain ⟨v48, e48, h⟩ := o_bind h
      refine ro_calle (ro_runV (As := [.ref (aK a j1), .int (2 : Int32)]) (rest := []) ⟨hx, hb, hml, hown, hts⟩ hP hK (c_X2_firstInState l D c5 a k hI j1 hj1 (2 : Int32) v48 e48) gG_RX2_220 (va_recv hK hP (ci := 2) (q0 := 0) rfl (KW_0 c5 a k)) hd_X2_firstInState ⟨Nat.le_of_ble_eq_true rfl, Nat.le_of_ble_eq_true rfl⟩ ⟨rfl, rfl⟩ hl.1 (Nat.le_of_ble_eq_true rfl) dX2_inUseByWay_48 ⟨Nat.zero_le _, Nat.zero_le _⟩ rfl) ?_
      exact ro_aret (ad := aS a) (v := v48) hx hb hr hlocks dX2_inUseByWay_51 (Option.some.inj h)
set_option maxHeartbeats 4000000 in
set_option maxRecDepth 100000 in
theorem c_X2_firstFree (l : Launch) (D : va_G) (c5 : Nat → ClassId) (a : KAd) (k : KSt) (hI : KI a) (r : Option Nat) (h : R_X2_firstFree k = some r) : Met l yX2_firstFree (ws_ yX2_firstFree cX2_firstFree 5 (some (.object "SlabKitchen$Shelf"))) { frames := 1, cells := 0, slots := 0, locals := 20 } (va_Pc [.ref (aO a 0)] (roB D (tyG c5) (KW c5 a k))) (va_Se (aS a) (fun x => x = r)) 0 0 (fun _ => False) := by
  refine Met.ofW (cc := cX2_firstFree) (maxL := 5) (ret := (some (.object "SlabKitchen$Shelf"))) (by decide) rfl ?_
  intro p e s m args below meth c s₁ B hml hv
  obtain ⟨rfl, hP, hK⟩ := hv
  have hx := B.exec
  have hb := B.bytes
  have hr := B.returns
  have hts : ∀ w ∈ LA, w.before _ s = true := fun w hw => atoms_spec (ws := ws_ yX2_firstFree cX2_firstFree 5 (some (.object "SlabKitchen$Shelf"))) B.pre w (List.mem_cons_of_mem _ hw)
  have hown : s.vm.findClass RX2 = some m.cls := findClass_of_methodNamed B.named
  have hlocks := B.notSynchronized
  have hl := lv_entry ([.ref (aO a 0)] : List Value) (n := 5) (Nat.le_of_ble_eq_true rfl)
  rw [lg_entry_eq]
  generalize (lg_sl ([.ref (aO a 0)] : List Value) ++ List.replicate (5 - (lg_sl ([.ref (aO a 0)] : List Value)).length) Slot.unset).toArray = ls at hl ⊢
  have hl : lv_has ls 5 [(0, .ref (aO a 0))] := hl
  unfold R_X2_firstFree at h
  refine lv_aload_n hx hb dX2_firstFree_0 rfl (lv_at hl 0 rfl) ?_
  refine va_get (D := D) (ci := 2) (v := .ref (aO a 1)) (C := RX2) (T := TX2) (N := 7) hx hb hts iX2 hown hK hP 0 (KW_0 c5 a k) rfl 0 (by decide) (hts _ wT1_60) (fun _ h9 => h9) rfl dX2_firstFree_1 ?_
  refine lv_astore_n (i := 1) (lv' := [(1, .ref (aO a 1)), (0, .ref (aO a 0))]) hx hb dX2_firstFree_4 rfl hl (by decide) rfl (fun ls hl => ?_)
  refine lv_aload_n hx hb dX2_firstFree_5 rfl (lv_at hl 0 rfl) ?_
  refine va_alen (v := (12 : Int32)) hx hb hK hP 1 0 (KW_1 c5 a k) rfl rfl dX2_firstFree_6 ?_
  refine lv_istore_n (i := 2) (lv' := [(2, .int (12 : Int32)), (1, .ref (aO a 1)), (0, .ref (aO a 0))]) hx hb dX2_firstFree_7 rfl hl (by decide) rfl (fun ls hl => ?_)
  refine lv_iconst (v := (0 : Int32)) hx hb dX2_firstFree_8 (by decide) ?_
  refine lv_istore_n (i := 3) (lv' := [(3, .int (0 : Int32)), (2, .int (12 : Int32)), (1, .ref (aO a 1)), (0, .ref (aO a 0))]) hx hb dX2_firstFree_9 rfl hl (by decide) rfl (fun ls hl => ?_)
  have L10 : ∀ (n : Nat) (x3_10 : Int32) (ls : Array Slot), lv_has ls 5 [(0, .ref (aO a 0)), (1, .ref (aO a 1)), (2, .int (12 : Int32)), (3, .int x3_10)] → R_X2_firstFree_L10 k n x3_10 = some r → W p l e (headSpec (ws_ yX2_firstFree cX2_firstFree 5 (some (.object "SlabKitchen$Shelf"))) { frames := 1, cells := 0, slots := 0, locals := 20 }).room s m ([.ref (aO a 0)] : List Value).toArray below meth c s.heap [] 0 0 (MQ below (va_Se (aS a) (fun x => x = r)) ([.ref (aO a 0)] : List Value).toArray s 0 0 (fun _ => False)) (F0 m 10 ls []) := by
    intro n
    induction n with
    | zero =>
      intro x3_10 ls hl h
      exact absurd h (by simp [R_X2_firstFree_L10])
    | succ n ih =>
      intro x3_10 ls hl h
      rw [R_X2_firstFree_L10] at h
      refine lv_iload_n hx hb dX2_firstFree_10 rfl (lv_at hl 3 rfl) ?_
      refine lv_iload_n hx hb dX2_firstFree_11 rfl (lv_at hl 2 rfl) ?_
      refine lv_icmp_ge (tgt := 37) hx hb dX2_firstFree_12 (by decide) (fun q => ?_) (fun q => ?_)
      · have h := o_t h q
        refine lv_null hx hb dX2_firstFree_37 ?_
        exact ro_aret (ad := aS a) (v := none) hx hb hr hlocks dX2_firstFree_38 (Option.some.inj h)
      · have h := o_f h q
        refine lv_aload_n hx hb dX2_firstFree_15 rfl (lv_at hl 1 rfl) ?_
        refine lv_iload_n hx hb dX2_firstFree_16 rfl (lv_at hl 3 rfl) ?_
        obtain ⟨g17, h⟩ := o_if h
        refine va_aldS hx hb hK hP g17 dX2_firstFree_17 ?_
        refine lv_astore (i := 4) (lv' := [(4, .ref (aS a (x3_10.toNatClampNeg))), (0, .ref (aO a 0)), (1, .ref (aO a 1)), (2, .int (12 : Int32)), (3, .int x3_10)]) hx hb dX2_firstFree_18 hl (by decide) rfl (fun ls hl => ?_)
        refine lv_aload hx hb dX2_firstFree_20 (lv_at hl 0 rfl) ?_
        obtain ⟨v22, e22, h⟩ := o_bind h
        refine ro_calli (ro_runV (As := []) (rest := []) ⟨hx, hb, hml, hown, hts⟩ hP hK (c_X1_state l D c5 a k hI (x3_10.toNatClampNeg) (inb_lt g17) v22 e22) gG_RX2_70 (va_recv hK hP (ci := 1) (q0 := (3 + (x3_10.toNatClampNeg))) rfl (KW_S c5 a k (inb_lt g17))) hd_X1_state ⟨Nat.le_of_ble_eq_true rfl, Nat.le_of_ble_eq_true rfl⟩ ⟨rfl, rfl⟩ hl.1 (Nat.le_of_ble_eq_true rfl) dX2_firstFree_22 ⟨Nat.zero_le _, Nat.zero_le _⟩ rfl) ?_
        refine lv_if_ne (tgt := 31) hx hb dX2_firstFree_25 (by decide) (fun q => ?_) (fun q => ?_)
        · have h := o_t' h q
          refine lv_iinc (v := (x3_10 + (1 : Int32))) (lv' := [(3, .int (x3_10 + (1 : Int32))), (4, .ref (aS a (x3_10.toNatClampNeg))), (0, .ref (aO a 0)), (1, .ref (aO a 1)), (2, .int (12 : Int32))]) hx hb dX2_firstFree_31 hl (k := 4) rfl rfl (by decide) rfl (fun ls hl => ?_)
          refine lv_goto (tgt := 10) hx hb dX2_firstFree_34 (by decide) ?_
          exact ih (x3_10 + (1 : Int32))  ls (lv_sub hl [2, 3, 4, 0] rfl) h
        · have h := o_f' h q
          refine lv_aload hx hb dX2_firstFree_28 (lv_at hl 0 rfl) ?_
          exact ro_aret (ad := aS a) (v := (some (x3_10.toNatClampNeg))) hx hb hr hlocks dX2_firstFree_30 (Option.some.inj h)
  exact L10 FU (0 : Int32)  ls (lv_sub hl [3, 2, 1, 0] rfl) h
set_option maxHeartbeats 4000000 in
set_option maxRecDepth 100000 in
theorem c_X2_shelfToPut (l : Launch) (D : va_G) (c5 : Nat → ClassId) (a : KAd) (k : KSt) (hI : KI a) (j1 : Nat) (hj1 : j1 < kN k) (r : Option Nat) (h : R_X2_shelfToPut k j1 = some r) : Met l yX2_shelfToPut (ws_ yX2_shelfToPut cX2_shelfToPut 3 (some (.object "SlabKitchen$Shelf"))) { frames := 3, cells := 0, slots := 0, locals := 69 } (va_Pc [.ref (aO a 0), .ref (aK a j1)] (roB D (tyG c5) (KW c5 a k))) (va_Se (aS a) (fun x => x = r)) 0 0 (fun _ => False) := by
  refine Met.ofW (cc := cX2_shelfToPut) (maxL := 3) (ret := (some (.object "SlabKitchen$Shelf"))) (by decide) rfl ?_
  intro p e s m args below meth c s₁ B hml hv
  obtain ⟨rfl, hP, hK⟩ := hv
  have hx := B.exec
  have hb := B.bytes
  have hr := B.returns
  have hts : ∀ w ∈ LA, w.before _ s = true := fun w hw => atoms_spec (ws := ws_ yX2_shelfToPut cX2_shelfToPut 3 (some (.object "SlabKitchen$Shelf"))) B.pre w (List.mem_cons_of_mem _ hw)
  have hown : s.vm.findClass RX2 = some m.cls := findClass_of_methodNamed B.named
  have hlocks := B.notSynchronized
  have hl := lv_entry ([.ref (aO a 0), .ref (aK a j1)] : List Value) (n := 3) (Nat.le_of_ble_eq_true rfl)
  rw [lg_entry_eq]
  generalize (lg_sl ([.ref (aO a 0), .ref (aK a j1)] : List Value) ++ List.replicate (3 - (lg_sl ([.ref (aO a 0), .ref (aK a j1)] : List Value)).length) Slot.unset).toArray = ls at hl ⊢
  have hl : lv_has ls 3 [(0, .ref (aO a 0)), (1, .ref (aK a j1))] := hl
  unfold R_X2_shelfToPut at h
  refine lv_aload_n hx hb dX2_shelfToPut_0 rfl (lv_at hl 0 rfl) ?_
  refine lv_aload_n hx hb dX2_shelfToPut_1 rfl (lv_at hl 1 rfl) ?_
  obtain ⟨v2, e2, h⟩ := o_bind h
  refine ro_calle (ro_runV (As := [.ref (aK a j1)]) (rest := []) ⟨hx, hb, hml, hown, hts⟩ hP hK (c_X2_inUseByWay l D c5 a k hI j1 hj1 v2 e2) gG_RX2_217 (va_recv hK hP (ci := 2) (q0 := 0) rfl (KW_0 c5 a k)) hd_X2_inUseByWay ⟨Nat.le_of_ble_eq_true rfl, Nat.le_of_ble_eq_true rfl⟩ ⟨rfl, rfl⟩ hl.1 (Nat.le_of_ble_eq_true rfl) dX2_shelfToPut_2 ⟨Nat.zero_le _, Nat.zero_le _⟩ rfl) ?_
  refine qv_astore_n (i := 2) (lv' := [(2, va_rf (v2.map (aS a))), (0, .ref (aO a 0)), (1, .ref (aK a j1))]) hx hb dX2_shelfToPut_5 rfl hl (by decide) rfl (fun ls hl => ?_)
  refine qv_aload_n hx hb dX2_shelfToPut_6 rfl (lv_at hl 0 rfl) ?_
  cases v2 with
  | none =>
    have h := oe_n h
    have hl : lv_has ls 3 [(2, .null), (0, .ref (aO a 0)), (1, .ref (aK a j1))] := hl
    refine lv_ifnonnullN hx hb dX2_shelfToPut_7 ?_
    refine lv_aload_n hx hb dX2_shelfToPut_10 rfl (lv_at hl 1 rfl) ?_
    refine lv_aload_n hx hb dX2_shelfToPut_11 rfl (lv_at hl 2 rfl) ?_
    refine lv_iconst (v := (1 : Int32)) hx hb dX2_shelfToPut_12 (by decide) ?_
    obtain ⟨v13, e13, h⟩ := o_bind h
    refine ro_calle (ro_runV (As := [.ref (aK a j1), .int (1 : Int32)]) (rest := []) ⟨hx, hb, hml, hown, hts⟩ hP hK (c_X2_firstInState l D c5 a k hI j1 hj1 (1 : Int32) v13 e13) gG_RX2_220 (va_recv hK hP (ci := 2) (q0 := 0) rfl (KW_0 c5 a k)) hd_X2_firstInState ⟨Nat.le_of_ble_eq_true rfl, Nat.le_of_ble_eq_true rfl⟩ ⟨rfl, rfl⟩ hl.1 (Nat.le_of_ble_eq_true rfl) dX2_shelfToPut_13 ⟨Nat.zero_le _, Nat.zero_le _⟩ rfl) ?_
    refine qv_astore_n (i := 2) (lv' := [(2, va_rf (v13.map (aS a))), (0, .ref (aO a 0)), (1, .ref (aK a j1))]) hx hb dX2_shelfToPut_16 rfl hl (by decide) rfl (fun ls hl => ?_)
    refine qv_aload_n hx hb dX2_shelfToPut_17 rfl (lv_at hl 0 rfl) ?_
    cases v13 with
    | none =>
      have h := oe_n h
      have hl : lv_has ls 3 [(2, .null), (0, .ref (aO a 0)), (1, .ref (aK a j1))] := hl
      refine lv_ifnonnullN hx hb dX2_shelfToPut_18 ?_
      refine lv_aload_n hx hb dX2_shelfToPut_21 rfl (lv_at hl 1 rfl) ?_
      obtain ⟨v22, e22, h⟩ := o_bind h
      refine ro_calle (ro_runV (As := []) (rest := []) ⟨hx, hb, hml, hown, hts⟩ hP hK (c_X2_firstFree l D c5 a k hI  v22 e22) gG_RX2_224 (va_recv hK hP (ci := 2) (q0 := 0) rfl (KW_0 c5 a k)) hd_X2_firstFree ⟨Nat.le_of_ble_eq_true rfl, Nat.le_of_ble_eq_true rfl⟩ ⟨rfl, rfl⟩ hl.1 (Nat.le_of_ble_eq_true rfl) dX2_shelfToPut_22 ⟨Nat.zero_le _, Nat.zero_le _⟩ rfl) ?_
      refine lv_goto (tgt := 29) hx hb dX2_shelfToPut_25 (by decide) ?_
      exact ro_aret (ad := aS a) (v := v22) hx hb hr hlocks dX2_shelfToPut_29 (Option.some.inj h)
    | some j18 =>
      obtain ⟨hj18, h⟩ := oe_sif h
      have hl : lv_has ls 3 [(2, .ref (aS a j18)), (0, .ref (aO a 0)), (1, .ref (aK a j1))] := hl
      refine lv_ifnonnull (tgt := 28) hx hb dX2_shelfToPut_18 (by decide) ?_
      refine lv_aload_n hx hb dX2_shelfToPut_28 rfl (lv_at hl 0 rfl) ?_
      exact ro_aret (ad := aS a) (v := (some j18)) hx hb hr hlocks dX2_shelfToPut_29 (Option.some.inj h)
  | some j7 =>
    obtain ⟨hj7, h⟩ := oe_sif h
    have hl : lv_has ls 3 [(2, .ref (aS a j7)), (0, .ref (aO a 0)), (1, .ref (aK a j1))] := hl
    refine lv_ifnonnull (tgt := 17) hx hb dX2_shelfToPut_7 (by decide) ?_
    refine lv_aload_n hx hb dX2_shelfToPut_17 rfl (lv_at hl 0 rfl) ?_
    refine lv_ifnonnull (tgt := 28) hx hb dX2_shelfToPut_18 (by decide) ?_
    refine lv_aload_n hx hb dX2_shelfToPut_28 rfl (lv_at hl 0 rfl) ?_
    exact ro_aret (ad := aS a) (v := (some j7)) hx hb hr hlocks dX2_shelfToPut_29 (Option.some.inj h)
set_option maxHeartbeats 4000000 in
set_option maxRecDepth 100000 in
theorem c_X2_lastFewestBowls (l : Launch) (D : va_G) (c5 : Nat → ClassId) (a : KAd) (k : KSt) (hI : KI a) (j1 : Nat) (hj1 : j1 < kN k) (r : Option Nat) (h : R_X2_lastFewestBowls k j1 = some r) : Met l yX2_lastFewestBowls (ws_ yX2_lastFewestBowls cX2_lastFewestBowls 7 (some (.object "SlabKitchen$Shelf"))) { frames := 1, cells := 0, slots := 0, locals := 21 } (va_Pc [.ref (aO a 0), .ref (aK a j1)] (roB D (tyG c5) (KW c5 a k))) (va_Se (aS a) (fun x => x = r)) 0 0 (fun _ => False) := by
  refine Met.ofW (cc := cX2_lastFewestBowls) (maxL := 7) (ret := (some (.object "SlabKitchen$Shelf"))) (by decide) rfl ?_
  intro p e s m args below meth c s₁ B hml hv
  obtain ⟨rfl, hP, hK⟩ := hv
  have hx := B.exec
  have hb := B.bytes
  have hr := B.returns
  have hts : ∀ w ∈ LA, w.before _ s = true := fun w hw => atoms_spec (ws := ws_ yX2_lastFewestBowls cX2_lastFewestBowls 7 (some (.object "SlabKitchen$Shelf"))) B.pre w (List.mem_cons_of_mem _ hw)
  have hown : s.vm.findClass RX2 = some m.cls := findClass_of_methodNamed B.named
  have hlocks := B.notSynchronized
  have hl := lv_entry ([.ref (aO a 0), .ref (aK a j1)] : List Value) (n := 7) (Nat.le_of_ble_eq_true rfl)
  rw [lg_entry_eq]
  generalize (lg_sl ([.ref (aO a 0), .ref (aK a j1)] : List Value) ++ List.replicate (7 - (lg_sl ([.ref (aO a 0), .ref (aK a j1)] : List Value)).length) Slot.unset).toArray = ls at hl ⊢
  have hl : lv_has ls 7 [(0, .ref (aO a 0)), (1, .ref (aK a j1))] := hl
  unfold R_X2_lastFewestBowls at h
  refine lv_null hx hb dX2_lastFewestBowls_0 ?_
  refine lv_astore_nN (i := 2) (lv' := [(2, .null), (0, .ref (aO a 0)), (1, .ref (aK a j1))]) hx hb dX2_lastFewestBowls_1 rfl hl (by decide) rfl (fun ls hl => ?_)
  refine lv_aload_n hx hb dX2_lastFewestBowls_2 rfl (lv_at hl 1 rfl) ?_
  refine va_get (D := D) (ci := 2) (v := .ref (aO a 1)) (C := RX2) (T := TX2) (N := 7) hx hb hts iX2 hown hK hP 0 (KW_0 c5 a k) rfl 0 (by decide) (hts _ wT1_60) (fun _ h9 => h9) rfl dX2_lastFewestBowls_3 ?_
  refine lv_astore_n (i := 3) (lv' := [(3, .ref (aO a 1)), (2, .null), (0, .ref (aO a 0)), (1, .ref (aK a j1))]) hx hb dX2_lastFewestBowls_6 rfl hl (by decide) rfl (fun ls hl => ?_)
  refine lv_aload_n hx hb dX2_lastFewestBowls_7 rfl (lv_at hl 0 rfl) ?_
  refine va_alen (v := (12 : Int32)) hx hb hK hP 1 0 (KW_1 c5 a k) rfl rfl dX2_lastFewestBowls_8 ?_
  refine lv_istore (i := 4) (lv' := [(4, .int (12 : Int32)), (3, .ref (aO a 1)), (2, .null), (0, .ref (aO a 0)), (1, .ref (aK a j1))]) hx hb dX2_lastFewestBowls_9 hl (by decide) rfl (fun ls hl => ?_)
  refine lv_iconst (v := (0 : Int32)) hx hb dX2_lastFewestBowls_11 (by decide) ?_
  refine lv_istore (i := 5) (lv' := [(5, .int (0 : Int32)), (4, .int (12 : Int32)), (3, .ref (aO a 1)), (2, .null), (0, .ref (aO a 0)), (1, .ref (aK a j1))]) hx hb dX2_lastFewestBowls_12 hl (by decide) rfl (fun ls hl => ?_)
  have L14 : ∀ (n : Nat) (x2_14 : Option Nat) (x5_14 : Int32) (ls : Array Slot), lv_has ls 7 [(0, .ref (aO a 0)), (1, .ref (aK a j1)), (2, va_rf (x2_14.map (aS a))), (3, .ref (aO a 1)), (4, .int (12 : Int32)), (5, .int x5_14)] → R_X2_lastFewestBowls_L14 k j1 n x2_14 x5_14 = some r → W p l e (headSpec (ws_ yX2_lastFewestBowls cX2_lastFewestBowls 7 (some (.object "SlabKitchen$Shelf"))) { frames := 1, cells := 0, slots := 0, locals := 21 }).room s m ([.ref (aO a 0), .ref (aK a j1)] : List Value).toArray below meth c s.heap [] 0 0 (MQ below (va_Se (aS a) (fun x => x = r)) ([.ref (aO a 0), .ref (aK a j1)] : List Value).toArray s 0 0 (fun _ => False)) (F0 m 14 ls []) := by
    intro n
    induction n with
    | zero =>
      intro x2_14 x5_14 ls hl h
      exact absurd h (by simp [R_X2_lastFewestBowls_L14])
    | succ n ih =>
      intro x2_14 x5_14 ls hl h
      rw [R_X2_lastFewestBowls_L14] at h
      refine lv_iload hx hb dX2_lastFewestBowls_14 (lv_at hl 5 rfl) ?_
      refine lv_iload hx hb dX2_lastFewestBowls_16 (lv_at hl 4 rfl) ?_
      refine lv_icmp_ge (tgt := 70) hx hb dX2_lastFewestBowls_18 (by decide) (fun q => ?_) (fun q => ?_)
      · have h := o_t h q
        refine qv_aload_n hx hb dX2_lastFewestBowls_70 rfl (lv_at hl 2 rfl) ?_
        exact ro_aret (ad := aS a) (v := x2_14) hx hb hr hlocks dX2_lastFewestBowls_71 (Option.some.inj h)
      · have h := o_f h q
        refine lv_aload_n hx hb dX2_lastFewestBowls_21 rfl (lv_at hl 3 rfl) ?_
        refine lv_iload hx hb dX2_lastFewestBowls_22 (lv_at hl 5 rfl) ?_
        obtain ⟨g24, h⟩ := o_if h
        refine va_aldS hx hb hK hP g24 dX2_lastFewestBowls_24 ?_
        refine lv_astore (i := 6) (lv' := [(6, .ref (aS a (x5_14.toNatClampNeg))), (0, .ref (aO a 0)), (1, .ref (aK a j1)), (2, va_rf (x2_14.map (aS a))), (3, .ref (aO a 1)), (4, .int (12 : Int32)), (5, .int x5_14)]) hx hb dX2_lastFewestBowls_25 hl (by decide) rfl (fun ls hl => ?_)
        refine lv_aload hx hb dX2_lastFewestBowls_27 (lv_at hl 0 rfl) ?_
        refine lv_aload_n hx hb dX2_lastFewestBowls_29 rfl (lv_at hl 2 rfl) ?_
        obtain ⟨v30, e30, h⟩ := o_bind h
        refine ro_calli (ro_runV (As := [.ref (aK a j1)]) (rest := []) ⟨hx, hb, hml, hown, hts⟩ hP hK (c_X1_isOf l D c5 a k hI (x5_14.toNatClampNeg) (inb_lt g24) j1 hj1 v30 e30) gG_RX2_235 (va_recv hK hP (ci := 1) (q0 := (3 + (x5_14.toNatClampNeg))) rfl (KW_S c5 a k (inb_lt g24))) hd_X1_isOf ⟨Nat.le_of_ble_eq_true rfl, Nat.le_of_ble_eq_true rfl⟩ ⟨rfl, rfl⟩ hl.1 (Nat.le_of_ble_eq_true rfl) dX2_lastFewestBowls_30 ⟨Nat.zero_le _, Nat.zero_le _⟩ rfl) ?_
        refine lv_if_eq (tgt := 64) hx hb dX2_lastFewestBowls_33 (by decide) (fun q => ?_) (fun q => ?_)
        · have h := o_t h q
          refine lv_iinc (v := (x5_14 + (1 : Int32))) (lv' := [(5, .int (x5_14 + (1 : Int32))), (6, .ref (aS a (x5_14.toNatClampNeg))), (0, .ref (aO a 0)), (1, .ref (aK a j1)), (2, va_rf (x2_14.map (aS a))), (3, .ref (aO a 1)), (4, .int (12 : Int32))]) hx hb dX2_lastFewestBowls_64 hl (k := 6) rfl rfl (by decide) rfl (fun ls hl => ?_)
          refine lv_goto (tgt := 14) hx hb dX2_lastFewestBowls_67 (by decide) ?_
          exact ih x2_14 (x5_14 + (1 : Int32))  ls (lv_sub hl [2, 3, 4, 5, 6, 0] rfl) h
        · have h := o_f h q
          refine lv_aload hx hb dX2_lastFewestBowls_36 (lv_at hl 0 rfl) ?_
          obtain ⟨v38, e38, h⟩ := o_bind h
          refine ro_calli (ro_runV (As := []) (rest := []) ⟨hx, hb, hml, hown, hts⟩ hP hK (c_X1_state l D c5 a k hI (x5_14.toNatClampNeg) (inb_lt g24) v38 e38) gG_RX2_70 (va_recv hK hP (ci := 1) (q0 := (3 + (x5_14.toNatClampNeg))) rfl (KW_S c5 a k (inb_lt g24))) hd_X1_state ⟨Nat.le_of_ble_eq_true rfl, Nat.le_of_ble_eq_true rfl⟩ ⟨rfl, rfl⟩ hl.1 (Nat.le_of_ble_eq_true rfl) dX2_lastFewestBowls_38 ⟨Nat.zero_le _, Nat.zero_le _⟩ rfl) ?_
          refine lv_iconst (v := (2 : Int32)) hx hb dX2_lastFewestBowls_41 (by decide) ?_
          refine lv_icmp_ne (tgt := 64) hx hb dX2_lastFewestBowls_42 (by decide) (fun q => ?_) (fun q => ?_)
          · have h := o_t' h q
            refine lv_iinc (v := (x5_14 + (1 : Int32))) (lv' := [(5, .int (x5_14 + (1 : Int32))), (6, .ref (aS a (x5_14.toNatClampNeg))), (0, .ref (aO a 0)), (1, .ref (aK a j1)), (2, va_rf (x2_14.map (aS a))), (3, .ref (aO a 1)), (4, .int (12 : Int32))]) hx hb dX2_lastFewestBowls_64 hl (k := 6) rfl rfl (by decide) rfl (fun ls hl => ?_)
            refine lv_goto (tgt := 14) hx hb dX2_lastFewestBowls_67 (by decide) ?_
            exact ih x2_14 (x5_14 + (1 : Int32))  ls (lv_sub hl [2, 3, 4, 5, 6, 0] rfl) h
          · have h := o_f' h q
            refine qv_aload_n hx hb dX2_lastFewestBowls_45 rfl (lv_at hl 3 rfl) ?_
            cases x2_14 with
            | none =>
              have h := oe_n h
              have hl : lv_has ls 7 [(6, .ref (aS a (x5_14.toNatClampNeg))), (0, .ref (aO a 0)), (1, .ref (aK a j1)), (2, .null), (3, .ref (aO a 1)), (4, .int (12 : Int32)), (5, .int x5_14)] := hl
              refine lv_ifnullN (tgt := 61) hx hb dX2_lastFewestBowls_46 (by decide) ?_
              refine lv_aload hx hb dX2_lastFewestBowls_61 (lv_at hl 0 rfl) ?_
              refine lv_astore_n (i := 2) (lv' := [(2, .ref (aS a (x5_14.toNatClampNeg))), (6, .ref (aS a (x5_14.toNatClampNeg))), (0, .ref (aO a 0)), (1, .ref (aK a j1)), (3, .ref (aO a 1)), (4, .int (12 : Int32)), (5, .int x5_14)]) hx hb dX2_lastFewestBowls_63 rfl hl (by decide) rfl (fun ls hl => ?_)
              refine lv_iinc (v := (x5_14 + (1 : Int32))) (lv' := [(5, .int (x5_14 + (1 : Int32))), (2, .ref (aS a (x5_14.toNatClampNeg))), (6, .ref (aS a (x5_14.toNatClampNeg))), (0, .ref (aO a 0)), (1, .ref (aK a j1)), (3, .ref (aO a 1)), (4, .int (12 : Int32))]) hx hb dX2_lastFewestBowls_64 hl (k := 6) rfl rfl (by decide) rfl (fun ls hl => ?_)
              refine lv_goto (tgt := 14) hx hb dX2_lastFewestBowls_67 (by decide) ?_
              exact ih (some (x5_14.toNatClampNeg)) (x5_14 + (1 : Int32))  ls (lv_sub hl [3, 4, 1, 5, 6, 0] rfl) h
            | some j46 =>
              obtain ⟨hj46, h⟩ := oe_sif h
              have hl : lv_has ls 7 [(6, .ref (aS a (x5_14.toNatClampNeg))), (0, .ref (aO a 0)), (1, .ref (aK a j1)), (2, .ref (aS a j46)), (3, .ref (aO a 1)), (4, .int (12 : Int32)), (5, .int x5_14)] := hl
              refine lv_ifnull hx hb dX2_lastFewestBowls_46 ?_
              refine lv_aload hx hb dX2_lastFewestBowls_49 (lv_at hl 0 rfl) ?_
              refine va_get (D := D) (ci := 1) (v := .int (kS k 6 (x5_14.toNatClampNeg))) (C := RX1) (T := TX1) (N := 8) hx hb hts iX1 hown hK hP (3 + (x5_14.toNatClampNeg)) (KW_S c5 a k (inb_lt g24)) rfl 6 (by decide) (hts _ wT1_39) (fun _ h9 => h9) rfl dX2_lastFewestBowls_51 ?_
              refine lv_aload_n hx hb dX2_lastFewestBowls_54 rfl (lv_at hl 3 rfl) ?_
              refine va_get (D := D) (ci := 1) (v := .int (kS k 6 j46)) (C := RX1) (T := TX1) (N := 8) hx hb hts iX1 hown hK hP (3 + j46) (KW_S c5 a k hj46) rfl 6 (by decide) (hts _ wT1_39) (fun _ h9 => h9) rfl dX2_lastFewestBowls_55 ?_
              refine lv_icmp_gt (tgt := 64) hx hb dX2_lastFewestBowls_58 (by decide) (fun q => ?_) (fun q => ?_)
              · have h := o_t h q
                refine lv_iinc (v := (x5_14 + (1 : Int32))) (lv' := [(5, .int (x5_14 + (1 : Int32))), (6, .ref (aS a (x5_14.toNatClampNeg))), (0, .ref (aO a 0)), (1, .ref (aK a j1)), (2, .ref (aS a j46)), (3, .ref (aO a 1)), (4, .int (12 : Int32))]) hx hb dX2_lastFewestBowls_64 hl (k := 6) rfl rfl (by decide) rfl (fun ls hl => ?_)
                refine lv_goto (tgt := 14) hx hb dX2_lastFewestBowls_67 (by decide) ?_
                exact ih (some j46) (x5_14 + (1 : Int32))  ls (lv_sub hl [2, 3, 4, 5, 6, 0] rfl) h
              · have h := o_f h q
                refine lv_aload hx hb dX2_lastFewestBowls_61 (lv_at hl 0 rfl) ?_
                refine lv_astore_n (i := 2) (lv' := [(2, .ref (aS a (x5_14.toNatClampNeg))), (6, .ref (aS a (x5_14.toNatClampNeg))), (0, .ref (aO a 0)), (1, .ref (aK a j1)), (3, .ref (aO a 1)), (4, .int (12 : Int32)), (5, .int x5_14)]) hx hb dX2_lastFewestBowls_63 rfl hl (by decide) rfl (fun ls hl => ?_)
                refine lv_iinc (v := (x5_14 + (1 : Int32))) (lv' := [(5, .int (x5_14 + (1 : Int32))), (2, .ref (aS a (x5_14.toNatClampNeg))), (6, .ref (aS a (x5_14.toNatClampNeg))), (0, .ref (aO a 0)), (1, .ref (aK a j1)), (3, .ref (aO a 1)), (4, .int (12 : Int32))]) hx hb dX2_lastFewestBowls_64 hl (k := 6) rfl rfl (by decide) rfl (fun ls hl => ?_)
                refine lv_goto (tgt := 14) hx hb dX2_lastFewestBowls_67 (by decide) ?_
                exact ih (some (x5_14.toNatClampNeg)) (x5_14 + (1 : Int32))  ls (lv_sub hl [3, 4, 1, 5, 6, 0] rfl) h
  exact L14 FU none (0 : Int32)  ls (lv_sub hl [4, 5, 3, 2, 1, 0] rfl) h
set_option maxHeartbeats 4000000 in
set_option maxRecDepth 100000 in
theorem c_X2_moveToPack (l : Launch) (D : va_G) (c5 : Nat → ClassId) (a : KAd) (k : KSt) (hI : KI a) (sz : Nat) (j1 : Nat) (hj1 : j1 < kN k) (r : Int32 × KSt) (h : R_X2_moveToPack k j1 = some r) : Met l yX2_moveToPack (ws_ yX2_moveToPack cX2_moveToPack 4 (some .boolean)) { frames := 2, cells := 0, slots := 0, locals := 48 } (va_Pc [.ref (aO a 0), .ref (aK a j1)] (rwB D (tyG c5) (KW c5 a k) sz)) (va_Qi (fun x u => x = r.1 ∧ u = r.2) (rwE D (tyG c5) (va_A (KW c5 a k) sz) (fun u => KW c5 a u)) (va_A (KW c5 a k) sz)) 0 0 (va_A (KW c5 a k) sz) := by
  refine Met.ofW (cc := cX2_moveToPack) (maxL := 4) (ret := (some .boolean)) (by decide) rfl ?_
  intro p e s m args below meth c s₁ B hml hv
  obtain ⟨rfl, hsz, hP, hK, hD0⟩ := hv
  have hx := B.exec
  have hb := B.bytes
  have hr := B.returns
  have hts : ∀ w ∈ LA, w.before _ s = true := fun w hw => atoms_spec (ws := ws_ yX2_moveToPack cX2_moveToPack 4 (some .boolean)) B.pre w (List.mem_cons_of_mem _ hw)
  have hown : s.vm.findClass RX2 = some m.cls := findClass_of_methodNamed B.named
  have hlocks := B.notSynchronized
  subst hsz
  have hD := hD0.self (sz := s.heap.size)
  generalize hAe : va_A (KW c5 a k) s.heap.size = A at hD ⊢
  have hA : ∀ q : Nat, s.heap.size ≤ q → A q := fun q h => by rw [← hAe]; exact Or.inr h
  have hS : va_S A s.heap s.heap [] := va_S.rf
  have hl := lv_entry ([.ref (aO a 0), .ref (aK a j1)] : List Value) (n := 4) (Nat.le_of_ble_eq_true rfl)
  rw [lg_entry_eq]
  generalize (lg_sl ([.ref (aO a 0), .ref (aK a j1)] : List Value) ++ List.replicate (4 - (lg_sl ([.ref (aO a 0), .ref (aK a j1)] : List Value)).length) Slot.unset).toArray = ls at hl ⊢
  have hl : lv_has ls 4 [(0, .ref (aO a 0)), (1, .ref (aK a j1))] := hl
  unfold R_X2_moveToPack at h
  refine lv_aload_n hx hb dX2_moveToPack_0 rfl (lv_at hl 0 rfl) ?_
  refine lv_aload_n hx hb dX2_moveToPack_1 rfl (lv_at hl 1 rfl) ?_
  obtain ⟨v2, e2, h⟩ := o_bind h
  refine ro_calle (ro_runV (As := [.ref (aK a j1)]) (rest := []) ⟨hx, hb, hml, hown, hts⟩ hP hK (c_X2_lastFewestBowls l D c5 a k hI j1 hj1 v2 e2) gG_RX2_238 (va_recv hK hP (ci := 2) (q0 := 0) rfl (KW_0 c5 a k)) hd_X2_lastFewestBowls ⟨Nat.le_of_ble_eq_true rfl, Nat.le_of_ble_eq_true rfl⟩ ⟨rfl, rfl⟩ hl.1 (Nat.le_of_ble_eq_true rfl) dX2_moveToPack_2 ⟨Nat.zero_le _, Nat.zero_le _⟩ rfl) ?_
  refine qv_astore_n (i := 2) (lv' := [(2, va_rf (v2.map (aS a))), (0, .ref (aO a 0)), (1, .ref (aK a j1))]) hx hb dX2_moveToPack_5 rfl hl (by decide) rfl (fun ls hl => ?_)
  refine lv_aload_n hx hb dX2_moveToPack_6 rfl (lv_at hl 1 rfl) ?_
  refine lv_aload_n hx hb dX2_moveToPack_7 rfl (lv_at hl 2 rfl) ?_
  refine qv_aload_n hx hb dX2_moveToPack_8 rfl (lv_at hl 0 rfl) ?_
  obtain ⟨g9, h⟩ := o_if h
  obtain ⟨v9, e9, h⟩ := o_bind h
  refine ro_calle (ro_runV (As := [.ref (aK a j1), va_rf (v2.map (aS a))]) (rest := []) ⟨hx, hb, hml, hown, hts⟩ hP hK (c_X2_mostBowls l D c5 a k hI j1 hj1 v2 g9 v9 e9) gG_RX2_228 (va_recv hK hP (ci := 2) (q0 := 0) rfl (KW_0 c5 a k)) hd_X2_mostBowls ⟨Nat.le_of_ble_eq_true rfl, Nat.le_of_ble_eq_true rfl⟩ ⟨rfl, rfl⟩ hl.1 (Nat.le_of_ble_eq_true rfl) dX2_moveToPack_9 ⟨Nat.zero_le _, Nat.zero_le _⟩ rfl) ?_
  refine qv_astore_n (i := 3) (lv' := [(3, va_rf (v9.map (aS a))), (2, va_rf (v2.map (aS a))), (0, .ref (aO a 0)), (1, .ref (aK a j1))]) hx hb dX2_moveToPack_12 rfl hl (by decide) (by simp [va_rf_cat]) (fun ls hl => ?_)
  refine qv_aload_n hx hb dX2_moveToPack_13 rfl (lv_at hl 1 rfl) ?_
  cases v2 with
  | none =>
    have h := oe_n h
    have hl : lv_has ls 4 [(3, va_rf (v9.map (aS a))), (2, .null), (0, .ref (aO a 0)), (1, .ref (aK a j1))] := hl
    refine lv_ifnullN (tgt := 21) hx hb dX2_moveToPack_14 (by decide) ?_
    refine lv_iconst (v := (0 : Int32)) hx hb dX2_moveToPack_21 (by decide) ?_
    obtain rfl := (Option.some.inj h)
    exact rw_zret (wf := fun u => KW c5 a u) hx hb hr hlocks rfl hP hK hD hS dX2_moveToPack_22 rfl
  | some j14 =>
    obtain ⟨hj14, h⟩ := oe_sif h
    have hl : lv_has ls 4 [(3, va_rf (v9.map (aS a))), (2, .ref (aS a j14)), (0, .ref (aO a 0)), (1, .ref (aK a j1))] := hl
    refine lv_ifnull hx hb dX2_moveToPack_14 ?_
    refine qv_aload_n hx hb dX2_moveToPack_17 rfl (lv_at hl 0 rfl) ?_
    cases v9 with
    | none =>
      have h := oe_n h
      have hl : lv_has ls 4 [(3, .null), (2, .ref (aS a j14)), (0, .ref (aO a 0)), (1, .ref (aK a j1))] := hl
      refine lv_ifnonnullN hx hb dX2_moveToPack_18 ?_
      refine lv_iconst (v := (0 : Int32)) hx hb dX2_moveToPack_21 (by decide) ?_
      obtain rfl := (Option.some.inj h)
      exact rw_zret (wf := fun u => KW c5 a u) hx hb hr hlocks rfl hP hK hD hS dX2_moveToPack_22 rfl
    | some j18 =>
      obtain ⟨hj18, h⟩ := oe_sif h
      have hl : lv_has ls 4 [(3, .ref (aS a j18)), (2, .ref (aS a j14)), (0, .ref (aO a 0)), (1, .ref (aK a j1))] := hl
      refine lv_ifnonnull (tgt := 23) hx hb dX2_moveToPack_18 (by decide) ?_
      refine lv_aload_n hx hb dX2_moveToPack_23 rfl (lv_at hl 1 rfl) ?_
      refine lv_aload_n hx hb dX2_moveToPack_24 rfl (lv_at hl 1 rfl) ?_
      obtain ⟨v25, e25, h⟩ := o_bind h
      refine ro_calli (ro_runV (As := []) (rest := [.ref (aS a j14)]) ⟨hx, hb, hml, hown, hts⟩ hP hK (c_X1_lastBowl l D c5 a k hI j14 hj14 v25 e25) gG_RX2_241 (va_recv hK hP (ci := 1) (q0 := (3 + j14)) rfl (KW_S c5 a k hj14)) hd_X1_lastBowl ⟨Nat.le_of_ble_eq_true rfl, Nat.le_of_ble_eq_true rfl⟩ ⟨rfl, rfl⟩ hl.1 (Nat.le_of_ble_eq_true rfl) dX2_moveToPack_25 ⟨Nat.zero_le _, Nat.zero_le _⟩ rfl) ?_
      refine lv_aload_n hx hb dX2_moveToPack_28 rfl (lv_at hl 2 rfl) ?_
      refine va_get (D := D) (ci := 2) (v := .int (kG k 2)) (C := RX2) (T := TX2) (N := 7) hx hb hts iX2 hown hK hP 0 (KW_0 c5 a k) rfl 4 (by decide) (hts _ wT1_64) (fun _ h9 => h9) rfl dX2_moveToPack_29 ?_
      obtain ⟨v32, e32, h⟩ := o_bind h
      refine rw_callv (rw_runV (As := [.int v25, .int (kG k 2)]) (rest := []) ⟨hx, hb, hml, hown, hts⟩ hP hK hD (c_X1_removeBowl l D c5 a k hI s.heap.size j14 hj14 v25 (kG k 2) v32 e32) gG_RX2_101 (va_recv hK hP (ci := 1) (q0 := (3 + j14)) rfl (KW_S c5 a k hj14)) hd_X1_removeBowl ⟨Nat.le_of_ble_eq_true rfl, Nat.le_of_ble_eq_true rfl⟩ ⟨rfl, rfl⟩ hl.1 (Nat.le_of_ble_eq_true rfl) dX2_moveToPack_32 ⟨Nat.le_of_ble_eq_true rfl, Nat.le_of_ble_eq_true rfl⟩ rfl) hD hS hA (fun H locs hP hD hS => ?_)
      refine lv_aload_n hx hb dX2_moveToPack_35 rfl (lv_at hl 0 rfl) ?_
      refine lv_aload_n hx hb dX2_moveToPack_36 rfl (lv_at hl 0 rfl) ?_
      obtain ⟨v37, e37, h⟩ := o_bind h
      refine ro_calli (ro_runV (As := []) (rest := [.ref (aS a j18)]) ⟨hx, hb, hml, hown, hts⟩ hP hK (c_X1_firstGap l D c5 a v32 hI j18 hj18 v37 e37) gG_RX2_78 (va_recv hK hP (ci := 1) (q0 := (3 + j18)) rfl (KW_S c5 a v32 hj18)) hd_X1_firstGap ⟨Nat.le_of_ble_eq_true rfl, Nat.le_of_ble_eq_true rfl⟩ ⟨rfl, rfl⟩ hl.1 (Nat.le_of_ble_eq_true rfl) dX2_moveToPack_37 ⟨Nat.zero_le _, Nat.zero_le _⟩ rfl) ?_
      obtain ⟨v40, e40, h⟩ := o_bind h
      refine rw_callv (rw_runV (As := [.int v37]) (rest := []) ⟨hx, hb, hml, hown, hts⟩ hP hK hD (c_X1_addBowl l D c5 a v32 hI H.size j18 hj18 v37 v40 e40) gG_RX2_81 (va_recv hK hP (ci := 1) (q0 := (3 + j18)) rfl (KW_S c5 a v32 hj18)) hd_X1_addBowl ⟨Nat.le_of_ble_eq_true rfl, Nat.le_of_ble_eq_true rfl⟩ ⟨rfl, rfl⟩ hl.1 (Nat.le_of_ble_eq_true rfl) dX2_moveToPack_40 ⟨Nat.le_of_ble_eq_true rfl, Nat.le_of_ble_eq_true rfl⟩ rfl) hD hS hA (fun H locs hP hD hS => ?_)
      refine lv_iconst (v := (1 : Int32)) hx hb dX2_moveToPack_43 (by decide) ?_
      obtain rfl := (Option.some.inj h)
      exact rw_zret (wf := fun u => KW c5 a u) hx hb hr hlocks rfl hP hK hD hS dX2_moveToPack_44 rfl
set_option maxHeartbeats 4000000 in
set_option maxRecDepth 100000 in
theorem c_X2_shelvesOf (l : Launch) (D : va_G) (c5 : Nat → ClassId) (a : KAd) (k : KSt) (hI : KI a) (j1 : Nat) (hj1 : j1 < kN k) (r : Int32) (h : R_X2_shelvesOf k j1 = some r) : Met l yX2_shelvesOf (ws_ yX2_shelvesOf cX2_shelvesOf 7 (some .int)) { frames := 1, cells := 0, slots := 0, locals := 21 } (va_Pc [.ref (aO a 0), .ref (aK a j1)] (roB D (tyG c5) (KW c5 a k))) (vp_Si (fun x => x = r)) 0 0 (fun _ => False) := by
  refine Met.ofW (cc := cX2_shelvesOf) (maxL := 7) (ret := (some .int)) (by decide) rfl ?_
  intro p e s m args below meth c s₁ B hml hv
  obtain ⟨rfl, hP, hK⟩ := hv
  have hx := B.exec
  have hb := B.bytes
  have hr := B.returns
  have hts : ∀ w ∈ LA, w.before _ s = true := fun w hw => atoms_spec (ws := ws_ yX2_shelvesOf cX2_shelvesOf 7 (some .int)) B.pre w (List.mem_cons_of_mem _ hw)
  have hown : s.vm.findClass RX2 = some m.cls := findClass_of_methodNamed B.named
  have hlocks := B.notSynchronized
  have hl := lv_entry ([.ref (aO a 0), .ref (aK a j1)] : List Value) (n := 7) (Nat.le_of_ble_eq_true rfl)
  rw [lg_entry_eq]
  generalize (lg_sl ([.ref (aO a 0), .ref (aK a j1)] : List Value) ++ List.replicate (7 - (lg_sl ([.ref (aO a 0), .ref (aK a j1)] : List Value)).length) Slot.unset).toArray = ls at hl ⊢
  have hl : lv_has ls 7 [(0, .ref (aO a 0)), (1, .ref (aK a j1))] := hl
  unfold R_X2_shelvesOf at h
  refine lv_iconst (v := (0 : Int32)) hx hb dX2_shelvesOf_0 (by decide) ?_
  refine lv_istore_n (i := 2) (lv' := [(2, .int (0 : Int32)), (0, .ref (aO a 0)), (1, .ref (aK a j1))]) hx hb dX2_shelvesOf_1 rfl hl (by decide) rfl (fun ls hl => ?_)
  refine lv_aload_n hx hb dX2_shelvesOf_2 rfl (lv_at hl 1 rfl) ?_
  refine va_get (D := D) (ci := 2) (v := .ref (aO a 1)) (C := RX2) (T := TX2) (N := 7) hx hb hts iX2 hown hK hP 0 (KW_0 c5 a k) rfl 0 (by decide) (hts _ wT1_60) (fun _ h9 => h9) rfl dX2_shelvesOf_3 ?_
  refine lv_astore_n (i := 3) (lv' := [(3, .ref (aO a 1)), (2, .int (0 : Int32)), (0, .ref (aO a 0)), (1, .ref (aK a j1))]) hx hb dX2_shelvesOf_6 rfl hl (by decide) rfl (fun ls hl => ?_)
  refine lv_aload_n hx hb dX2_shelvesOf_7 rfl (lv_at hl 0 rfl) ?_
  refine va_alen (v := (12 : Int32)) hx hb hK hP 1 0 (KW_1 c5 a k) rfl rfl dX2_shelvesOf_8 ?_
  refine lv_istore (i := 4) (lv' := [(4, .int (12 : Int32)), (3, .ref (aO a 1)), (2, .int (0 : Int32)), (0, .ref (aO a 0)), (1, .ref (aK a j1))]) hx hb dX2_shelvesOf_9 hl (by decide) rfl (fun ls hl => ?_)
  refine lv_iconst (v := (0 : Int32)) hx hb dX2_shelvesOf_11 (by decide) ?_
  refine lv_istore (i := 5) (lv' := [(5, .int (0 : Int32)), (4, .int (12 : Int32)), (3, .ref (aO a 1)), (2, .int (0 : Int32)), (0, .ref (aO a 0)), (1, .ref (aK a j1))]) hx hb dX2_shelvesOf_12 hl (by decide) rfl (fun ls hl => ?_)
  have L14 : ∀ (n : Nat) (x2_14 : Int32) (x5_14 : Int32) (ls : Array Slot), lv_has ls 7 [(0, .ref (aO a 0)), (1, .ref (aK a j1)), (2, .int x2_14), (3, .ref (aO a 1)), (4, .int (12 : Int32)), (5, .int x5_14)] → R_X2_shelvesOf_L14 k j1 n x2_14 x5_14 = some r → W p l e (headSpec (ws_ yX2_shelvesOf cX2_shelvesOf 7 (some .int)) { frames := 1, cells := 0, slots := 0, locals := 21 }).room s m ([.ref (aO a 0), .ref (aK a j1)] : List Value).toArray below meth c s.heap [] 0 0 (MQ below (vp_Si (fun x => x = r)) ([.ref (aO a 0), .ref (aK a j1)] : List Value).toArray s 0 0 (fun _ => False)) (F0 m 14 ls []) := by
    intro n
    induction n with
    | zero =>
      intro x2_14 x5_14 ls hl h
      exact absurd h (by simp [R_X2_shelvesOf_L14])
    | succ n ih =>
      intro x2_14 x5_14 ls hl h
      rw [R_X2_shelvesOf_L14] at h
      refine lv_iload hx hb dX2_shelvesOf_14 (lv_at hl 5 rfl) ?_
      refine lv_iload hx hb dX2_shelvesOf_16 (lv_at hl 4 rfl) ?_
      refine lv_icmp_ge (tgt := 45) hx hb dX2_shelvesOf_18 (by decide) (fun q => ?_) (fun q => ?_)
      · have h := o_t h q
        refine lv_iload_n hx hb dX2_shelvesOf_45 rfl (lv_at hl 2 rfl) ?_
        exact ro_iret hx hb hr hlocks dX2_shelvesOf_46 (Option.some.inj h)
      · have h := o_f h q
        refine lv_aload_n hx hb dX2_shelvesOf_21 rfl (lv_at hl 3 rfl) ?_
        refine lv_iload hx hb dX2_shelvesOf_22 (lv_at hl 5 rfl) ?_
        obtain ⟨g24, h⟩ := o_if h
        refine va_aldS hx hb hK hP g24 dX2_shelvesOf_24 ?_
        refine lv_astore (i := 6) (lv' := [(6, .ref (aS a (x5_14.toNatClampNeg))), (0, .ref (aO a 0)), (1, .ref (aK a j1)), (2, .int x2_14), (3, .ref (aO a 1)), (4, .int (12 : Int32)), (5, .int x5_14)]) hx hb dX2_shelvesOf_25 hl (by decide) rfl (fun ls hl => ?_)
        refine lv_aload hx hb dX2_shelvesOf_27 (lv_at hl 0 rfl) ?_
        refine lv_aload_n hx hb dX2_shelvesOf_29 rfl (lv_at hl 2 rfl) ?_
        obtain ⟨v30, e30, h⟩ := o_bind h
        refine ro_calli (ro_runV (As := [.ref (aK a j1)]) (rest := []) ⟨hx, hb, hml, hown, hts⟩ hP hK (c_X1_isOf l D c5 a k hI (x5_14.toNatClampNeg) (inb_lt g24) j1 hj1 v30 e30) gG_RX2_235 (va_recv hK hP (ci := 1) (q0 := (3 + (x5_14.toNatClampNeg))) rfl (KW_S c5 a k (inb_lt g24))) hd_X1_isOf ⟨Nat.le_of_ble_eq_true rfl, Nat.le_of_ble_eq_true rfl⟩ ⟨rfl, rfl⟩ hl.1 (Nat.le_of_ble_eq_true rfl) dX2_shelvesOf_30 ⟨Nat.zero_le _, Nat.zero_le _⟩ rfl) ?_
        refine lv_if_eq (tgt := 39) hx hb dX2_shelvesOf_33 (by decide) (fun q => ?_) (fun q => ?_)
        · have h := o_t h q
          refine lv_iinc (v := (x5_14 + (1 : Int32))) (lv' := [(5, .int (x5_14 + (1 : Int32))), (6, .ref (aS a (x5_14.toNatClampNeg))), (0, .ref (aO a 0)), (1, .ref (aK a j1)), (2, .int x2_14), (3, .ref (aO a 1)), (4, .int (12 : Int32))]) hx hb dX2_shelvesOf_39 hl (k := 6) rfl rfl (by decide) rfl (fun ls hl => ?_)
          refine lv_goto (tgt := 14) hx hb dX2_shelvesOf_42 (by decide) ?_
          exact ih x2_14 (x5_14 + (1 : Int32))  ls (lv_sub hl [2, 3, 4, 5, 6, 0] rfl) h
        · have h := o_f h q
          refine lv_iinc (v := (x2_14 + (1 : Int32))) (lv' := [(2, .int (x2_14 + (1 : Int32))), (6, .ref (aS a (x5_14.toNatClampNeg))), (0, .ref (aO a 0)), (1, .ref (aK a j1)), (3, .ref (aO a 1)), (4, .int (12 : Int32)), (5, .int x5_14)]) hx hb dX2_shelvesOf_36 hl (k := 3) rfl rfl (by decide) rfl (fun ls hl => ?_)
          refine lv_iinc (v := (x5_14 + (1 : Int32))) (lv' := [(5, .int (x5_14 + (1 : Int32))), (2, .int (x2_14 + (1 : Int32))), (6, .ref (aS a (x5_14.toNatClampNeg))), (0, .ref (aO a 0)), (1, .ref (aK a j1)), (3, .ref (aO a 1)), (4, .int (12 : Int32))]) hx hb dX2_shelvesOf_39 hl (k := 6) rfl rfl (by decide) rfl (fun ls hl => ?_)
          refine lv_goto (tgt := 14) hx hb dX2_shelvesOf_42 (by decide) ?_
          exact ih (x2_14 + (1 : Int32)) (x5_14 + (1 : Int32))  ls (lv_sub hl [3, 4, 1, 5, 6, 0] rfl) h
  exact L14 FU (0 : Int32) (0 : Int32)  ls (lv_sub hl [4, 5, 3, 2, 1, 0] rfl) h
set_option maxHeartbeats 4000000 in
set_option maxRecDepth 100000 in
theorem c_X2_shelvesInState (l : Launch) (D : va_G) (c5 : Nat → ClassId) (a : KAd) (k : KSt) (hI : KI a) (j1 : Nat) (hj1 : j1 < kN k) (p2 : Int32) (r : Int32) (h : R_X2_shelvesInState k j1 p2 = some r) : Met l yX2_shelvesInState (ws_ yX2_shelvesInState cX2_shelvesInState 8 (some .int)) { frames := 1, cells := 0, slots := 0, locals := 21 } (va_Pc [.ref (aO a 0), .ref (aK a j1), .int p2] (roB D (tyG c5) (KW c5 a k))) (vp_Si (fun x => x = r)) 0 0 (fun _ => False) := by
  refine Met.ofW (cc := cX2_shelvesInState) (maxL := 8) (ret := (some .int)) (by decide) rfl ?_
  intro p e s m args below meth c s₁ B hml hv
  obtain ⟨rfl, hP, hK⟩ := hv
  have hx := B.exec
  have hb := B.bytes
  have hr := B.returns
  have hts : ∀ w ∈ LA, w.before _ s = true := fun w hw => atoms_spec (ws := ws_ yX2_shelvesInState cX2_shelvesInState 8 (some .int)) B.pre w (List.mem_cons_of_mem _ hw)
  have hown : s.vm.findClass RX2 = some m.cls := findClass_of_methodNamed B.named
  have hlocks := B.notSynchronized
  have hl := lv_entry ([.ref (aO a 0), .ref (aK a j1), .int p2] : List Value) (n := 8) (Nat.le_of_ble_eq_true rfl)
  rw [lg_entry_eq]
  generalize (lg_sl ([.ref (aO a 0), .ref (aK a j1), .int p2] : List Value) ++ List.replicate (8 - (lg_sl ([.ref (aO a 0), .ref (aK a j1), .int p2] : List Value)).length) Slot.unset).toArray = ls at hl ⊢
  have hl : lv_has ls 8 [(0, .ref (aO a 0)), (1, .ref (aK a j1)), (2, .int p2)] := hl
  unfold R_X2_shelvesInState at h
  refine lv_iconst (v := (0 : Int32)) hx hb dX2_shelvesInState_0 (by decide) ?_
  refine lv_istore_n (i := 3) (lv' := [(3, .int (0 : Int32)), (0, .ref (aO a 0)), (1, .ref (aK a j1)), (2, .int p2)]) hx hb dX2_shelvesInState_1 rfl hl (by decide) rfl (fun ls hl => ?_)
  refine lv_aload_n hx hb dX2_shelvesInState_2 rfl (lv_at hl 1 rfl) ?_
  refine va_get (D := D) (ci := 2) (v := .ref (aO a 1)) (C := RX2) (T := TX2) (N := 7) hx hb hts iX2 hown hK hP 0 (KW_0 c5 a k) rfl 0 (by decide) (hts _ wT1_60) (fun _ h9 => h9) rfl dX2_shelvesInState_3 ?_
  refine lv_astore (i := 4) (lv' := [(4, .ref (aO a 1)), (3, .int (0 : Int32)), (0, .ref (aO a 0)), (1, .ref (aK a j1)), (2, .int p2)]) hx hb dX2_shelvesInState_6 hl (by decide) rfl (fun ls hl => ?_)
  refine lv_aload hx hb dX2_shelvesInState_8 (lv_at hl 0 rfl) ?_
  refine va_alen (v := (12 : Int32)) hx hb hK hP 1 0 (KW_1 c5 a k) rfl rfl dX2_shelvesInState_10 ?_
  refine lv_istore (i := 5) (lv' := [(5, .int (12 : Int32)), (4, .ref (aO a 1)), (3, .int (0 : Int32)), (0, .ref (aO a 0)), (1, .ref (aK a j1)), (2, .int p2)]) hx hb dX2_shelvesInState_11 hl (by decide) rfl (fun ls hl => ?_)
  refine lv_iconst (v := (0 : Int32)) hx hb dX2_shelvesInState_13 (by decide) ?_
  refine lv_istore (i := 6) (lv' := [(6, .int (0 : Int32)), (5, .int (12 : Int32)), (4, .ref (aO a 1)), (3, .int (0 : Int32)), (0, .ref (aO a 0)), (1, .ref (aK a j1)), (2, .int p2)]) hx hb dX2_shelvesInState_14 hl (by decide) rfl (fun ls hl => ?_)
  have L16 : ∀ (n : Nat) (x3_16 : Int32) (x6_16 : Int32) (ls : Array Slot), lv_has ls 8 [(0, .ref (aO a 0)), (1, .ref (aK a j1)), (2, .int p2), (3, .int x3_16), (4, .ref (aO a 1)), (5, .int (12 : Int32)), (6, .int x6_16)] → R_X2_shelvesInState_L16 k j1 p2 n x3_16 x6_16 = some r → W p l e (headSpec (ws_ yX2_shelvesInState cX2_shelvesInState 8 (some .int)) { frames := 1, cells := 0, slots := 0, locals := 21 }).room s m ([.ref (aO a 0), .ref (aK a j1), .int p2] : List Value).toArray below meth c s.heap [] 0 0 (MQ below (vp_Si (fun x => x = r)) ([.ref (aO a 0), .ref (aK a j1), .int p2] : List Value).toArray s 0 0 (fun _ => False)) (F0 m 16 ls []) := by
    intro n
    induction n with
    | zero =>
      intro x3_16 x6_16 ls hl h
      exact absurd h (by simp [R_X2_shelvesInState_L16])
    | succ n ih =>
      intro x3_16 x6_16 ls hl h
      rw [R_X2_shelvesInState_L16] at h
      refine lv_iload hx hb dX2_shelvesInState_16 (lv_at hl 6 rfl) ?_
      refine lv_iload hx hb dX2_shelvesInState_18 (lv_at hl 5 rfl) ?_
      refine lv_icmp_ge (tgt := 57) hx hb dX2_shelvesInState_20 (by decide) (fun q => ?_) (fun q => ?_)
      · have h := o_t h q
        refine lv_iload_n hx hb dX2_shelvesInState_57 rfl (lv_at hl 3 rfl) ?_
        exact ro_iret hx hb hr hlocks dX2_shelvesInState_58 (Option.some.inj h)
      · have h := o_f h q
        refine lv_aload hx hb dX2_shelvesInState_23 (lv_at hl 4 rfl) ?_
        refine lv_iload hx hb dX2_shelvesInState_25 (lv_at hl 6 rfl) ?_
        obtain ⟨g27, h⟩ := o_if h
        refine va_aldS hx hb hK hP g27 dX2_shelvesInState_27 ?_
        refine lv_astore (i := 7) (lv' := [(7, .ref (aS a (x6_16.toNatClampNeg))), (0, .ref (aO a 0)), (1, .ref (aK a j1)), (2, .int p2), (3, .int x3_16), (4, .ref (aO a 1)), (5, .int (12 : Int32)), (6, .int x6_16)]) hx hb dX2_shelvesInState_28 hl (by decide) rfl (fun ls hl => ?_)
        refine lv_aload hx hb dX2_shelvesInState_30 (lv_at hl 0 rfl) ?_
        refine lv_aload_n hx hb dX2_shelvesInState_32 rfl (lv_at hl 2 rfl) ?_
        obtain ⟨v33, e33, h⟩ := o_bind h
        refine ro_calli (ro_runV (As := [.ref (aK a j1)]) (rest := []) ⟨hx, hb, hml, hown, hts⟩ hP hK (c_X1_isOf l D c5 a k hI (x6_16.toNatClampNeg) (inb_lt g27) j1 hj1 v33 e33) gG_RX2_235 (va_recv hK hP (ci := 1) (q0 := (3 + (x6_16.toNatClampNeg))) rfl (KW_S c5 a k (inb_lt g27))) hd_X1_isOf ⟨Nat.le_of_ble_eq_true rfl, Nat.le_of_ble_eq_true rfl⟩ ⟨rfl, rfl⟩ hl.1 (Nat.le_of_ble_eq_true rfl) dX2_shelvesInState_33 ⟨Nat.zero_le _, Nat.zero_le _⟩ rfl) ?_
        refine lv_if_eq (tgt := 51) hx hb dX2_shelvesInState_36 (by decide) (fun q => ?_) (fun q => ?_)
        · have h := o_t h q
          refine lv_iinc (v := (x6_16 + (1 : Int32))) (lv' := [(6, .int (x6_16 + (1 : Int32))), (7, .ref (aS a (x6_16.toNatClampNeg))), (0, .ref (aO a 0)), (1, .ref (aK a j1)), (2, .int p2), (3, .int x3_16), (4, .ref (aO a 1)), (5, .int (12 : Int32))]) hx hb dX2_shelvesInState_51 hl (k := 7) rfl rfl (by decide) rfl (fun ls hl => ?_)
          refine lv_goto (tgt := 16) hx hb dX2_shelvesInState_54 (by decide) ?_
          exact ih x3_16 (x6_16 + (1 : Int32))  ls (lv_sub hl [2, 3, 4, 5, 6, 7, 0] rfl) h
        · have h := o_f h q
          refine lv_aload hx hb dX2_shelvesInState_39 (lv_at hl 0 rfl) ?_
          obtain ⟨v41, e41, h⟩ := o_bind h
          refine ro_calli (ro_runV (As := []) (rest := []) ⟨hx, hb, hml, hown, hts⟩ hP hK (c_X1_state l D c5 a k hI (x6_16.toNatClampNeg) (inb_lt g27) v41 e41) gG_RX2_70 (va_recv hK hP (ci := 1) (q0 := (3 + (x6_16.toNatClampNeg))) rfl (KW_S c5 a k (inb_lt g27))) hd_X1_state ⟨Nat.le_of_ble_eq_true rfl, Nat.le_of_ble_eq_true rfl⟩ ⟨rfl, rfl⟩ hl.1 (Nat.le_of_ble_eq_true rfl) dX2_shelvesInState_41 ⟨Nat.zero_le _, Nat.zero_le _⟩ rfl) ?_
          refine lv_iload_n hx hb dX2_shelvesInState_44 rfl (lv_at hl 3 rfl) ?_
          refine lv_icmp_ne (tgt := 51) hx hb dX2_shelvesInState_45 (by decide) (fun q => ?_) (fun q => ?_)
          · have h := o_t' h q
            refine lv_iinc (v := (x6_16 + (1 : Int32))) (lv' := [(6, .int (x6_16 + (1 : Int32))), (7, .ref (aS a (x6_16.toNatClampNeg))), (0, .ref (aO a 0)), (1, .ref (aK a j1)), (2, .int p2), (3, .int x3_16), (4, .ref (aO a 1)), (5, .int (12 : Int32))]) hx hb dX2_shelvesInState_51 hl (k := 7) rfl rfl (by decide) rfl (fun ls hl => ?_)
            refine lv_goto (tgt := 16) hx hb dX2_shelvesInState_54 (by decide) ?_
            exact ih x3_16 (x6_16 + (1 : Int32))  ls (lv_sub hl [2, 3, 4, 5, 6, 7, 0] rfl) h
          · have h := o_f' h q
            refine lv_iinc (v := (x3_16 + (1 : Int32))) (lv' := [(3, .int (x3_16 + (1 : Int32))), (7, .ref (aS a (x6_16.toNatClampNeg))), (0, .ref (aO a 0)), (1, .ref (aK a j1)), (2, .int p2), (4, .ref (aO a 1)), (5, .int (12 : Int32)), (6, .int x6_16)]) hx hb dX2_shelvesInState_48 hl (k := 4) rfl rfl (by decide) rfl (fun ls hl => ?_)
            refine lv_iinc (v := (x6_16 + (1 : Int32))) (lv' := [(6, .int (x6_16 + (1 : Int32))), (3, .int (x3_16 + (1 : Int32))), (7, .ref (aS a (x6_16.toNatClampNeg))), (0, .ref (aO a 0)), (1, .ref (aK a j1)), (2, .int p2), (4, .ref (aO a 1)), (5, .int (12 : Int32))]) hx hb dX2_shelvesInState_51 hl (k := 7) rfl rfl (by decide) rfl (fun ls hl => ?_)
            refine lv_goto (tgt := 16) hx hb dX2_shelvesInState_54 (by decide) ?_
            exact ih (x3_16 + (1 : Int32)) (x6_16 + (1 : Int32))  ls (lv_sub hl [3, 4, 5, 1, 6, 7, 0] rfl) h
  exact L16 FU (0 : Int32) (0 : Int32)  ls (lv_sub hl [4, 5, 6, 3, 2, 1, 0] rfl) h
set_option maxHeartbeats 4000000 in
set_option maxRecDepth 100000 in
theorem c_X2_bowlsOf (l : Launch) (D : va_G) (c5 : Nat → ClassId) (a : KAd) (k : KSt) (hI : KI a) (j1 : Nat) (hj1 : j1 < kN k) (r : Int32) (h : R_X2_bowlsOf k j1 = some r) : Met l yX2_bowlsOf (ws_ yX2_bowlsOf cX2_bowlsOf 7 (some .int)) { frames := 1, cells := 0, slots := 0, locals := 21 } (va_Pc [.ref (aO a 0), .ref (aK a j1)] (roB D (tyG c5) (KW c5 a k))) (vp_Si (fun x => x = r)) 0 0 (fun _ => False) := by
  refine Met.ofW (cc := cX2_bowlsOf) (maxL := 7) (ret := (some .int)) (by decide) rfl ?_
  intro p e s m args below meth c s₁ B hml hv
  obtain ⟨rfl, hP, hK⟩ := hv
  have hx := B.exec
  have hb := B.bytes
  have hr := B.returns
  have hts : ∀ w ∈ LA, w.before _ s = true := fun w hw => atoms_spec (ws := ws_ yX2_bowlsOf cX2_bowlsOf 7 (some .int)) B.pre w (List.mem_cons_of_mem _ hw)
  have hown : s.vm.findClass RX2 = some m.cls := findClass_of_methodNamed B.named
  have hlocks := B.notSynchronized
  have hl := lv_entry ([.ref (aO a 0), .ref (aK a j1)] : List Value) (n := 7) (Nat.le_of_ble_eq_true rfl)
  rw [lg_entry_eq]
  generalize (lg_sl ([.ref (aO a 0), .ref (aK a j1)] : List Value) ++ List.replicate (7 - (lg_sl ([.ref (aO a 0), .ref (aK a j1)] : List Value)).length) Slot.unset).toArray = ls at hl ⊢
  have hl : lv_has ls 7 [(0, .ref (aO a 0)), (1, .ref (aK a j1))] := hl
  unfold R_X2_bowlsOf at h
  refine lv_iconst (v := (0 : Int32)) hx hb dX2_bowlsOf_0 (by decide) ?_
  refine lv_istore_n (i := 2) (lv' := [(2, .int (0 : Int32)), (0, .ref (aO a 0)), (1, .ref (aK a j1))]) hx hb dX2_bowlsOf_1 rfl hl (by decide) rfl (fun ls hl => ?_)
  refine lv_aload_n hx hb dX2_bowlsOf_2 rfl (lv_at hl 1 rfl) ?_
  refine va_get (D := D) (ci := 2) (v := .ref (aO a 1)) (C := RX2) (T := TX2) (N := 7) hx hb hts iX2 hown hK hP 0 (KW_0 c5 a k) rfl 0 (by decide) (hts _ wT1_60) (fun _ h9 => h9) rfl dX2_bowlsOf_3 ?_
  refine lv_astore_n (i := 3) (lv' := [(3, .ref (aO a 1)), (2, .int (0 : Int32)), (0, .ref (aO a 0)), (1, .ref (aK a j1))]) hx hb dX2_bowlsOf_6 rfl hl (by decide) rfl (fun ls hl => ?_)
  refine lv_aload_n hx hb dX2_bowlsOf_7 rfl (lv_at hl 0 rfl) ?_
  refine va_alen (v := (12 : Int32)) hx hb hK hP 1 0 (KW_1 c5 a k) rfl rfl dX2_bowlsOf_8 ?_
  refine lv_istore (i := 4) (lv' := [(4, .int (12 : Int32)), (3, .ref (aO a 1)), (2, .int (0 : Int32)), (0, .ref (aO a 0)), (1, .ref (aK a j1))]) hx hb dX2_bowlsOf_9 hl (by decide) rfl (fun ls hl => ?_)
  refine lv_iconst (v := (0 : Int32)) hx hb dX2_bowlsOf_11 (by decide) ?_
  refine lv_istore (i := 5) (lv' := [(5, .int (0 : Int32)), (4, .int (12 : Int32)), (3, .ref (aO a 1)), (2, .int (0 : Int32)), (0, .ref (aO a 0)), (1, .ref (aK a j1))]) hx hb dX2_bowlsOf_12 hl (by decide) rfl (fun ls hl => ?_)
  have L14 : ∀ (n : Nat) (x2_14 : Int32) (x5_14 : Int32) (ls : Array Slot), lv_has ls 7 [(0, .ref (aO a 0)), (1, .ref (aK a j1)), (2, .int x2_14), (3, .ref (aO a 1)), (4, .int (12 : Int32)), (5, .int x5_14)] → R_X2_bowlsOf_L14 k j1 n x2_14 x5_14 = some r → W p l e (headSpec (ws_ yX2_bowlsOf cX2_bowlsOf 7 (some .int)) { frames := 1, cells := 0, slots := 0, locals := 21 }).room s m ([.ref (aO a 0), .ref (aK a j1)] : List Value).toArray below meth c s.heap [] 0 0 (MQ below (vp_Si (fun x => x = r)) ([.ref (aO a 0), .ref (aK a j1)] : List Value).toArray s 0 0 (fun _ => False)) (F0 m 14 ls []) := by
    intro n
    induction n with
    | zero =>
      intro x2_14 x5_14 ls hl h
      exact absurd h (by simp [R_X2_bowlsOf_L14])
    | succ n ih =>
      intro x2_14 x5_14 ls hl h
      rw [R_X2_bowlsOf_L14] at h
      refine lv_iload hx hb dX2_bowlsOf_14 (lv_at hl 5 rfl) ?_
      refine lv_iload hx hb dX2_bowlsOf_16 (lv_at hl 4 rfl) ?_
      refine lv_icmp_ge (tgt := 50) hx hb dX2_bowlsOf_18 (by decide) (fun q => ?_) (fun q => ?_)
      · have h := o_t h q
        refine lv_iload_n hx hb dX2_bowlsOf_50 rfl (lv_at hl 2 rfl) ?_
        exact ro_iret hx hb hr hlocks dX2_bowlsOf_51 (Option.some.inj h)
      · have h := o_f h q
        refine lv_aload_n hx hb dX2_bowlsOf_21 rfl (lv_at hl 3 rfl) ?_
        refine lv_iload hx hb dX2_bowlsOf_22 (lv_at hl 5 rfl) ?_
        obtain ⟨g24, h⟩ := o_if h
        refine va_aldS hx hb hK hP g24 dX2_bowlsOf_24 ?_
        refine lv_astore (i := 6) (lv' := [(6, .ref (aS a (x5_14.toNatClampNeg))), (0, .ref (aO a 0)), (1, .ref (aK a j1)), (2, .int x2_14), (3, .ref (aO a 1)), (4, .int (12 : Int32)), (5, .int x5_14)]) hx hb dX2_bowlsOf_25 hl (by decide) rfl (fun ls hl => ?_)
        refine lv_aload hx hb dX2_bowlsOf_27 (lv_at hl 0 rfl) ?_
        refine lv_aload_n hx hb dX2_bowlsOf_29 rfl (lv_at hl 2 rfl) ?_
        obtain ⟨v30, e30, h⟩ := o_bind h
        refine ro_calli (ro_runV (As := [.ref (aK a j1)]) (rest := []) ⟨hx, hb, hml, hown, hts⟩ hP hK (c_X1_isOf l D c5 a k hI (x5_14.toNatClampNeg) (inb_lt g24) j1 hj1 v30 e30) gG_RX2_235 (va_recv hK hP (ci := 1) (q0 := (3 + (x5_14.toNatClampNeg))) rfl (KW_S c5 a k (inb_lt g24))) hd_X1_isOf ⟨Nat.le_of_ble_eq_true rfl, Nat.le_of_ble_eq_true rfl⟩ ⟨rfl, rfl⟩ hl.1 (Nat.le_of_ble_eq_true rfl) dX2_bowlsOf_30 ⟨Nat.zero_le _, Nat.zero_le _⟩ rfl) ?_
        refine lv_if_eq (tgt := 44) hx hb dX2_bowlsOf_33 (by decide) (fun q => ?_) (fun q => ?_)
        · have h := o_t h q
          refine lv_iinc (v := (x5_14 + (1 : Int32))) (lv' := [(5, .int (x5_14 + (1 : Int32))), (6, .ref (aS a (x5_14.toNatClampNeg))), (0, .ref (aO a 0)), (1, .ref (aK a j1)), (2, .int x2_14), (3, .ref (aO a 1)), (4, .int (12 : Int32))]) hx hb dX2_bowlsOf_44 hl (k := 6) rfl rfl (by decide) rfl (fun ls hl => ?_)
          refine lv_goto (tgt := 14) hx hb dX2_bowlsOf_47 (by decide) ?_
          exact ih x2_14 (x5_14 + (1 : Int32))  ls (lv_sub hl [2, 3, 4, 5, 6, 0] rfl) h
        · have h := o_f h q
          refine lv_iload_n hx hb dX2_bowlsOf_36 rfl (lv_at hl 3 rfl) ?_
          refine lv_aload hx hb dX2_bowlsOf_37 (lv_at hl 0 rfl) ?_
          refine va_get (D := D) (ci := 1) (v := .int (kS k 6 (x5_14.toNatClampNeg))) (C := RX1) (T := TX1) (N := 8) hx hb hts iX1 hown hK hP (3 + (x5_14.toNatClampNeg)) (KW_S c5 a k (inb_lt g24)) rfl 6 (by decide) (hts _ wT1_39) (fun _ h9 => h9) rfl dX2_bowlsOf_39 ?_
          refine lv_iadd hx hb dX2_bowlsOf_42 ?_
          refine lv_istore_n (i := 2) (lv' := [(2, .int (x2_14 + (kS k 6 (x5_14.toNatClampNeg)))), (6, .ref (aS a (x5_14.toNatClampNeg))), (0, .ref (aO a 0)), (1, .ref (aK a j1)), (3, .ref (aO a 1)), (4, .int (12 : Int32)), (5, .int x5_14)]) hx hb dX2_bowlsOf_43 rfl hl (by decide) rfl (fun ls hl => ?_)
          refine lv_iinc (v := (x5_14 + (1 : Int32))) (lv' := [(5, .int (x5_14 + (1 : Int32))), (2, .int (x2_14 + (kS k 6 (x5_14.toNatClampNeg)))), (6, .ref (aS a (x5_14.toNatClampNeg))), (0, .ref (aO a 0)), (1, .ref (aK a j1)), (3, .ref (aO a 1)), (4, .int (12 : Int32))]) hx hb dX2_bowlsOf_44 hl (k := 6) rfl rfl (by decide) rfl (fun ls hl => ?_)
          refine lv_goto (tgt := 14) hx hb dX2_bowlsOf_47 (by decide) ?_
          exact ih (x2_14 + (kS k 6 (x5_14.toNatClampNeg))) (x5_14 + (1 : Int32))  ls (lv_sub hl [3, 4, 1, 5, 6, 0] rfl) h
  exact L14 FU (0 : Int32) (0 : Int32)  ls (lv_sub hl [4, 5, 3, 2, 1, 0] rfl) h
set_option maxHeartbeats 4000000 in
set_option maxRecDepth 100000 in
theorem c_X2_answerAbout (l : Launch) (D : va_G) (c5 : Nat → ClassId) (a : KAd) (k : KSt) (hI : KI a) (j1 : Nat) (hj1 : j1 < kN k) (p2 : Int32) (r : Int32) (h : R_X2_answerAbout k j1 p2 = some r) : Met l yX2_answerAbout (ws_ yX2_answerAbout cX2_answerAbout 3 (some .int)) { frames := 2, cells := 0, slots := 0, locals := 48 } (va_Pc [.ref (aO a 0), .ref (aK a j1), .int p2] (roB D (tyG c5) (KW c5 a k))) (vp_Si (fun x => x = r)) 0 0 (fun _ => False) := by
  refine Met.ofW (cc := cX2_answerAbout) (maxL := 3) (ret := (some .int)) (by decide) rfl ?_
  intro p e s m args below meth c s₁ B hml hv
  obtain ⟨rfl, hP, hK⟩ := hv
  have hx := B.exec
  have hb := B.bytes
  have hr := B.returns
  have hts : ∀ w ∈ LA, w.before _ s = true := fun w hw => atoms_spec (ws := ws_ yX2_answerAbout cX2_answerAbout 3 (some .int)) B.pre w (List.mem_cons_of_mem _ hw)
  have hown : s.vm.findClass RX2 = some m.cls := findClass_of_methodNamed B.named
  have hlocks := B.notSynchronized
  have hl := lv_entry ([.ref (aO a 0), .ref (aK a j1), .int p2] : List Value) (n := 3) (Nat.le_of_ble_eq_true rfl)
  rw [lg_entry_eq]
  generalize (lg_sl ([.ref (aO a 0), .ref (aK a j1), .int p2] : List Value) ++ List.replicate (3 - (lg_sl ([.ref (aO a 0), .ref (aK a j1), .int p2] : List Value)).length) Slot.unset).toArray = ls at hl ⊢
  have hl : lv_has ls 3 [(0, .ref (aO a 0)), (1, .ref (aK a j1)), (2, .int p2)] := hl
  unfold R_X2_answerAbout at h
  refine lv_iload_n hx hb dX2_answerAbout_0 rfl (lv_at hl 2 rfl) ?_
  rcases Decidable.em (p2 = 0) with c1_0 | c1_0
  · have h := o_t h c1_0
    refine lv_tableIn (off := 47) (tgt := 48) hx hb dX2_answerAbout_1 (by rw [c1_0]; decide) (by rw [c1_0]; decide) (by rw [c1_0]; rfl) (by decide) ?_
    refine lv_aload_n hx hb dX2_answerAbout_48 rfl (lv_at hl 1 rfl) ?_
    refine va_get (D := D) (ci := 0) (v := .int (kK k 1 j1)) (C := RX0) (T := TX0) (N := 6) hx hb hts iX0 hown hK hP (27 + j1) (KW_K c5 a k hj1) rfl 1 (by decide) (hts _ wT3_55) (fun _ h9 => h9) rfl dX2_answerAbout_49 ?_
    exact ro_iret hx hb hr hlocks dX2_answerAbout_52 (Option.some.inj h)
  · have h := o_f h c1_0
    rcases Decidable.em (p2 = 1) with c1_1 | c1_1
    · have h := o_t h c1_1
      refine lv_tableIn (off := 52) (tgt := 53) hx hb dX2_answerAbout_1 (by rw [c1_1]; decide) (by rw [c1_1]; decide) (by rw [c1_1]; rfl) (by decide) ?_
      refine lv_aload_n hx hb dX2_answerAbout_53 rfl (lv_at hl 1 rfl) ?_
      refine va_get (D := D) (ci := 0) (v := .int (kK k 2 j1)) (C := RX0) (T := TX0) (N := 6) hx hb hts iX0 hown hK hP (27 + j1) (KW_K c5 a k hj1) rfl 2 (by decide) (hts _ wT3_58) (fun _ h9 => h9) rfl dX2_answerAbout_54 ?_
      exact ro_iret hx hb hr hlocks dX2_answerAbout_57 (Option.some.inj h)
    · have h := o_f h c1_1
      rcases Decidable.em (p2 = 2) with c1_2 | c1_2
      · have h := o_t h c1_2
        refine lv_tableIn (off := 57) (tgt := 58) hx hb dX2_answerAbout_1 (by rw [c1_2]; decide) (by rw [c1_2]; decide) (by rw [c1_2]; rfl) (by decide) ?_
        refine lv_aload_n hx hb dX2_answerAbout_58 rfl (lv_at hl 1 rfl) ?_
        refine va_get (D := D) (ci := 0) (v := .int (kK k 3 j1)) (C := RX0) (T := TX0) (N := 6) hx hb hts iX0 hown hK hP (27 + j1) (KW_K c5 a k hj1) rfl 3 (by decide) (hts _ wT3_60) (fun _ h9 => h9) rfl dX2_answerAbout_59 ?_
        exact ro_iret hx hb hr hlocks dX2_answerAbout_62 (Option.some.inj h)
      · have h := o_f h c1_2
        rcases Decidable.em (p2 = 3) with c1_3 | c1_3
        · have h := o_t h c1_3
          refine lv_tableIn (off := 62) (tgt := 63) hx hb dX2_answerAbout_1 (by rw [c1_3]; decide) (by rw [c1_3]; decide) (by rw [c1_3]; rfl) (by decide) ?_
          refine lv_aload_n hx hb dX2_answerAbout_63 rfl (lv_at hl 0 rfl) ?_
          refine lv_aload_n hx hb dX2_answerAbout_64 rfl (lv_at hl 1 rfl) ?_
          obtain ⟨v65, e65, h⟩ := o_bind h
          refine ro_calli (ro_runV (As := [.ref (aK a j1)]) (rest := []) ⟨hx, hb, hml, hown, hts⟩ hP hK (c_X2_shelvesOf l D c5 a k hI j1 hj1 v65 e65) gG_RX2_199 (va_recv hK hP (ci := 2) (q0 := 0) rfl (KW_0 c5 a k)) hd_X2_shelvesOf ⟨Nat.le_of_ble_eq_true rfl, Nat.le_of_ble_eq_true rfl⟩ ⟨rfl, rfl⟩ hl.1 (Nat.le_of_ble_eq_true rfl) dX2_answerAbout_65 ⟨Nat.zero_le _, Nat.zero_le _⟩ rfl) ?_
          exact ro_iret hx hb hr hlocks dX2_answerAbout_68 (Option.some.inj h)
        · have h := o_f h c1_3
          rcases Decidable.em (p2 = 4) with c1_4 | c1_4
          · have h := o_t h c1_4
            refine lv_tableIn (off := 68) (tgt := 69) hx hb dX2_answerAbout_1 (by rw [c1_4]; decide) (by rw [c1_4]; decide) (by rw [c1_4]; rfl) (by decide) ?_
            refine lv_aload_n hx hb dX2_answerAbout_69 rfl (lv_at hl 0 rfl) ?_
            refine lv_aload_n hx hb dX2_answerAbout_70 rfl (lv_at hl 1 rfl) ?_
            refine lv_iconst (v := (3 : Int32)) hx hb dX2_answerAbout_71 (by decide) ?_
            obtain ⟨v72, e72, h⟩ := o_bind h
            refine ro_calli (ro_runV (As := [.ref (aK a j1), .int (3 : Int32)]) (rest := []) ⟨hx, hb, hml, hown, hts⟩ hP hK (c_X2_shelvesInState l D c5 a k hI j1 hj1 (3 : Int32) v72 e72) gG_RX2_202 (va_recv hK hP (ci := 2) (q0 := 0) rfl (KW_0 c5 a k)) hd_X2_shelvesInState ⟨Nat.le_of_ble_eq_true rfl, Nat.le_of_ble_eq_true rfl⟩ ⟨rfl, rfl⟩ hl.1 (Nat.le_of_ble_eq_true rfl) dX2_answerAbout_72 ⟨Nat.zero_le _, Nat.zero_le _⟩ rfl) ?_
            exact ro_iret hx hb hr hlocks dX2_answerAbout_75 (Option.some.inj h)
          · have h := o_f h c1_4
            rcases Decidable.em (p2 = 5) with c1_5 | c1_5
            · have h := o_t h c1_5
              refine lv_tableIn (off := 75) (tgt := 76) hx hb dX2_answerAbout_1 (by rw [c1_5]; decide) (by rw [c1_5]; decide) (by rw [c1_5]; rfl) (by decide) ?_
              refine lv_aload_n hx hb dX2_answerAbout_76 rfl (lv_at hl 0 rfl) ?_
              refine lv_aload_n hx hb dX2_answerAbout_77 rfl (lv_at hl 1 rfl) ?_
              refine lv_iconst (v := (2 : Int32)) hx hb dX2_answerAbout_78 (by decide) ?_
              obtain ⟨v79, e79, h⟩ := o_bind h
              refine ro_calli (ro_runV (As := [.ref (aK a j1), .int (2 : Int32)]) (rest := []) ⟨hx, hb, hml, hown, hts⟩ hP hK (c_X2_shelvesInState l D c5 a k hI j1 hj1 (2 : Int32) v79 e79) gG_RX2_202 (va_recv hK hP (ci := 2) (q0 := 0) rfl (KW_0 c5 a k)) hd_X2_shelvesInState ⟨Nat.le_of_ble_eq_true rfl, Nat.le_of_ble_eq_true rfl⟩ ⟨rfl, rfl⟩ hl.1 (Nat.le_of_ble_eq_true rfl) dX2_answerAbout_79 ⟨Nat.zero_le _, Nat.zero_le _⟩ rfl) ?_
              exact ro_iret hx hb hr hlocks dX2_answerAbout_82 (Option.some.inj h)
            · have h := o_f h c1_5
              rcases Decidable.em (p2 = 6) with c1_6 | c1_6
              · have h := o_t h c1_6
                refine lv_tableIn (off := 82) (tgt := 83) hx hb dX2_answerAbout_1 (by rw [c1_6]; decide) (by rw [c1_6]; decide) (by rw [c1_6]; rfl) (by decide) ?_
                refine lv_aload_n hx hb dX2_answerAbout_83 rfl (lv_at hl 0 rfl) ?_
                refine lv_aload_n hx hb dX2_answerAbout_84 rfl (lv_at hl 1 rfl) ?_
                refine lv_iconst (v := (1 : Int32)) hx hb dX2_answerAbout_85 (by decide) ?_
                obtain ⟨v86, e86, h⟩ := o_bind h
                refine ro_calli (ro_runV (As := [.ref (aK a j1), .int (1 : Int32)]) (rest := []) ⟨hx, hb, hml, hown, hts⟩ hP hK (c_X2_shelvesInState l D c5 a k hI j1 hj1 (1 : Int32) v86 e86) gG_RX2_202 (va_recv hK hP (ci := 2) (q0 := 0) rfl (KW_0 c5 a k)) hd_X2_shelvesInState ⟨Nat.le_of_ble_eq_true rfl, Nat.le_of_ble_eq_true rfl⟩ ⟨rfl, rfl⟩ hl.1 (Nat.le_of_ble_eq_true rfl) dX2_answerAbout_86 ⟨Nat.zero_le _, Nat.zero_le _⟩ rfl) ?_
                exact ro_iret hx hb hr hlocks dX2_answerAbout_89 (Option.some.inj h)
              · have h := o_f h c1_6
                rcases Decidable.em (p2 = 7) with c1_7 | c1_7
                · have h := o_t h c1_7
                  refine lv_tableIn (off := 89) (tgt := 90) hx hb dX2_answerAbout_1 (by rw [c1_7]; decide) (by rw [c1_7]; decide) (by rw [c1_7]; rfl) (by decide) ?_
                  refine lv_aload_n hx hb dX2_answerAbout_90 rfl (lv_at hl 0 rfl) ?_
                  refine lv_aload_n hx hb dX2_answerAbout_91 rfl (lv_at hl 1 rfl) ?_
                  obtain ⟨v92, e92, h⟩ := o_bind h
                  refine ro_calli (ro_runV (As := [.ref (aK a j1)]) (rest := []) ⟨hx, hb, hml, hown, hts⟩ hP hK (c_X2_bowlsOf l D c5 a k hI j1 hj1 v92 e92) gG_RX2_205 (va_recv hK hP (ci := 2) (q0 := 0) rfl (KW_0 c5 a k)) hd_X2_bowlsOf ⟨Nat.le_of_ble_eq_true rfl, Nat.le_of_ble_eq_true rfl⟩ ⟨rfl, rfl⟩ hl.1 (Nat.le_of_ble_eq_true rfl) dX2_answerAbout_92 ⟨Nat.zero_le _, Nat.zero_le _⟩ rfl) ?_
                  exact ro_iret hx hb hr hlocks dX2_answerAbout_95 (Option.some.inj h)
                · have h := o_f h c1_7
                  have n1_0 := lv_neT (a := 0) c1_0 rfl
                  have n1_1 := lv_neT (a := 1) c1_1 rfl
                  have n1_2 := lv_neT (a := 2) c1_2 rfl
                  have n1_3 := lv_neT (a := 3) c1_3 rfl
                  have n1_4 := lv_neT (a := 4) c1_4 rfl
                  have n1_5 := lv_neT (a := 5) c1_5 rfl
                  have n1_6 := lv_neT (a := 6) c1_6 rfl
                  have n1_7 := lv_neT (a := 7) c1_7 rfl
                  refine lv_tableOut (tgt := 96) hx hb dX2_answerAbout_1 (by omega) (by decide) ?_
                  refine lv_aload_n hx hb dX2_answerAbout_96 rfl (lv_at hl 1 rfl) ?_
                  refine va_get (D := D) (ci := 0) (v := .int (kK k 4 j1)) (C := RX0) (T := TX0) (N := 6) hx hb hts iX0 hown hK hP (27 + j1) (KW_K c5 a k hj1) rfl 4 (by decide) (hts _ wT3_62) (fun _ h9 => h9) rfl dX2_answerAbout_97 ?_
                  exact ro_iret hx hb hr hlocks dX2_answerAbout_100 (Option.some.inj h)
set_option maxHeartbeats 4000000 in
set_option maxRecDepth 100000 in
theorem c_X2_freeShelves (l : Launch) (D : va_G) (c5 : Nat → ClassId) (a : KAd) (k : KSt) (hI : KI a) (r : Int32) (h : R_X2_freeShelves k = some r) : Met l yX2_freeShelves (ws_ yX2_freeShelves cX2_freeShelves 6 (some .int)) { frames := 1, cells := 0, slots := 0, locals := 20 } (va_Pc [.ref (aO a 0)] (roB D (tyG c5) (KW c5 a k))) (vp_Si (fun x => x = r)) 0 0 (fun _ => False) := by
  refine Met.ofW (cc := cX2_freeShelves) (maxL := 6) (ret := (some .int)) (by decide) rfl ?_
  intro p e s m args below meth c s₁ B hml hv
  obtain ⟨rfl, hP, hK⟩ := hv
  have hx := B.exec
  have hb := B.bytes
  have hr := B.returns
  have hts : ∀ w ∈ LA, w.before _ s = true := fun w hw => atoms_spec (ws := ws_ yX2_freeShelves cX2_freeShelves 6 (some .int)) B.pre w (List.mem_cons_of_mem _ hw)
  have hown : s.vm.findClass RX2 = some m.cls := findClass_of_methodNamed B.named
  have hlocks := B.notSynchronized
  have hl := lv_entry ([.ref (aO a 0)] : List Value) (n := 6) (Nat.le_of_ble_eq_true rfl)
  rw [lg_entry_eq]
  generalize (lg_sl ([.ref (aO a 0)] : List Value) ++ List.replicate (6 - (lg_sl ([.ref (aO a 0)] : List Value)).length) Slot.unset).toArray = ls at hl ⊢
  have hl : lv_has ls 6 [(0, .ref (aO a 0))] := hl
  unfold R_X2_freeShelves at h
  refine lv_iconst (v := (0 : Int32)) hx hb dX2_freeShelves_0 (by decide) ?_
  refine lv_istore_n (i := 1) (lv' := [(1, .int (0 : Int32)), (0, .ref (aO a 0))]) hx hb dX2_freeShelves_1 rfl hl (by decide) rfl (fun ls hl => ?_)
  refine lv_aload_n hx hb dX2_freeShelves_2 rfl (lv_at hl 1 rfl) ?_
  refine va_get (D := D) (ci := 2) (v := .ref (aO a 1)) (C := RX2) (T := TX2) (N := 7) hx hb hts iX2 hown hK hP 0 (KW_0 c5 a k) rfl 0 (by decide) (hts _ wT1_60) (fun _ h9 => h9) rfl dX2_freeShelves_3 ?_
  refine lv_astore_n (i := 2) (lv' := [(2, .ref (aO a 1)), (1, .int (0 : Int32)), (0, .ref (aO a 0))]) hx hb dX2_freeShelves_6 rfl hl (by decide) rfl (fun ls hl => ?_)
  refine lv_aload_n hx hb dX2_freeShelves_7 rfl (lv_at hl 0 rfl) ?_
  refine va_alen (v := (12 : Int32)) hx hb hK hP 1 0 (KW_1 c5 a k) rfl rfl dX2_freeShelves_8 ?_
  refine lv_istore_n (i := 3) (lv' := [(3, .int (12 : Int32)), (2, .ref (aO a 1)), (1, .int (0 : Int32)), (0, .ref (aO a 0))]) hx hb dX2_freeShelves_9 rfl hl (by decide) rfl (fun ls hl => ?_)
  refine lv_iconst (v := (0 : Int32)) hx hb dX2_freeShelves_10 (by decide) ?_
  refine lv_istore (i := 4) (lv' := [(4, .int (0 : Int32)), (3, .int (12 : Int32)), (2, .ref (aO a 1)), (1, .int (0 : Int32)), (0, .ref (aO a 0))]) hx hb dX2_freeShelves_11 hl (by decide) rfl (fun ls hl => ?_)
  have L13 : ∀ (n : Nat) (x1_13 : Int32) (x4_13 : Int32) (ls : Array Slot), lv_has ls 6 [(0, .ref (aO a 0)), (1, .int x1_13), (2, .ref (aO a 1)), (3, .int (12 : Int32)), (4, .int x4_13)] → R_X2_freeShelves_L13 k n x1_13 x4_13 = some r → W p l e (headSpec (ws_ yX2_freeShelves cX2_freeShelves 6 (some .int)) { frames := 1, cells := 0, slots := 0, locals := 20 }).room s m ([.ref (aO a 0)] : List Value).toArray below meth c s.heap [] 0 0 (MQ below (vp_Si (fun x => x = r)) ([.ref (aO a 0)] : List Value).toArray s 0 0 (fun _ => False)) (F0 m 13 ls []) := by
    intro n
    induction n with
    | zero =>
      intro x1_13 x4_13 ls hl h
      exact absurd h (by simp [R_X2_freeShelves_L13])
    | succ n ih =>
      intro x1_13 x4_13 ls hl h
      rw [R_X2_freeShelves_L13] at h
      refine lv_iload hx hb dX2_freeShelves_13 (lv_at hl 4 rfl) ?_
      refine lv_iload_n hx hb dX2_freeShelves_15 rfl (lv_at hl 3 rfl) ?_
      refine lv_icmp_ge (tgt := 42) hx hb dX2_freeShelves_16 (by decide) (fun q => ?_) (fun q => ?_)
      · have h := o_t h q
        refine lv_iload_n hx hb dX2_freeShelves_42 rfl (lv_at hl 1 rfl) ?_
        exact ro_iret hx hb hr hlocks dX2_freeShelves_43 (Option.some.inj h)
      · have h := o_f h q
        refine lv_aload_n hx hb dX2_freeShelves_19 rfl (lv_at hl 2 rfl) ?_
        refine lv_iload hx hb dX2_freeShelves_20 (lv_at hl 4 rfl) ?_
        obtain ⟨g22, h⟩ := o_if h
        refine va_aldS hx hb hK hP g22 dX2_freeShelves_22 ?_
        refine lv_astore (i := 5) (lv' := [(5, .ref (aS a (x4_13.toNatClampNeg))), (0, .ref (aO a 0)), (1, .int x1_13), (2, .ref (aO a 1)), (3, .int (12 : Int32)), (4, .int x4_13)]) hx hb dX2_freeShelves_23 hl (by decide) rfl (fun ls hl => ?_)
        refine lv_aload hx hb dX2_freeShelves_25 (lv_at hl 0 rfl) ?_
        obtain ⟨v27, e27, h⟩ := o_bind h
        refine ro_calli (ro_runV (As := []) (rest := []) ⟨hx, hb, hml, hown, hts⟩ hP hK (c_X1_state l D c5 a k hI (x4_13.toNatClampNeg) (inb_lt g22) v27 e27) gG_RX2_70 (va_recv hK hP (ci := 1) (q0 := (3 + (x4_13.toNatClampNeg))) rfl (KW_S c5 a k (inb_lt g22))) hd_X1_state ⟨Nat.le_of_ble_eq_true rfl, Nat.le_of_ble_eq_true rfl⟩ ⟨rfl, rfl⟩ hl.1 (Nat.le_of_ble_eq_true rfl) dX2_freeShelves_27 ⟨Nat.zero_le _, Nat.zero_le _⟩ rfl) ?_
        refine lv_if_ne (tgt := 36) hx hb dX2_freeShelves_30 (by decide) (fun q => ?_) (fun q => ?_)
        · have h := o_t' h q
          refine lv_iinc (v := (x4_13 + (1 : Int32))) (lv' := [(4, .int (x4_13 + (1 : Int32))), (5, .ref (aS a (x4_13.toNatClampNeg))), (0, .ref (aO a 0)), (1, .int x1_13), (2, .ref (aO a 1)), (3, .int (12 : Int32))]) hx hb dX2_freeShelves_36 hl (k := 5) rfl rfl (by decide) rfl (fun ls hl => ?_)
          refine lv_goto (tgt := 13) hx hb dX2_freeShelves_39 (by decide) ?_
          exact ih x1_13 (x4_13 + (1 : Int32))  ls (lv_sub hl [2, 3, 4, 5, 0] rfl) h
        · have h := o_f' h q
          refine lv_iinc (v := (x1_13 + (1 : Int32))) (lv' := [(1, .int (x1_13 + (1 : Int32))), (5, .ref (aS a (x4_13.toNatClampNeg))), (0, .ref (aO a 0)), (2, .ref (aO a 1)), (3, .int (12 : Int32)), (4, .int x4_13)]) hx hb dX2_freeShelves_33 hl (k := 2) rfl rfl (by decide) rfl (fun ls hl => ?_)
          refine lv_iinc (v := (x4_13 + (1 : Int32))) (lv' := [(4, .int (x4_13 + (1 : Int32))), (1, .int (x1_13 + (1 : Int32))), (5, .ref (aS a (x4_13.toNatClampNeg))), (0, .ref (aO a 0)), (2, .ref (aO a 1)), (3, .int (12 : Int32))]) hx hb dX2_freeShelves_36 hl (k := 5) rfl rfl (by decide) rfl (fun ls hl => ?_)
          refine lv_goto (tgt := 13) hx hb dX2_freeShelves_39 (by decide) ?_
          exact ih (x1_13 + (1 : Int32)) (x4_13 + (1 : Int32))  ls (lv_sub hl [3, 1, 4, 5, 0] rfl) h
  exact L13 FU (0 : Int32) (0 : Int32)  ls (lv_sub hl [4, 3, 2, 1, 0] rfl) h
set_option maxHeartbeats 4000000 in
set_option maxRecDepth 100000 in
theorem c_X2_bowlsInAll (l : Launch) (D : va_G) (c5 : Nat → ClassId) (a : KAd) (k : KSt) (hI : KI a) (r : Int32) (h : R_X2_bowlsInAll k = some r) : Met l yX2_bowlsInAll (ws_ yX2_bowlsInAll cX2_bowlsInAll 6 (some .int)) { frames := 0, cells := 0, slots := 0, locals := 0 } (va_Pc [.ref (aO a 0)] (roB D (tyG c5) (KW c5 a k))) (vp_Si (fun x => x = r)) 0 0 (fun _ => False) := by
  refine Met.ofW (cc := cX2_bowlsInAll) (maxL := 6) (ret := (some .int)) (by decide) rfl ?_
  intro p e s m args below meth c s₁ B hml hv
  obtain ⟨rfl, hP, hK⟩ := hv
  have hx := B.exec
  have hb := B.bytes
  have hr := B.returns
  have hts : ∀ w ∈ LA, w.before _ s = true := fun w hw => atoms_spec (ws := ws_ yX2_bowlsInAll cX2_bowlsInAll 6 (some .int)) B.pre w (List.mem_cons_of_mem _ hw)
  have hown : s.vm.findClass RX2 = some m.cls := findClass_of_methodNamed B.named
  have hlocks := B.notSynchronized
  have hl := lv_entry ([.ref (aO a 0)] : List Value) (n := 6) (Nat.le_of_ble_eq_true rfl)
  rw [lg_entry_eq]
  generalize (lg_sl ([.ref (aO a 0)] : List Value) ++ List.replicate (6 - (lg_sl ([.ref (aO a 0)] : List Value)).length) Slot.unset).toArray = ls at hl ⊢
  have hl : lv_has ls 6 [(0, .ref (aO a 0))] := hl
  unfold R_X2_bowlsInAll at h
  refine lv_iconst (v := (0 : Int32)) hx hb dX2_bowlsInAll_0 (by decide) ?_
  refine lv_istore_n (i := 1) (lv' := [(1, .int (0 : Int32)), (0, .ref (aO a 0))]) hx hb dX2_bowlsInAll_1 rfl hl (by decide) rfl (fun ls hl => ?_)
  refine lv_aload_n hx hb dX2_bowlsInAll_2 rfl (lv_at hl 1 rfl) ?_
  refine va_get (D := D) (ci := 2) (v := .ref (aO a 1)) (C := RX2) (T := TX2) (N := 7) hx hb hts iX2 hown hK hP 0 (KW_0 c5 a k) rfl 0 (by decide) (hts _ wT1_60) (fun _ h9 => h9) rfl dX2_bowlsInAll_3 ?_
  refine lv_astore_n (i := 2) (lv' := [(2, .ref (aO a 1)), (1, .int (0 : Int32)), (0, .ref (aO a 0))]) hx hb dX2_bowlsInAll_6 rfl hl (by decide) rfl (fun ls hl => ?_)
  refine lv_aload_n hx hb dX2_bowlsInAll_7 rfl (lv_at hl 0 rfl) ?_
  refine va_alen (v := (12 : Int32)) hx hb hK hP 1 0 (KW_1 c5 a k) rfl rfl dX2_bowlsInAll_8 ?_
  refine lv_istore_n (i := 3) (lv' := [(3, .int (12 : Int32)), (2, .ref (aO a 1)), (1, .int (0 : Int32)), (0, .ref (aO a 0))]) hx hb dX2_bowlsInAll_9 rfl hl (by decide) rfl (fun ls hl => ?_)
  refine lv_iconst (v := (0 : Int32)) hx hb dX2_bowlsInAll_10 (by decide) ?_
  refine lv_istore (i := 4) (lv' := [(4, .int (0 : Int32)), (3, .int (12 : Int32)), (2, .ref (aO a 1)), (1, .int (0 : Int32)), (0, .ref (aO a 0))]) hx hb dX2_bowlsInAll_11 hl (by decide) rfl (fun ls hl => ?_)
  have L13 : ∀ (n : Nat) (x1_13 : Int32) (x4_13 : Int32) (ls : Array Slot), lv_has ls 6 [(0, .ref (aO a 0)), (1, .int x1_13), (2, .ref (aO a 1)), (3, .int (12 : Int32)), (4, .int x4_13)] → R_X2_bowlsInAll_L13 k n x1_13 x4_13 = some r → W p l e (headSpec (ws_ yX2_bowlsInAll cX2_bowlsInAll 6 (some .int)) { frames := 0, cells := 0, slots := 0, locals := 0 }).room s m ([.ref (aO a 0)] : List Value).toArray below meth c s.heap [] 0 0 (MQ below (vp_Si (fun x => x = r)) ([.ref (aO a 0)] : List Value).toArray s 0 0 (fun _ => False)) (F0 m 13 ls []) := by
    intro n
    induction n with
    | zero =>
      intro x1_13 x4_13 ls hl h
      exact absurd h (by simp [R_X2_bowlsInAll_L13])
    | succ n ih =>
      intro x1_13 x4_13 ls hl h
      rw [R_X2_bowlsInAll_L13] at h
      refine lv_iload hx hb dX2_bowlsInAll_13 (lv_at hl 4 rfl) ?_
      refine lv_iload_n hx hb dX2_bowlsInAll_15 rfl (lv_at hl 3 rfl) ?_
      refine lv_icmp_ge (tgt := 39) hx hb dX2_bowlsInAll_16 (by decide) (fun q => ?_) (fun q => ?_)
      · have h := o_t h q
        refine lv_iload_n hx hb dX2_bowlsInAll_39 rfl (lv_at hl 1 rfl) ?_
        exact ro_iret hx hb hr hlocks dX2_bowlsInAll_40 (Option.some.inj h)
      · have h := o_f h q
        refine lv_aload_n hx hb dX2_bowlsInAll_19 rfl (lv_at hl 2 rfl) ?_
        refine lv_iload hx hb dX2_bowlsInAll_20 (lv_at hl 4 rfl) ?_
        obtain ⟨g22, h⟩ := o_if h
        refine va_aldS hx hb hK hP g22 dX2_bowlsInAll_22 ?_
        refine lv_astore (i := 5) (lv' := [(5, .ref (aS a (x4_13.toNatClampNeg))), (0, .ref (aO a 0)), (1, .int x1_13), (2, .ref (aO a 1)), (3, .int (12 : Int32)), (4, .int x4_13)]) hx hb dX2_bowlsInAll_23 hl (by decide) rfl (fun ls hl => ?_)
        refine lv_iload_n hx hb dX2_bowlsInAll_25 rfl (lv_at hl 2 rfl) ?_
        refine lv_aload hx hb dX2_bowlsInAll_26 (lv_at hl 0 rfl) ?_
        refine va_get (D := D) (ci := 1) (v := .int (kS k 6 (x4_13.toNatClampNeg))) (C := RX1) (T := TX1) (N := 8) hx hb hts iX1 hown hK hP (3 + (x4_13.toNatClampNeg)) (KW_S c5 a k (inb_lt g22)) rfl 6 (by decide) (hts _ wT1_39) (fun _ h9 => h9) rfl dX2_bowlsInAll_28 ?_
        refine lv_iadd hx hb dX2_bowlsInAll_31 ?_
        refine lv_istore_n (i := 1) (lv' := [(1, .int (x1_13 + (kS k 6 (x4_13.toNatClampNeg)))), (5, .ref (aS a (x4_13.toNatClampNeg))), (0, .ref (aO a 0)), (2, .ref (aO a 1)), (3, .int (12 : Int32)), (4, .int x4_13)]) hx hb dX2_bowlsInAll_32 rfl hl (by decide) rfl (fun ls hl => ?_)
        refine lv_iinc (v := (x4_13 + (1 : Int32))) (lv' := [(4, .int (x4_13 + (1 : Int32))), (1, .int (x1_13 + (kS k 6 (x4_13.toNatClampNeg)))), (5, .ref (aS a (x4_13.toNatClampNeg))), (0, .ref (aO a 0)), (2, .ref (aO a 1)), (3, .int (12 : Int32))]) hx hb dX2_bowlsInAll_33 hl (k := 5) rfl rfl (by decide) rfl (fun ls hl => ?_)
        refine lv_goto (tgt := 13) hx hb dX2_bowlsInAll_36 (by decide) ?_
        exact ih (x1_13 + (kS k 6 (x4_13.toNatClampNeg))) (x4_13 + (1 : Int32))  ls (lv_sub hl [3, 1, 4, 5, 0] rfl) h
  exact L13 FU (0 : Int32) (0 : Int32)  ls (lv_sub hl [4, 3, 2, 1, 0] rfl) h
set_option maxHeartbeats 4000000 in
set_option maxRecDepth 100000 in
theorem c_X2_spansUnderBowls (l : Launch) (D : va_G) (c5 : Nat → ClassId) (a : KAd) (k : KSt) (hI : KI a) (r : Int32) (h : R_X2_spansUnderBowls k = some r) : Met l yX2_spansUnderBowls (ws_ yX2_spansUnderBowls cX2_spansUnderBowls 6 (some .int)) { frames := 0, cells := 0, slots := 0, locals := 0 } (va_Pc [.ref (aO a 0)] (roB D (tyG c5) (KW c5 a k))) (vp_Si (fun x => x = r)) 0 0 (fun _ => False) := by
  refine Met.ofW (cc := cX2_spansUnderBowls) (maxL := 6) (ret := (some .int)) (by decide) rfl ?_
  intro p e s m args below meth c s₁ B hml hv
  obtain ⟨rfl, hP, hK⟩ := hv
  have hx := B.exec
  have hb := B.bytes
  have hr := B.returns
  have hts : ∀ w ∈ LA, w.before _ s = true := fun w hw => atoms_spec (ws := ws_ yX2_spansUnderBowls cX2_spansUnderBowls 6 (some .int)) B.pre w (List.mem_cons_of_mem _ hw)
  have hown : s.vm.findClass RX2 = some m.cls := findClass_of_methodNamed B.named
  have hlocks := B.notSynchronized
  have hl := lv_entry ([.ref (aO a 0)] : List Value) (n := 6) (Nat.le_of_ble_eq_true rfl)
  rw [lg_entry_eq]
  generalize (lg_sl ([.ref (aO a 0)] : List Value) ++ List.replicate (6 - (lg_sl ([.ref (aO a 0)] : List Value)).length) Slot.unset).toArray = ls at hl ⊢
  have hl : lv_has ls 6 [(0, .ref (aO a 0))] := hl
  unfold R_X2_spansUnderBowls at h
  refine lv_iconst (v := (0 : Int32)) hx hb dX2_spansUnderBowls_0 (by decide) ?_
  refine lv_istore_n (i := 1) (lv' := [(1, .int (0 : Int32)), (0, .ref (aO a 0))]) hx hb dX2_spansUnderBowls_1 rfl hl (by decide) rfl (fun ls hl => ?_)
  refine lv_aload_n hx hb dX2_spansUnderBowls_2 rfl (lv_at hl 1 rfl) ?_
  refine va_get (D := D) (ci := 2) (v := .ref (aO a 1)) (C := RX2) (T := TX2) (N := 7) hx hb hts iX2 hown hK hP 0 (KW_0 c5 a k) rfl 0 (by decide) (hts _ wT1_60) (fun _ h9 => h9) rfl dX2_spansUnderBowls_3 ?_
  refine lv_astore_n (i := 2) (lv' := [(2, .ref (aO a 1)), (1, .int (0 : Int32)), (0, .ref (aO a 0))]) hx hb dX2_spansUnderBowls_6 rfl hl (by decide) rfl (fun ls hl => ?_)
  refine lv_aload_n hx hb dX2_spansUnderBowls_7 rfl (lv_at hl 0 rfl) ?_
  refine va_alen (v := (12 : Int32)) hx hb hK hP 1 0 (KW_1 c5 a k) rfl rfl dX2_spansUnderBowls_8 ?_
  refine lv_istore_n (i := 3) (lv' := [(3, .int (12 : Int32)), (2, .ref (aO a 1)), (1, .int (0 : Int32)), (0, .ref (aO a 0))]) hx hb dX2_spansUnderBowls_9 rfl hl (by decide) rfl (fun ls hl => ?_)
  refine lv_iconst (v := (0 : Int32)) hx hb dX2_spansUnderBowls_10 (by decide) ?_
  refine lv_istore (i := 4) (lv' := [(4, .int (0 : Int32)), (3, .int (12 : Int32)), (2, .ref (aO a 1)), (1, .int (0 : Int32)), (0, .ref (aO a 0))]) hx hb dX2_spansUnderBowls_11 hl (by decide) rfl (fun ls hl => ?_)
  have L13 : ∀ (n : Nat) (x1_13 : Int32) (x4_13 : Int32) (ls : Array Slot), lv_has ls 6 [(0, .ref (aO a 0)), (1, .int x1_13), (2, .ref (aO a 1)), (3, .int (12 : Int32)), (4, .int x4_13)] → R_X2_spansUnderBowls_L13 k n x1_13 x4_13 = some r → W p l e (headSpec (ws_ yX2_spansUnderBowls cX2_spansUnderBowls 6 (some .int)) { frames := 0, cells := 0, slots := 0, locals := 0 }).room s m ([.ref (aO a 0)] : List Value).toArray below meth c s.heap [] 0 0 (MQ below (vp_Si (fun x => x = r)) ([.ref (aO a 0)] : List Value).toArray s 0 0 (fun _ => False)) (F0 m 13 ls []) := by
    intro n
    induction n with
    | zero =>
      intro x1_13 x4_13 ls hl h
      exact absurd h (by simp [R_X2_spansUnderBowls_L13])
    | succ n ih =>
      intro x1_13 x4_13 ls hl h
      rw [R_X2_spansUnderBowls_L13] at h
      refine lv_iload hx hb dX2_spansUnderBowls_13 (lv_at hl 4 rfl) ?_
      refine lv_iload_n hx hb dX2_spansUnderBowls_15 rfl (lv_at hl 3 rfl) ?_
      refine lv_icmp_ge (tgt := 45) hx hb dX2_spansUnderBowls_16 (by decide) (fun q => ?_) (fun q => ?_)
      · have h := o_t h q
        refine lv_iload_n hx hb dX2_spansUnderBowls_45 rfl (lv_at hl 1 rfl) ?_
        exact ro_iret hx hb hr hlocks dX2_spansUnderBowls_46 (Option.some.inj h)
      · have h := o_f h q
        refine lv_aload_n hx hb dX2_spansUnderBowls_19 rfl (lv_at hl 2 rfl) ?_
        refine lv_iload hx hb dX2_spansUnderBowls_20 (lv_at hl 4 rfl) ?_
        obtain ⟨g22, h⟩ := o_if h
        refine va_aldS hx hb hK hP g22 dX2_spansUnderBowls_22 ?_
        refine lv_astore (i := 5) (lv' := [(5, .ref (aS a (x4_13.toNatClampNeg))), (0, .ref (aO a 0)), (1, .int x1_13), (2, .ref (aO a 1)), (3, .int (12 : Int32)), (4, .int x4_13)]) hx hb dX2_spansUnderBowls_23 hl (by decide) rfl (fun ls hl => ?_)
        refine lv_iload_n hx hb dX2_spansUnderBowls_25 rfl (lv_at hl 2 rfl) ?_
        refine lv_aload hx hb dX2_spansUnderBowls_26 (lv_at hl 0 rfl) ?_
        refine va_get (D := D) (ci := 1) (v := .int (kS k 6 (x4_13.toNatClampNeg))) (C := RX1) (T := TX1) (N := 8) hx hb hts iX1 hown hK hP (3 + (x4_13.toNatClampNeg)) (KW_S c5 a k (inb_lt g22)) rfl 6 (by decide) (hts _ wT1_39) (fun _ h9 => h9) rfl dX2_spansUnderBowls_28 ?_
        refine lv_aload hx hb dX2_spansUnderBowls_31 (lv_at hl 0 rfl) ?_
        refine va_get (D := D) (ci := 1) (v := .int (kS k 3 (x4_13.toNatClampNeg))) (C := RX1) (T := TX1) (N := 8) hx hb hts iX1 hown hK hP (3 + (x4_13.toNatClampNeg)) (KW_S c5 a k (inb_lt g22)) rfl 3 (by decide) (hts _ wT1_34) (fun _ h9 => h9) rfl dX2_spansUnderBowls_33 ?_
        refine lv_imul hx hb dX2_spansUnderBowls_36 ?_
        refine lv_iadd hx hb dX2_spansUnderBowls_37 ?_
        refine lv_istore_n (i := 1) (lv' := [(1, .int (x1_13 + ((kS k 6 (x4_13.toNatClampNeg)) * (kS k 3 (x4_13.toNatClampNeg))))), (5, .ref (aS a (x4_13.toNatClampNeg))), (0, .ref (aO a 0)), (2, .ref (aO a 1)), (3, .int (12 : Int32)), (4, .int x4_13)]) hx hb dX2_spansUnderBowls_38 rfl hl (by decide) rfl (fun ls hl => ?_)
        refine lv_iinc (v := (x4_13 + (1 : Int32))) (lv' := [(4, .int (x4_13 + (1 : Int32))), (1, .int (x1_13 + ((kS k 6 (x4_13.toNatClampNeg)) * (kS k 3 (x4_13.toNatClampNeg))))), (5, .ref (aS a (x4_13.toNatClampNeg))), (0, .ref (aO a 0)), (2, .ref (aO a 1)), (3, .int (12 : Int32))]) hx hb dX2_spansUnderBowls_39 hl (k := 5) rfl rfl (by decide) rfl (fun ls hl => ?_)
        refine lv_goto (tgt := 13) hx hb dX2_spansUnderBowls_42 (by decide) ?_
        exact ih (x1_13 + ((kS k 6 (x4_13.toNatClampNeg)) * (kS k 3 (x4_13.toNatClampNeg)))) (x4_13 + (1 : Int32))  ls (lv_sub hl [3, 1, 4, 5, 0] rfl) h
  exact L13 FU (0 : Int32) (0 : Int32)  ls (lv_sub hl [4, 3, 2, 1, 0] rfl) h
set_option maxHeartbeats 4000000 in
set_option maxRecDepth 100000 in
theorem c_X2_takenShelves (l : Launch) (D : va_G) (c5 : Nat → ClassId) (a : KAd) (k : KSt) (hI : KI a) (r : Int32) (h : R_X2_takenShelves k = some r) : Met l yX2_takenShelves (ws_ yX2_takenShelves cX2_takenShelves 1 (some .int)) { frames := 2, cells := 0, slots := 0, locals := 45 } (va_Pc [.ref (aO a 0)] (roB D (tyG c5) (KW c5 a k))) (vp_Si (fun x => x = r)) 0 0 (fun _ => False) := by
  refine Met.ofW (cc := cX2_takenShelves) (maxL := 1) (ret := (some .int)) (by decide) rfl ?_
  intro p e s m args below meth c s₁ B hml hv
  obtain ⟨rfl, hP, hK⟩ := hv
  have hx := B.exec
  have hb := B.bytes
  have hr := B.returns
  have hts : ∀ w ∈ LA, w.before _ s = true := fun w hw => atoms_spec (ws := ws_ yX2_takenShelves cX2_takenShelves 1 (some .int)) B.pre w (List.mem_cons_of_mem _ hw)
  have hown : s.vm.findClass RX2 = some m.cls := findClass_of_methodNamed B.named
  have hlocks := B.notSynchronized
  have hl := lv_entry ([.ref (aO a 0)] : List Value) (n := 1) (Nat.le_of_ble_eq_true rfl)
  rw [lg_entry_eq]
  generalize (lg_sl ([.ref (aO a 0)] : List Value) ++ List.replicate (1 - (lg_sl ([.ref (aO a 0)] : List Value)).length) Slot.unset).toArray = ls at hl ⊢
  have hl : lv_has ls 1 [(0, .ref (aO a 0))] := hl
  unfold R_X2_takenShelves at h
  refine lv_bipush (v := (12 : Int32)) hx hb dX2_takenShelves_0 (by decide) ?_
  refine lv_aload_n hx hb dX2_takenShelves_2 rfl (lv_at hl 0 rfl) ?_
  obtain ⟨v3, e3, h⟩ := o_bind h
  refine ro_calli (ro_runV (As := []) (rest := [.int (12 : Int32)]) ⟨hx, hb, hml, hown, hts⟩ hP hK (c_X2_freeShelves l D c5 a k hI  v3 e3) gG_RX2_134 (va_recv hK hP (ci := 2) (q0 := 0) rfl (KW_0 c5 a k)) hd_X2_freeShelves ⟨Nat.le_of_ble_eq_true rfl, Nat.le_of_ble_eq_true rfl⟩ ⟨rfl, rfl⟩ hl.1 (Nat.le_of_ble_eq_true rfl) dX2_takenShelves_3 ⟨Nat.zero_le _, Nat.zero_le _⟩ rfl) ?_
  refine lv_isub hx hb dX2_takenShelves_6 ?_
  exact ro_iret hx hb hr hlocks dX2_takenShelves_7 (Option.some.inj h)
set_option maxHeartbeats 4000000 in
set_option maxRecDepth 100000 in
theorem c_X2_spansOfNoPlace (l : Launch) (D : va_G) (c5 : Nat → ClassId) (a : KAd) (k : KSt) (hI : KI a) (r : Int32) (h : R_X2_spansOfNoPlace k = some r) : Met l yX2_spansOfNoPlace (ws_ yX2_spansOfNoPlace cX2_spansOfNoPlace 6 (some .int)) { frames := 1, cells := 0, slots := 0, locals := 20 } (va_Pc [.ref (aO a 0)] (roB D (tyG c5) (KW c5 a k))) (vp_Si (fun x => x = r)) 0 0 (fun _ => False) := by
  refine Met.ofW (cc := cX2_spansOfNoPlace) (maxL := 6) (ret := (some .int)) (by decide) rfl ?_
  intro p e s m args below meth c s₁ B hml hv
  obtain ⟨rfl, hP, hK⟩ := hv
  have hx := B.exec
  have hb := B.bytes
  have hr := B.returns
  have hts : ∀ w ∈ LA, w.before _ s = true := fun w hw => atoms_spec (ws := ws_ yX2_spansOfNoPlace cX2_spansOfNoPlace 6 (some .int)) B.pre w (List.mem_cons_of_mem _ hw)
  have hown : s.vm.findClass RX2 = some m.cls := findClass_of_methodNamed B.named
  have hlocks := B.notSynchronized
  have hl := lv_entry ([.ref (aO a 0)] : List Value) (n := 6) (Nat.le_of_ble_eq_true rfl)
  rw [lg_entry_eq]
  generalize (lg_sl ([.ref (aO a 0)] : List Value) ++ List.replicate (6 - (lg_sl ([.ref (aO a 0)] : List Value)).length) Slot.unset).toArray = ls at hl ⊢
  have hl : lv_has ls 6 [(0, .ref (aO a 0))] := hl
  unfold R_X2_spansOfNoPlace at h
  refine lv_iconst (v := (0 : Int32)) hx hb dX2_spansOfNoPlace_0 (by decide) ?_
  refine lv_istore_n (i := 1) (lv' := [(1, .int (0 : Int32)), (0, .ref (aO a 0))]) hx hb dX2_spansOfNoPlace_1 rfl hl (by decide) rfl (fun ls hl => ?_)
  refine lv_aload_n hx hb dX2_spansOfNoPlace_2 rfl (lv_at hl 1 rfl) ?_
  refine va_get (D := D) (ci := 2) (v := .ref (aO a 1)) (C := RX2) (T := TX2) (N := 7) hx hb hts iX2 hown hK hP 0 (KW_0 c5 a k) rfl 0 (by decide) (hts _ wT1_60) (fun _ h9 => h9) rfl dX2_spansOfNoPlace_3 ?_
  refine lv_astore_n (i := 2) (lv' := [(2, .ref (aO a 1)), (1, .int (0 : Int32)), (0, .ref (aO a 0))]) hx hb dX2_spansOfNoPlace_6 rfl hl (by decide) rfl (fun ls hl => ?_)
  refine lv_aload_n hx hb dX2_spansOfNoPlace_7 rfl (lv_at hl 0 rfl) ?_
  refine va_alen (v := (12 : Int32)) hx hb hK hP 1 0 (KW_1 c5 a k) rfl rfl dX2_spansOfNoPlace_8 ?_
  refine lv_istore_n (i := 3) (lv' := [(3, .int (12 : Int32)), (2, .ref (aO a 1)), (1, .int (0 : Int32)), (0, .ref (aO a 0))]) hx hb dX2_spansOfNoPlace_9 rfl hl (by decide) rfl (fun ls hl => ?_)
  refine lv_iconst (v := (0 : Int32)) hx hb dX2_spansOfNoPlace_10 (by decide) ?_
  refine lv_istore (i := 4) (lv' := [(4, .int (0 : Int32)), (3, .int (12 : Int32)), (2, .ref (aO a 1)), (1, .int (0 : Int32)), (0, .ref (aO a 0))]) hx hb dX2_spansOfNoPlace_11 hl (by decide) rfl (fun ls hl => ?_)
  have L13 : ∀ (n : Nat) (x1_13 : Int32) (x4_13 : Int32) (ls : Array Slot), lv_has ls 6 [(0, .ref (aO a 0)), (1, .int x1_13), (2, .ref (aO a 1)), (3, .int (12 : Int32)), (4, .int x4_13)] → R_X2_spansOfNoPlace_L13 k n x1_13 x4_13 = some r → W p l e (headSpec (ws_ yX2_spansOfNoPlace cX2_spansOfNoPlace 6 (some .int)) { frames := 1, cells := 0, slots := 0, locals := 20 }).room s m ([.ref (aO a 0)] : List Value).toArray below meth c s.heap [] 0 0 (MQ below (vp_Si (fun x => x = r)) ([.ref (aO a 0)] : List Value).toArray s 0 0 (fun _ => False)) (F0 m 13 ls []) := by
    intro n
    induction n with
    | zero =>
      intro x1_13 x4_13 ls hl h
      exact absurd h (by simp [R_X2_spansOfNoPlace_L13])
    | succ n ih =>
      intro x1_13 x4_13 ls hl h
      rw [R_X2_spansOfNoPlace_L13] at h
      refine lv_iload hx hb dX2_spansOfNoPlace_13 (lv_at hl 4 rfl) ?_
      refine lv_iload_n hx hb dX2_spansOfNoPlace_15 rfl (lv_at hl 3 rfl) ?_
      refine lv_icmp_ge (tgt := 56) hx hb dX2_spansOfNoPlace_16 (by decide) (fun q => ?_) (fun q => ?_)
      · have h := o_t h q
        refine lv_iload_n hx hb dX2_spansOfNoPlace_56 rfl (lv_at hl 1 rfl) ?_
        exact ro_iret hx hb hr hlocks dX2_spansOfNoPlace_57 (Option.some.inj h)
      · have h := o_f h q
        refine lv_aload_n hx hb dX2_spansOfNoPlace_19 rfl (lv_at hl 2 rfl) ?_
        refine lv_iload hx hb dX2_spansOfNoPlace_20 (lv_at hl 4 rfl) ?_
        obtain ⟨g22, h⟩ := o_if h
        refine va_aldS hx hb hK hP g22 dX2_spansOfNoPlace_22 ?_
        refine lv_astore (i := 5) (lv' := [(5, .ref (aS a (x4_13.toNatClampNeg))), (0, .ref (aO a 0)), (1, .int x1_13), (2, .ref (aO a 1)), (3, .int (12 : Int32)), (4, .int x4_13)]) hx hb dX2_spansOfNoPlace_23 hl (by decide) rfl (fun ls hl => ?_)
        refine lv_aload hx hb dX2_spansOfNoPlace_25 (lv_at hl 0 rfl) ?_
        obtain ⟨v27, e27, h⟩ := o_bind h
        refine ro_calli (ro_runV (As := []) (rest := []) ⟨hx, hb, hml, hown, hts⟩ hP hK (c_X1_state l D c5 a k hI (x4_13.toNatClampNeg) (inb_lt g22) v27 e27) gG_RX2_70 (va_recv hK hP (ci := 1) (q0 := (3 + (x4_13.toNatClampNeg))) rfl (KW_S c5 a k (inb_lt g22))) hd_X1_state ⟨Nat.le_of_ble_eq_true rfl, Nat.le_of_ble_eq_true rfl⟩ ⟨rfl, rfl⟩ hl.1 (Nat.le_of_ble_eq_true rfl) dX2_spansOfNoPlace_27 ⟨Nat.zero_le _, Nat.zero_le _⟩ rfl) ?_
        refine lv_if_eq (tgt := 50) hx hb dX2_spansOfNoPlace_30 (by decide) (fun q => ?_) (fun q => ?_)
        · have h := o_t h q
          refine lv_iinc (v := (x4_13 + (1 : Int32))) (lv' := [(4, .int (x4_13 + (1 : Int32))), (5, .ref (aS a (x4_13.toNatClampNeg))), (0, .ref (aO a 0)), (1, .int x1_13), (2, .ref (aO a 1)), (3, .int (12 : Int32))]) hx hb dX2_spansOfNoPlace_50 hl (k := 5) rfl rfl (by decide) rfl (fun ls hl => ?_)
          refine lv_goto (tgt := 13) hx hb dX2_spansOfNoPlace_53 (by decide) ?_
          exact ih x1_13 (x4_13 + (1 : Int32))  ls (lv_sub hl [2, 3, 4, 5, 0] rfl) h
        · have h := o_f h q
          refine lv_iload_n hx hb dX2_spansOfNoPlace_33 rfl (lv_at hl 2 rfl) ?_
          refine lv_bipush (v := (24 : Int32)) hx hb dX2_spansOfNoPlace_34 (by decide) ?_
          refine lv_aload hx hb dX2_spansOfNoPlace_36 (lv_at hl 0 rfl) ?_
          refine va_get (D := D) (ci := 1) (v := .int (kS k 4 (x4_13.toNatClampNeg))) (C := RX1) (T := TX1) (N := 8) hx hb hts iX1 hown hK hP (3 + (x4_13.toNatClampNeg)) (KW_S c5 a k (inb_lt g22)) rfl 4 (by decide) (hts _ wT1_36) (fun _ h9 => h9) rfl dX2_spansOfNoPlace_38 ?_
          refine lv_aload hx hb dX2_spansOfNoPlace_41 (lv_at hl 0 rfl) ?_
          refine va_get (D := D) (ci := 1) (v := .int (kS k 3 (x4_13.toNatClampNeg))) (C := RX1) (T := TX1) (N := 8) hx hb hts iX1 hown hK hP (3 + (x4_13.toNatClampNeg)) (KW_S c5 a k (inb_lt g22)) rfl 3 (by decide) (hts _ wT1_34) (fun _ h9 => h9) rfl dX2_spansOfNoPlace_43 ?_
          refine lv_imul hx hb dX2_spansOfNoPlace_46 ?_
          refine lv_isub hx hb dX2_spansOfNoPlace_47 ?_
          refine lv_iadd hx hb dX2_spansOfNoPlace_48 ?_
          refine lv_istore_n (i := 1) (lv' := [(1, .int (x1_13 + ((24 : Int32) - ((kS k 4 (x4_13.toNatClampNeg)) * (kS k 3 (x4_13.toNatClampNeg)))))), (5, .ref (aS a (x4_13.toNatClampNeg))), (0, .ref (aO a 0)), (2, .ref (aO a 1)), (3, .int (12 : Int32)), (4, .int x4_13)]) hx hb dX2_spansOfNoPlace_49 rfl hl (by decide) rfl (fun ls hl => ?_)
          refine lv_iinc (v := (x4_13 + (1 : Int32))) (lv' := [(4, .int (x4_13 + (1 : Int32))), (1, .int (x1_13 + ((24 : Int32) - ((kS k 4 (x4_13.toNatClampNeg)) * (kS k 3 (x4_13.toNatClampNeg)))))), (5, .ref (aS a (x4_13.toNatClampNeg))), (0, .ref (aO a 0)), (2, .ref (aO a 1)), (3, .int (12 : Int32))]) hx hb dX2_spansOfNoPlace_50 hl (k := 5) rfl rfl (by decide) rfl (fun ls hl => ?_)
          refine lv_goto (tgt := 13) hx hb dX2_spansOfNoPlace_53 (by decide) ?_
          exact ih (x1_13 + ((24 : Int32) - ((kS k 4 (x4_13.toNatClampNeg)) * (kS k 3 (x4_13.toNatClampNeg))))) (x4_13 + (1 : Int32))  ls (lv_sub hl [3, 1, 4, 5, 0] rfl) h
  exact L13 FU (0 : Int32) (0 : Int32)  ls (lv_sub hl [4, 3, 2, 1, 0] rfl) h
set_option maxHeartbeats 4000000 in
set_option maxRecDepth 100000 in
theorem c_X2_nextSpot (l : Launch) (D : va_G) (c5 : Nat → ClassId) (a : KAd) (k : KSt) (hI : KI a) (j1 : Nat) (hj1 : j1 < kN k) (r : Int32) (h : R_X2_nextSpot k j1 = some r) : Met l yX2_nextSpot (ws_ yX2_nextSpot cX2_nextSpot 3 (some .int)) { frames := 4, cells := 0, slots := 0, locals := 91 } (va_Pc [.ref (aO a 0), .ref (aK a j1)] (roB D (tyG c5) (KW c5 a k))) (vp_Si (fun x => x = r)) 0 0 (fun _ => False) := by
  refine Met.ofW (cc := cX2_nextSpot) (maxL := 3) (ret := (some .int)) (by decide) rfl ?_
  intro p e s m args below meth c s₁ B hml hv
  obtain ⟨rfl, hP, hK⟩ := hv
  have hx := B.exec
  have hb := B.bytes
  have hr := B.returns
  have hts : ∀ w ∈ LA, w.before _ s = true := fun w hw => atoms_spec (ws := ws_ yX2_nextSpot cX2_nextSpot 3 (some .int)) B.pre w (List.mem_cons_of_mem _ hw)
  have hown : s.vm.findClass RX2 = some m.cls := findClass_of_methodNamed B.named
  have hlocks := B.notSynchronized
  have hl := lv_entry ([.ref (aO a 0), .ref (aK a j1)] : List Value) (n := 3) (Nat.le_of_ble_eq_true rfl)
  rw [lg_entry_eq]
  generalize (lg_sl ([.ref (aO a 0), .ref (aK a j1)] : List Value) ++ List.replicate (3 - (lg_sl ([.ref (aO a 0), .ref (aK a j1)] : List Value)).length) Slot.unset).toArray = ls at hl ⊢
  have hl : lv_has ls 3 [(0, .ref (aO a 0)), (1, .ref (aK a j1))] := hl
  unfold R_X2_nextSpot at h
  refine lv_aload_n hx hb dX2_nextSpot_0 rfl (lv_at hl 0 rfl) ?_
  refine lv_aload_n hx hb dX2_nextSpot_1 rfl (lv_at hl 1 rfl) ?_
  obtain ⟨v2, e2, h⟩ := o_bind h
  refine ro_calle (ro_runV (As := [.ref (aK a j1)]) (rest := []) ⟨hx, hb, hml, hown, hts⟩ hP hK (c_X2_shelfToPut l D c5 a k hI j1 hj1 v2 e2) gG_RX2_64 (va_recv hK hP (ci := 2) (q0 := 0) rfl (KW_0 c5 a k)) hd_X2_shelfToPut ⟨Nat.le_of_ble_eq_true rfl, Nat.le_of_ble_eq_true rfl⟩ ⟨rfl, rfl⟩ hl.1 (Nat.le_of_ble_eq_true rfl) dX2_nextSpot_2 ⟨Nat.zero_le _, Nat.zero_le _⟩ rfl) ?_
  refine qv_astore_n (i := 2) (lv' := [(2, va_rf (v2.map (aS a))), (0, .ref (aO a 0)), (1, .ref (aK a j1))]) hx hb dX2_nextSpot_5 rfl hl (by decide) rfl (fun ls hl => ?_)
  refine qv_aload_n hx hb dX2_nextSpot_6 rfl (lv_at hl 0 rfl) ?_
  cases v2 with
  | none =>
    have h := oe_n h
    have hl : lv_has ls 3 [(2, .null), (0, .ref (aO a 0)), (1, .ref (aK a j1))] := hl
    refine lv_ifnonnullN hx hb dX2_nextSpot_7 ?_
    refine lv_iconst (v := (-1 : Int32)) hx hb dX2_nextSpot_10 (by decide) ?_
    exact ro_iret hx hb hr hlocks dX2_nextSpot_11 (Option.some.inj h)
  | some j7 =>
    obtain ⟨hj7, h⟩ := oe_sif h
    have hl : lv_has ls 3 [(2, .ref (aS a j7)), (0, .ref (aO a 0)), (1, .ref (aK a j1))] := hl
    refine lv_ifnonnull (tgt := 12) hx hb dX2_nextSpot_7 (by decide) ?_
    refine lv_aload_n hx hb dX2_nextSpot_12 rfl (lv_at hl 0 rfl) ?_
    obtain ⟨v13, e13, h⟩ := o_bind h
    refine ro_calli (ro_runV (As := []) (rest := []) ⟨hx, hb, hml, hown, hts⟩ hP hK (c_X1_state l D c5 a k hI j7 hj7 v13 e13) gG_RX2_70 (va_recv hK hP (ci := 1) (q0 := (3 + j7)) rfl (KW_S c5 a k hj7)) hd_X1_state ⟨Nat.le_of_ble_eq_true rfl, Nat.le_of_ble_eq_true rfl⟩ ⟨rfl, rfl⟩ hl.1 (Nat.le_of_ble_eq_true rfl) dX2_nextSpot_13 ⟨Nat.zero_le _, Nat.zero_le _⟩ rfl) ?_
    refine lv_if_ne (tgt := 29) hx hb dX2_nextSpot_16 (by decide) (fun q => ?_) (fun q => ?_)
    · have h := o_t' h q
      refine lv_aload_n hx hb dX2_nextSpot_29 rfl (lv_at hl 0 rfl) ?_
      refine lv_aload_n hx hb dX2_nextSpot_30 rfl (lv_at hl 0 rfl) ?_
      obtain ⟨v31, e31, h⟩ := o_bind h
      refine ro_calli (ro_runV (As := []) (rest := [.ref (aS a j7)]) ⟨hx, hb, hml, hown, hts⟩ hP hK (c_X1_firstGap l D c5 a k hI j7 hj7 v31 e31) gG_RX2_78 (va_recv hK hP (ci := 1) (q0 := (3 + j7)) rfl (KW_S c5 a k hj7)) hd_X1_firstGap ⟨Nat.le_of_ble_eq_true rfl, Nat.le_of_ble_eq_true rfl⟩ ⟨rfl, rfl⟩ hl.1 (Nat.le_of_ble_eq_true rfl) dX2_nextSpot_31 ⟨Nat.zero_le _, Nat.zero_le _⟩ rfl) ?_
      obtain ⟨v34, e34, h⟩ := o_bind h
      refine ro_calli (ro_runV (As := [.int v31]) (rest := []) ⟨hx, hb, hml, hown, hts⟩ hP hK (c_X1_beginOf l D c5 a k hI j7 hj7 v31 v34 e34) gG_RX2_84 (va_recv hK hP (ci := 1) (q0 := (3 + j7)) rfl (KW_S c5 a k hj7)) hd_X1_beginOf ⟨Nat.le_of_ble_eq_true rfl, Nat.le_of_ble_eq_true rfl⟩ ⟨rfl, rfl⟩ hl.1 (Nat.le_of_ble_eq_true rfl) dX2_nextSpot_34 ⟨Nat.zero_le _, Nat.zero_le _⟩ rfl) ?_
      exact ro_iret hx hb hr hlocks dX2_nextSpot_37 (Option.some.inj h)
    · have h := o_f' h q
      refine lv_aload_n hx hb dX2_nextSpot_19 rfl (lv_at hl 0 rfl) ?_
      refine va_get (D := D) (ci := 1) (v := .int (nI (24 * j7))) (C := RX1) (T := TX1) (N := 8) hx hb hts iX1 hown hK hP (3 + j7) (KW_S c5 a k hj7) rfl 0 (by decide) (hts _ wT1_29) (fun _ h9 => h9) rfl dX2_nextSpot_20 ?_
      refine lv_aload_n hx hb dX2_nextSpot_23 rfl (lv_at hl 2 rfl) ?_
      refine va_get (D := D) (ci := 0) (v := .int (kK k 5 j1)) (C := RX0) (T := TX0) (N := 6) hx hb hts iX0 hown hK hP (27 + j1) (KW_K c5 a k hj1) rfl 5 (by decide) (hts _ wT3_65) (fun _ h9 => h9) rfl dX2_nextSpot_24 ?_
      refine lv_iadd hx hb dX2_nextSpot_27 ?_
      exact ro_iret hx hb hr hlocks dX2_nextSpot_28 (Option.some.inj h)
set_option maxHeartbeats 4000000 in
set_option maxRecDepth 100000 in
theorem c_X2_gapsOf (l : Launch) (D : va_G) (c5 : Nat → ClassId) (a : KAd) (k : KSt) (hI : KI a) (j1 : Nat) (hj1 : j1 < kN k) (r : Int32) (h : R_X2_gapsOf k j1 = some r) : Met l yX2_gapsOf (ws_ yX2_gapsOf cX2_gapsOf 2 (some .int)) { frames := 2, cells := 0, slots := 0, locals := 47 } (va_Pc [.ref (aO a 0), .ref (aK a j1)] (roB D (tyG c5) (KW c5 a k))) (vp_Si (fun x => x = r)) 0 0 (fun _ => False) := by
  refine Met.ofW (cc := cX2_gapsOf) (maxL := 2) (ret := (some .int)) (by decide) rfl ?_
  intro p e s m args below meth c s₁ B hml hv
  obtain ⟨rfl, hP, hK⟩ := hv
  have hx := B.exec
  have hb := B.bytes
  have hr := B.returns
  have hts : ∀ w ∈ LA, w.before _ s = true := fun w hw => atoms_spec (ws := ws_ yX2_gapsOf cX2_gapsOf 2 (some .int)) B.pre w (List.mem_cons_of_mem _ hw)
  have hown : s.vm.findClass RX2 = some m.cls := findClass_of_methodNamed B.named
  have hlocks := B.notSynchronized
  have hl := lv_entry ([.ref (aO a 0), .ref (aK a j1)] : List Value) (n := 2) (Nat.le_of_ble_eq_true rfl)
  rw [lg_entry_eq]
  generalize (lg_sl ([.ref (aO a 0), .ref (aK a j1)] : List Value) ++ List.replicate (2 - (lg_sl ([.ref (aO a 0), .ref (aK a j1)] : List Value)).length) Slot.unset).toArray = ls at hl ⊢
  have hl : lv_has ls 2 [(0, .ref (aO a 0)), (1, .ref (aK a j1))] := hl
  unfold R_X2_gapsOf at h
  refine lv_aload_n hx hb dX2_gapsOf_0 rfl (lv_at hl 0 rfl) ?_
  refine lv_aload_n hx hb dX2_gapsOf_1 rfl (lv_at hl 1 rfl) ?_
  obtain ⟨v2, e2, h⟩ := o_bind h
  refine ro_calli (ro_runV (As := [.ref (aK a j1)]) (rest := []) ⟨hx, hb, hml, hown, hts⟩ hP hK (c_X2_shelvesOf l D c5 a k hI j1 hj1 v2 e2) gG_RX2_199 (va_recv hK hP (ci := 2) (q0 := 0) rfl (KW_0 c5 a k)) hd_X2_shelvesOf ⟨Nat.le_of_ble_eq_true rfl, Nat.le_of_ble_eq_true rfl⟩ ⟨rfl, rfl⟩ hl.1 (Nat.le_of_ble_eq_true rfl) dX2_gapsOf_2 ⟨Nat.zero_le _, Nat.zero_le _⟩ rfl) ?_
  refine lv_aload_n hx hb dX2_gapsOf_5 rfl (lv_at hl 1 rfl) ?_
  refine va_get (D := D) (ci := 0) (v := .int (kK k 2 j1)) (C := RX0) (T := TX0) (N := 6) hx hb hts iX0 hown hK hP (27 + j1) (KW_K c5 a k hj1) rfl 2 (by decide) (hts _ wT3_58) (fun _ h9 => h9) rfl dX2_gapsOf_6 ?_
  refine lv_imul hx hb dX2_gapsOf_9 ?_
  refine lv_aload_n hx hb dX2_gapsOf_10 rfl (lv_at hl 0 rfl) ?_
  refine lv_aload_n hx hb dX2_gapsOf_11 rfl (lv_at hl 1 rfl) ?_
  obtain ⟨v12, e12, h⟩ := o_bind h
  refine ro_calli (ro_runV (As := [.ref (aK a j1)]) (rest := [.int (v2 * (kK k 2 j1))]) ⟨hx, hb, hml, hown, hts⟩ hP hK (c_X2_bowlsOf l D c5 a k hI j1 hj1 v12 e12) gG_RX2_205 (va_recv hK hP (ci := 2) (q0 := 0) rfl (KW_0 c5 a k)) hd_X2_bowlsOf ⟨Nat.le_of_ble_eq_true rfl, Nat.le_of_ble_eq_true rfl⟩ ⟨rfl, rfl⟩ hl.1 (Nat.le_of_ble_eq_true rfl) dX2_gapsOf_12 ⟨Nat.zero_le _, Nat.zero_le _⟩ rfl) ?_
  refine lv_isub hx hb dX2_gapsOf_15 ?_
  exact ro_iret hx hb hr hlocks dX2_gapsOf_16 (Option.some.inj h)
set_option maxHeartbeats 4000000 in
set_option maxRecDepth 100000 in
theorem c_X2_gainsOf (l : Launch) (D : va_G) (c5 : Nat → ClassId) (a : KAd) (k : KSt) (hI : KI a) (j1 : Nat) (hj1 : j1 < kN k) (r : Int32) (h : R_X2_gainsOf k j1 = some r) : Met l yX2_gainsOf (ws_ yX2_gainsOf cX2_gainsOf 8 (some .int)) { frames := 1, cells := 0, slots := 0, locals := 21 } (va_Pc [.ref (aO a 0), .ref (aK a j1)] (roB D (tyG c5) (KW c5 a k))) (vp_Si (fun x => x = r)) 0 0 (fun _ => False) := by
  refine Met.ofW (cc := cX2_gainsOf) (maxL := 8) (ret := (some .int)) (by decide) rfl ?_
  intro p e s m args below meth c s₁ B hml hv
  obtain ⟨rfl, hP, hK⟩ := hv
  have hx := B.exec
  have hb := B.bytes
  have hr := B.returns
  have hts : ∀ w ∈ LA, w.before _ s = true := fun w hw => atoms_spec (ws := ws_ yX2_gainsOf cX2_gainsOf 8 (some .int)) B.pre w (List.mem_cons_of_mem _ hw)
  have hown : s.vm.findClass RX2 = some m.cls := findClass_of_methodNamed B.named
  have hlocks := B.notSynchronized
  have hl := lv_entry ([.ref (aO a 0), .ref (aK a j1)] : List Value) (n := 8) (Nat.le_of_ble_eq_true rfl)
  rw [lg_entry_eq]
  generalize (lg_sl ([.ref (aO a 0), .ref (aK a j1)] : List Value) ++ List.replicate (8 - (lg_sl ([.ref (aO a 0), .ref (aK a j1)] : List Value)).length) Slot.unset).toArray = ls at hl ⊢
  have hl : lv_has ls 8 [(0, .ref (aO a 0)), (1, .ref (aK a j1))] := hl
  unfold R_X2_gainsOf at h
  refine lv_iconst (v := (0 : Int32)) hx hb dX2_gainsOf_0 (by decide) ?_
  refine lv_istore_n (i := 2) (lv' := [(2, .int (0 : Int32)), (0, .ref (aO a 0)), (1, .ref (aK a j1))]) hx hb dX2_gainsOf_1 rfl hl (by decide) rfl (fun ls hl => ?_)
  refine lv_iconst (v := (0 : Int32)) hx hb dX2_gainsOf_2 (by decide) ?_
  refine lv_istore_n (i := 3) (lv' := [(3, .int (0 : Int32)), (2, .int (0 : Int32)), (0, .ref (aO a 0)), (1, .ref (aK a j1))]) hx hb dX2_gainsOf_3 rfl hl (by decide) rfl (fun ls hl => ?_)
  refine lv_aload_n hx hb dX2_gainsOf_4 rfl (lv_at hl 2 rfl) ?_
  refine va_get (D := D) (ci := 2) (v := .ref (aO a 1)) (C := RX2) (T := TX2) (N := 7) hx hb hts iX2 hown hK hP 0 (KW_0 c5 a k) rfl 0 (by decide) (hts _ wT1_60) (fun _ h9 => h9) rfl dX2_gainsOf_5 ?_
  refine lv_astore (i := 4) (lv' := [(4, .ref (aO a 1)), (3, .int (0 : Int32)), (2, .int (0 : Int32)), (0, .ref (aO a 0)), (1, .ref (aK a j1))]) hx hb dX2_gainsOf_8 hl (by decide) rfl (fun ls hl => ?_)
  refine lv_aload hx hb dX2_gainsOf_10 (lv_at hl 0 rfl) ?_
  refine va_alen (v := (12 : Int32)) hx hb hK hP 1 0 (KW_1 c5 a k) rfl rfl dX2_gainsOf_12 ?_
  refine lv_istore (i := 5) (lv' := [(5, .int (12 : Int32)), (4, .ref (aO a 1)), (3, .int (0 : Int32)), (2, .int (0 : Int32)), (0, .ref (aO a 0)), (1, .ref (aK a j1))]) hx hb dX2_gainsOf_13 hl (by decide) rfl (fun ls hl => ?_)
  refine lv_iconst (v := (0 : Int32)) hx hb dX2_gainsOf_15 (by decide) ?_
  refine lv_istore (i := 6) (lv' := [(6, .int (0 : Int32)), (5, .int (12 : Int32)), (4, .ref (aO a 1)), (3, .int (0 : Int32)), (2, .int (0 : Int32)), (0, .ref (aO a 0)), (1, .ref (aK a j1))]) hx hb dX2_gainsOf_16 hl (by decide) rfl (fun ls hl => ?_)
  have L18 : ∀ (n : Nat) (x2_18 : Int32) (x3_18 : Int32) (x6_18 : Int32) (ls : Array Slot), lv_has ls 8 [(0, .ref (aO a 0)), (1, .ref (aK a j1)), (2, .int x2_18), (3, .int x3_18), (4, .ref (aO a 1)), (5, .int (12 : Int32)), (6, .int x6_18)] → R_X2_gainsOf_L18 k j1 n x2_18 x3_18 x6_18 = some r → W p l e (headSpec (ws_ yX2_gainsOf cX2_gainsOf 8 (some .int)) { frames := 1, cells := 0, slots := 0, locals := 21 }).room s m ([.ref (aO a 0), .ref (aK a j1)] : List Value).toArray below meth c s.heap [] 0 0 (MQ below (vp_Si (fun x => x = r)) ([.ref (aO a 0), .ref (aK a j1)] : List Value).toArray s 0 0 (fun _ => False)) (F0 m 18 ls []) := by
    intro n
    induction n with
    | zero =>
      intro x2_18 x3_18 x6_18 ls hl h
      exact absurd h (by simp [R_X2_gainsOf_L18])
    | succ n ih =>
      intro x2_18 x3_18 x6_18 ls hl h
      rw [R_X2_gainsOf_L18] at h
      refine lv_iload hx hb dX2_gainsOf_18 (lv_at hl 6 rfl) ?_
      refine lv_iload hx hb dX2_gainsOf_20 (lv_at hl 5 rfl) ?_
      refine lv_icmp_ge (tgt := 67) hx hb dX2_gainsOf_22 (by decide) (fun q => ?_) (fun q => ?_)
      · have h := o_t h q
        refine lv_iload_n hx hb dX2_gainsOf_67 rfl (lv_at hl 3 rfl) ?_
        refine lv_aload_n hx hb dX2_gainsOf_68 rfl (lv_at hl 1 rfl) ?_
        refine lv_iload_n hx hb dX2_gainsOf_69 rfl (lv_at hl 2 rfl) ?_
        obtain ⟨v70, e70, h⟩ := o_bind h
        refine ro_calli (ro_runV (As := [.int x2_18]) (rest := [.int x3_18]) ⟨hx, hb, hml, hown, hts⟩ hP hK (c_X0_shelvesFor l D c5 a k hI j1 hj1 x2_18 v70 e70) gG_RX2_161 (va_recv hK hP (ci := 0) (q0 := (27 + j1)) rfl (KW_K c5 a k hj1)) hd_X0_shelvesFor ⟨Nat.le_of_ble_eq_true rfl, Nat.le_of_ble_eq_true rfl⟩ ⟨rfl, rfl⟩ hl.1 (Nat.le_of_ble_eq_true rfl) dX2_gainsOf_70 ⟨Nat.zero_le _, Nat.zero_le _⟩ rfl) ?_
        refine lv_isub hx hb dX2_gainsOf_73 ?_
        exact ro_iret hx hb hr hlocks dX2_gainsOf_74 (Option.some.inj h)
      · have h := o_f h q
        refine lv_aload hx hb dX2_gainsOf_25 (lv_at hl 4 rfl) ?_
        refine lv_iload hx hb dX2_gainsOf_27 (lv_at hl 6 rfl) ?_
        obtain ⟨g29, h⟩ := o_if h
        refine va_aldS hx hb hK hP g29 dX2_gainsOf_29 ?_
        refine lv_astore (i := 7) (lv' := [(7, .ref (aS a (x6_18.toNatClampNeg))), (0, .ref (aO a 0)), (1, .ref (aK a j1)), (2, .int x2_18), (3, .int x3_18), (4, .ref (aO a 1)), (5, .int (12 : Int32)), (6, .int x6_18)]) hx hb dX2_gainsOf_30 hl (by decide) rfl (fun ls hl => ?_)
        refine lv_aload hx hb dX2_gainsOf_32 (lv_at hl 0 rfl) ?_
        refine lv_aload_n hx hb dX2_gainsOf_34 rfl (lv_at hl 2 rfl) ?_
        obtain ⟨v35, e35, h⟩ := o_bind h
        refine ro_calli (ro_runV (As := [.ref (aK a j1)]) (rest := []) ⟨hx, hb, hml, hown, hts⟩ hP hK (c_X1_isOf l D c5 a k hI (x6_18.toNatClampNeg) (inb_lt g29) j1 hj1 v35 e35) gG_RX2_235 (va_recv hK hP (ci := 1) (q0 := (3 + (x6_18.toNatClampNeg))) rfl (KW_S c5 a k (inb_lt g29))) hd_X1_isOf ⟨Nat.le_of_ble_eq_true rfl, Nat.le_of_ble_eq_true rfl⟩ ⟨rfl, rfl⟩ hl.1 (Nat.le_of_ble_eq_true rfl) dX2_gainsOf_35 ⟨Nat.zero_le _, Nat.zero_le _⟩ rfl) ?_
        refine lv_if_eq (tgt := 61) hx hb dX2_gainsOf_38 (by decide) (fun q => ?_) (fun q => ?_)
        · have h := o_t h q
          refine lv_iinc (v := (x6_18 + (1 : Int32))) (lv' := [(6, .int (x6_18 + (1 : Int32))), (7, .ref (aS a (x6_18.toNatClampNeg))), (0, .ref (aO a 0)), (1, .ref (aK a j1)), (2, .int x2_18), (3, .int x3_18), (4, .ref (aO a 1)), (5, .int (12 : Int32))]) hx hb dX2_gainsOf_61 hl (k := 7) rfl rfl (by decide) rfl (fun ls hl => ?_)
          refine lv_goto (tgt := 18) hx hb dX2_gainsOf_64 (by decide) ?_
          exact ih x2_18 x3_18 (x6_18 + (1 : Int32))  ls (lv_sub hl [2, 3, 4, 5, 6, 7, 0] rfl) h
        · have h := o_f h q
          refine lv_aload hx hb dX2_gainsOf_41 (lv_at hl 0 rfl) ?_
          obtain ⟨v43, e43, h⟩ := o_bind h
          refine ro_calli (ro_runV (As := []) (rest := []) ⟨hx, hb, hml, hown, hts⟩ hP hK (c_X1_state l D c5 a k hI (x6_18.toNatClampNeg) (inb_lt g29) v43 e43) gG_RX2_70 (va_recv hK hP (ci := 1) (q0 := (3 + (x6_18.toNatClampNeg))) rfl (KW_S c5 a k (inb_lt g29))) hd_X1_state ⟨Nat.le_of_ble_eq_true rfl, Nat.le_of_ble_eq_true rfl⟩ ⟨rfl, rfl⟩ hl.1 (Nat.le_of_ble_eq_true rfl) dX2_gainsOf_43 ⟨Nat.zero_le _, Nat.zero_le _⟩ rfl) ?_
          refine lv_iconst (v := (2 : Int32)) hx hb dX2_gainsOf_46 (by decide) ?_
          refine lv_icmp_ne (tgt := 61) hx hb dX2_gainsOf_47 (by decide) (fun q => ?_) (fun q => ?_)
          · have h := o_t' h q
            refine lv_iinc (v := (x6_18 + (1 : Int32))) (lv' := [(6, .int (x6_18 + (1 : Int32))), (7, .ref (aS a (x6_18.toNatClampNeg))), (0, .ref (aO a 0)), (1, .ref (aK a j1)), (2, .int x2_18), (3, .int x3_18), (4, .ref (aO a 1)), (5, .int (12 : Int32))]) hx hb dX2_gainsOf_61 hl (k := 7) rfl rfl (by decide) rfl (fun ls hl => ?_)
            refine lv_goto (tgt := 18) hx hb dX2_gainsOf_64 (by decide) ?_
            exact ih x2_18 x3_18 (x6_18 + (1 : Int32))  ls (lv_sub hl [2, 3, 4, 5, 6, 7, 0] rfl) h
          · have h := o_f' h q
            refine lv_iload_n hx hb dX2_gainsOf_50 rfl (lv_at hl 3 rfl) ?_
            refine lv_aload hx hb dX2_gainsOf_51 (lv_at hl 0 rfl) ?_
            refine va_get (D := D) (ci := 1) (v := .int (kS k 6 (x6_18.toNatClampNeg))) (C := RX1) (T := TX1) (N := 8) hx hb hts iX1 hown hK hP (3 + (x6_18.toNatClampNeg)) (KW_S c5 a k (inb_lt g29)) rfl 6 (by decide) (hts _ wT1_39) (fun _ h9 => h9) rfl dX2_gainsOf_53 ?_
            refine lv_iadd hx hb dX2_gainsOf_56 ?_
            refine lv_istore_n (i := 2) (lv' := [(2, .int (x2_18 + (kS k 6 (x6_18.toNatClampNeg)))), (7, .ref (aS a (x6_18.toNatClampNeg))), (0, .ref (aO a 0)), (1, .ref (aK a j1)), (3, .int x3_18), (4, .ref (aO a 1)), (5, .int (12 : Int32)), (6, .int x6_18)]) hx hb dX2_gainsOf_57 rfl hl (by decide) rfl (fun ls hl => ?_)
            refine lv_iinc (v := (x3_18 + (1 : Int32))) (lv' := [(3, .int (x3_18 + (1 : Int32))), (2, .int (x2_18 + (kS k 6 (x6_18.toNatClampNeg)))), (7, .ref (aS a (x6_18.toNatClampNeg))), (0, .ref (aO a 0)), (1, .ref (aK a j1)), (4, .ref (aO a 1)), (5, .int (12 : Int32)), (6, .int x6_18)]) hx hb dX2_gainsOf_58 hl (k := 4) rfl rfl (by decide) rfl (fun ls hl => ?_)
            refine lv_iinc (v := (x6_18 + (1 : Int32))) (lv' := [(6, .int (x6_18 + (1 : Int32))), (3, .int (x3_18 + (1 : Int32))), (2, .int (x2_18 + (kS k 6 (x6_18.toNatClampNeg)))), (7, .ref (aS a (x6_18.toNatClampNeg))), (0, .ref (aO a 0)), (1, .ref (aK a j1)), (4, .ref (aO a 1)), (5, .int (12 : Int32))]) hx hb dX2_gainsOf_61 hl (k := 7) rfl rfl (by decide) rfl (fun ls hl => ?_)
            refine lv_goto (tgt := 18) hx hb dX2_gainsOf_64 (by decide) ?_
            exact ih (x2_18 + (kS k 6 (x6_18.toNatClampNeg))) (x3_18 + (1 : Int32)) (x6_18 + (1 : Int32))  ls (lv_sub hl [4, 5, 2, 1, 6, 7, 0] rfl) h
  exact L18 FU (0 : Int32) (0 : Int32) (0 : Int32)  ls (lv_sub hl [5, 6, 4, 3, 2, 1, 0] rfl) h
set_option maxHeartbeats 4000000 in
set_option maxRecDepth 100000 in
theorem c_X2_mixed (l : Launch) (D : va_G) (tys : List (ClassId × FieldType)) (ws : va_W) (p0 : Int64) (p2 : Int64) (r : Int64) (h : R_X2_mixed p0 p2 = some r) : Met l yX2_mixed (ws_ yX2_mixed cX2_mixed 4 (some .long)) { frames := 0, cells := 0, slots := 0, locals := 0 } (va_Pc [.long p0, .long p2] (roB D (tys) (ws))) (vp_Sl (fun x => x = r)) 0 0 (fun _ => False) := by
  refine Met.ofW (cc := cX2_mixed) (maxL := 4) (ret := (some .long)) (by decide) rfl ?_
  intro p e s m args below meth c s₁ B hml hv
  obtain ⟨rfl, hP, hK⟩ := hv
  have hx := B.exec
  have hb := B.bytes
  have hr := B.returns
  have hts : ∀ w ∈ LA, w.before _ s = true := fun w hw => atoms_spec (ws := ws_ yX2_mixed cX2_mixed 4 (some .long)) B.pre w (List.mem_cons_of_mem _ hw)
  have hown : s.vm.findClass RX2 = some m.cls := findClass_of_methodNamed B.named
  have hlocks := B.notSynchronized
  have hl := lv_entry ([.long p0, .long p2] : List Value) (n := 4) (Nat.le_of_ble_eq_true rfl)
  rw [lg_entry_eq]
  generalize (lg_sl ([.long p0, .long p2] : List Value) ++ List.replicate (4 - (lg_sl ([.long p0, .long p2] : List Value)).length) Slot.unset).toArray = ls at hl ⊢
  have hl : lv_has ls 4 [(0, .long p0), (2, .long p2)] := hl
  unfold R_X2_mixed at h
  refine lv_lload_n hx hb dX2_mixed_0 rfl (lv_at hl 0 rfl) ?_
  refine lv_ldc2 (v := 31) hx hb hown (hts _ wT2_147) dX2_mixed_1 ?_
  refine lv_lmul hx hb dX2_mixed_4 ?_
  refine lv_lload_n hx hb dX2_mixed_5 rfl (lv_at hl 1 rfl) ?_
  refine lv_ladd hx hb dX2_mixed_6 ?_
  exact ro_lret hx hb hr hlocks dX2_mixed_7 (Option.some.inj h)
set_option maxHeartbeats 4000000 in
set_option maxRecDepth 100000 in
theorem c_X2_mixedWithShelf (l : Launch) (D : va_G) (c5 : Nat → ClassId) (a : KAd) (k : KSt) (hI : KI a) (p0 : Int64) (i2 : Nat) (hi2 : i2 < 12) (r : Int64) (h : R_X2_mixedWithShelf k p0 i2 = some r) : Met l yX2_mixedWithShelf (ws_ yX2_mixedWithShelf cX2_mixedWithShelf 6 (some .long)) { frames := 3, cells := 0, slots := 0, locals := 63 } (va_Pc [.long p0, .ref (aS a i2)] (roB D (tyG c5) (KW c5 a k))) (vp_Sl (fun x => x = r)) 0 0 (fun _ => False) := by
  refine Met.ofW (cc := cX2_mixedWithShelf) (maxL := 6) (ret := (some .long)) (by decide) rfl ?_
  intro p e s m args below meth c s₁ B hml hv
  obtain ⟨rfl, hP, hK⟩ := hv
  have hx := B.exec
  have hb := B.bytes
  have hr := B.returns
  have hts : ∀ w ∈ LA, w.before _ s = true := fun w hw => atoms_spec (ws := ws_ yX2_mixedWithShelf cX2_mixedWithShelf 6 (some .long)) B.pre w (List.mem_cons_of_mem _ hw)
  have hown : s.vm.findClass RX2 = some m.cls := findClass_of_methodNamed B.named
  have hlocks := B.notSynchronized
  have hl := lv_entry ([.long p0, .ref (aS a i2)] : List Value) (n := 6) (Nat.le_of_ble_eq_true rfl)
  rw [lg_entry_eq]
  generalize (lg_sl ([.long p0, .ref (aS a i2)] : List Value) ++ List.replicate (6 - (lg_sl ([.long p0, .ref (aS a i2)] : List Value)).length) Slot.unset).toArray = ls at hl ⊢
  have hl : lv_has ls 6 [(0, .long p0), (2, .ref (aS a i2))] := hl
  unfold R_X2_mixedWithShelf at h
  refine lv_lload_n hx hb dX2_mixedWithShelf_0 rfl (lv_at hl 0 rfl) ?_
  refine lv_lstore_n (i := 3) (lv' := [(3, .long p0), (0, .long p0), (2, .ref (aS a i2))]) hx hb dX2_mixedWithShelf_1 rfl hl (by decide) rfl (fun ls hl => ?_)
  refine lv_iconst (v := (0 : Int32)) hx hb dX2_mixedWithShelf_2 (by decide) ?_
  refine lv_istore (i := 5) (lv' := [(5, .int (0 : Int32)), (3, .long p0), (0, .long p0), (2, .ref (aS a i2))]) hx hb dX2_mixedWithShelf_3 hl (by decide) rfl (fun ls hl => ?_)
  have L33 : ∀ (n : Nat) (x3_33 : Int64) (x5_33 : Int32) (ls : Array Slot), lv_has ls 6 [(0, .long p0), (2, .ref (aS a i2)), (3, .long x3_33), (5, .int x5_33)] → R_X2_mixedWithShelf_L33 k i2 n x3_33 x5_33 = some r → W p l e (headSpec (ws_ yX2_mixedWithShelf cX2_mixedWithShelf 6 (some .long)) { frames := 3, cells := 0, slots := 0, locals := 63 }).room s m ([.long p0, .ref (aS a i2)] : List Value).toArray below meth c s.heap [] 0 0 (MQ below (vp_Sl (fun x => x = r)) ([.long p0, .ref (aS a i2)] : List Value).toArray s 0 0 (fun _ => False)) (F0 m 33 ls []) := by
    intro n
    induction n with
    | zero =>
      intro x3_33 x5_33 ls hl h
      exact absurd h (by simp [R_X2_mixedWithShelf_L33])
    | succ n ih =>
      intro x3_33 x5_33 ls hl h
      rw [R_X2_mixedWithShelf_L33] at h
      refine lv_iload hx hb dX2_mixedWithShelf_33 (lv_at hl 3 rfl) ?_
      refine lv_aload_n hx hb dX2_mixedWithShelf_35 rfl (lv_at hl 1 rfl) ?_
      refine va_get (D := D) (ci := 1) (v := .int (kS k 4 i2)) (C := RX1) (T := TX1) (N := 8) hx hb hts iX1 hown hK hP (3 + i2) (KW_S c5 a k hi2) rfl 4 (by decide) (hts _ wT1_36) (fun _ h9 => h9) rfl dX2_mixedWithShelf_36 ?_
      refine lv_icmp_ge (tgt := 67) hx hb dX2_mixedWithShelf_39 (by decide) (fun q => ?_) (fun q => ?_)
      · have h := o_t h q
        refine lv_lload_n hx hb dX2_mixedWithShelf_67 rfl (lv_at hl 2 rfl) ?_
        exact ro_lret hx hb hr hlocks dX2_mixedWithShelf_68 (Option.some.inj h)
      · have h := o_f h q
        refine lv_lload_n hx hb dX2_mixedWithShelf_42 rfl (lv_at hl 2 rfl) ?_
        refine lv_aload_n hx hb dX2_mixedWithShelf_43 rfl (lv_at hl 1 rfl) ?_
        refine lv_iload hx hb dX2_mixedWithShelf_44 (lv_at hl 3 rfl) ?_
        obtain ⟨v46, e46, h⟩ := o_bind h
        refine ro_calli (ro_runV (As := [.int x5_33]) (rest := [.long x3_33]) ⟨hx, hb, hml, hown, hts⟩ hP hK (c_X1_standsOn l D c5 a k hI i2 hi2 x5_33 v46 e46) gG_RX2_95 (va_recv hK hP (ci := 1) (q0 := (3 + i2)) rfl (KW_S c5 a k hi2)) hd_X1_standsOn ⟨Nat.le_of_ble_eq_true rfl, Nat.le_of_ble_eq_true rfl⟩ ⟨rfl, rfl⟩ hl.1 (Nat.le_of_ble_eq_true rfl) dX2_mixedWithShelf_46 ⟨Nat.zero_le _, Nat.zero_le _⟩ rfl) ?_
        refine lv_if_eq (tgt := 56) hx hb dX2_mixedWithShelf_49 (by decide) (fun q => ?_) (fun q => ?_)
        · have h := o_t h q
          refine lv_lconst (v := 0) hx hb dX2_mixedWithShelf_56 (by decide) ?_
          obtain ⟨v57, e57, h⟩ := o_bind h
          refine ro_calll (ro_runS (As := [.long x3_33, .long (0 : Int64)]) (rest := []) ⟨hx, hb, hml, hown, hts⟩ hP hK (c_X2_mixed l D (tyG c5) (KW c5 a k) x3_33 (0 : Int64) v57 e57) gG_RX2_175 hd_X2_mixed ⟨Nat.le_of_ble_eq_true rfl, Nat.le_of_ble_eq_true rfl⟩ ⟨rfl, rfl⟩ hl.1 (Nat.le_of_ble_eq_true rfl) dX2_mixedWithShelf_57 ⟨Nat.zero_le _, Nat.zero_le _⟩ rfl) ?_
          refine lv_lstore_n (i := 3) (lv' := [(3, .long v57), (0, .long p0), (2, .ref (aS a i2)), (5, .int x5_33)]) hx hb dX2_mixedWithShelf_60 rfl hl (by decide) rfl (fun ls hl => ?_)
          refine lv_iinc (v := (x5_33 + (1 : Int32))) (lv' := [(5, .int (x5_33 + (1 : Int32))), (3, .long v57), (0, .long p0), (2, .ref (aS a i2))]) hx hb dX2_mixedWithShelf_61 hl (k := 3) rfl rfl (by decide) rfl (fun ls hl => ?_)
          refine lv_goto (tgt := 33) hx hb dX2_mixedWithShelf_64 (by decide) ?_
          exact ih v57 (x5_33 + (1 : Int32))  ls (lv_sub hl [2, 3, 1, 0] rfl) h
        · have h := o_f h q
          refine lv_lconst (v := 1) hx hb dX2_mixedWithShelf_52 (by decide) ?_
          refine lv_goto (tgt := 57) hx hb dX2_mixedWithShelf_53 (by decide) ?_
          obtain ⟨v57, e57, h⟩ := o_bind h
          refine ro_calll (ro_runS (As := [.long x3_33, .long (1 : Int64)]) (rest := []) ⟨hx, hb, hml, hown, hts⟩ hP hK (c_X2_mixed l D (tyG c5) (KW c5 a k) x3_33 (1 : Int64) v57 e57) gG_RX2_175 hd_X2_mixed ⟨Nat.le_of_ble_eq_true rfl, Nat.le_of_ble_eq_true rfl⟩ ⟨rfl, rfl⟩ hl.1 (Nat.le_of_ble_eq_true rfl) dX2_mixedWithShelf_57 ⟨Nat.zero_le _, Nat.zero_le _⟩ rfl) ?_
          refine lv_lstore_n (i := 3) (lv' := [(3, .long v57), (0, .long p0), (2, .ref (aS a i2)), (5, .int x5_33)]) hx hb dX2_mixedWithShelf_60 rfl hl (by decide) rfl (fun ls hl => ?_)
          refine lv_iinc (v := (x5_33 + (1 : Int32))) (lv' := [(5, .int (x5_33 + (1 : Int32))), (3, .long v57), (0, .long p0), (2, .ref (aS a i2))]) hx hb dX2_mixedWithShelf_61 hl (k := 3) rfl rfl (by decide) rfl (fun ls hl => ?_)
          refine lv_goto (tgt := 33) hx hb dX2_mixedWithShelf_64 (by decide) ?_
          exact ih v57 (x5_33 + (1 : Int32))  ls (lv_sub hl [2, 3, 1, 0] rfl) h
  have L5 : ∀ (n : Nat) (x3_5 : Int64) (x5_5 : Int32) (ls : Array Slot), lv_has ls 6 [(0, .long p0), (2, .ref (aS a i2)), (3, .long x3_5), (5, .int x5_5)] → R_X2_mixedWithShelf_L5 k i2 n x3_5 x5_5 = some r → W p l e (headSpec (ws_ yX2_mixedWithShelf cX2_mixedWithShelf 6 (some .long)) { frames := 3, cells := 0, slots := 0, locals := 63 }).room s m ([.long p0, .ref (aS a i2)] : List Value).toArray below meth c s.heap [] 0 0 (MQ below (vp_Sl (fun x => x = r)) ([.long p0, .ref (aS a i2)] : List Value).toArray s 0 0 (fun _ => False)) (F0 m 5 ls []) := by
    intro n
    induction n with
    | zero =>
      intro x3_5 x5_5 ls hl h
      exact absurd h (by simp [R_X2_mixedWithShelf_L5])
    | succ n ih =>
      intro x3_5 x5_5 ls hl h
      rw [R_X2_mixedWithShelf_L5] at h
      refine lv_iload hx hb dX2_mixedWithShelf_5 (lv_at hl 3 rfl) ?_
      refine lv_bipush (v := (6 : Int32)) hx hb dX2_mixedWithShelf_7 (by decide) ?_
      refine lv_icmp_ge (tgt := 30) hx hb dX2_mixedWithShelf_9 (by decide) (fun q => ?_) (fun q => ?_)
      · have h := o_t h q
        refine lv_iconst (v := (0 : Int32)) hx hb dX2_mixedWithShelf_30 (by decide) ?_
        refine lv_istore (i := 5) (lv' := [(5, .int (0 : Int32)), (0, .long p0), (2, .ref (aS a i2)), (3, .long x3_5)]) hx hb dX2_mixedWithShelf_31 hl (by decide) rfl (fun ls hl => ?_)
        exact L33 FU x3_5 (0 : Int32)  ls (lv_sub hl [1, 2, 3, 0] rfl) h
      · have h := o_f h q
        refine lv_lload_n hx hb dX2_mixedWithShelf_12 rfl (lv_at hl 2 rfl) ?_
        refine lv_aload_n hx hb dX2_mixedWithShelf_13 rfl (lv_at hl 1 rfl) ?_
        refine lv_iload hx hb dX2_mixedWithShelf_14 (lv_at hl 3 rfl) ?_
        obtain ⟨v16, e16, h⟩ := o_bind h
        refine ro_calli (ro_runV (As := [.int x5_5]) (rest := [.long x3_5]) ⟨hx, hb, hml, hown, hts⟩ hP hK (c_X1_answer l D c5 a k hI i2 hi2 x5_5 v16 e16) gG_RX2_124 (va_recv hK hP (ci := 1) (q0 := (3 + i2)) rfl (KW_S c5 a k hi2)) hd_X1_answer ⟨Nat.le_of_ble_eq_true rfl, Nat.le_of_ble_eq_true rfl⟩ ⟨rfl, rfl⟩ hl.1 (Nat.le_of_ble_eq_true rfl) dX2_mixedWithShelf_16 ⟨Nat.zero_le _, Nat.zero_le _⟩ rfl) ?_
        refine lv_i2l (v := v16.toInt64) hx hb dX2_mixedWithShelf_19 rfl ?_
        obtain ⟨v20, e20, h⟩ := o_bind h
        refine ro_calll (ro_runS (As := [.long x3_5, .long v16.toInt64]) (rest := []) ⟨hx, hb, hml, hown, hts⟩ hP hK (c_X2_mixed l D (tyG c5) (KW c5 a k) x3_5 v16.toInt64 v20 e20) gG_RX2_175 hd_X2_mixed ⟨Nat.le_of_ble_eq_true rfl, Nat.le_of_ble_eq_true rfl⟩ ⟨rfl, rfl⟩ hl.1 (Nat.le_of_ble_eq_true rfl) dX2_mixedWithShelf_20 ⟨Nat.zero_le _, Nat.zero_le _⟩ rfl) ?_
        refine lv_lstore_n (i := 3) (lv' := [(3, .long v20), (0, .long p0), (2, .ref (aS a i2)), (5, .int x5_5)]) hx hb dX2_mixedWithShelf_23 rfl hl (by decide) rfl (fun ls hl => ?_)
        refine lv_iinc (v := (x5_5 + (1 : Int32))) (lv' := [(5, .int (x5_5 + (1 : Int32))), (3, .long v20), (0, .long p0), (2, .ref (aS a i2))]) hx hb dX2_mixedWithShelf_24 hl (k := 3) rfl rfl (by decide) rfl (fun ls hl => ?_)
        refine lv_goto (tgt := 5) hx hb dX2_mixedWithShelf_27 (by decide) ?_
        exact ih v20 (x5_5 + (1 : Int32))  ls (lv_sub hl [2, 3, 1, 0] rfl) h
  exact L5 FU p0 (0 : Int32)  ls (lv_sub hl [2, 3, 1, 0] rfl) h
set_option maxHeartbeats 4000000 in
set_option maxRecDepth 100000 in
theorem c_X2_mixedWithKind (l : Launch) (D : va_G) (c5 : Nat → ClassId) (a : KAd) (k : KSt) (hI : KI a) (p1 : Int64) (j3 : Nat) (hj3 : j3 < kN k) (r : Int64) (h : R_X2_mixedWithKind k p1 j3 = some r) : Met l yX2_mixedWithKind (ws_ yX2_mixedWithKind cX2_mixedWithKind 7 (some .long)) { frames := 5, cells := 0, slots := 0, locals := 113 } (va_Pc [.ref (aO a 0), .long p1, .ref (aK a j3)] (roB D (tyG c5) (KW c5 a k))) (vp_Sl (fun x => x = r)) 0 0 (fun _ => False) := by
  refine Met.ofW (cc := cX2_mixedWithKind) (maxL := 7) (ret := (some .long)) (by decide) rfl ?_
  intro p e s m args below meth c s₁ B hml hv
  obtain ⟨rfl, hP, hK⟩ := hv
  have hx := B.exec
  have hb := B.bytes
  have hr := B.returns
  have hts : ∀ w ∈ LA, w.before _ s = true := fun w hw => atoms_spec (ws := ws_ yX2_mixedWithKind cX2_mixedWithKind 7 (some .long)) B.pre w (List.mem_cons_of_mem _ hw)
  have hown : s.vm.findClass RX2 = some m.cls := findClass_of_methodNamed B.named
  have hlocks := B.notSynchronized
  have hl := lv_entry ([.ref (aO a 0), .long p1, .ref (aK a j3)] : List Value) (n := 7) (Nat.le_of_ble_eq_true rfl)
  rw [lg_entry_eq]
  generalize (lg_sl ([.ref (aO a 0), .long p1, .ref (aK a j3)] : List Value) ++ List.replicate (7 - (lg_sl ([.ref (aO a 0), .long p1, .ref (aK a j3)] : List Value)).length) Slot.unset).toArray = ls at hl ⊢
  have hl : lv_has ls 7 [(0, .ref (aO a 0)), (1, .long p1), (3, .ref (aK a j3))] := hl
  unfold R_X2_mixedWithKind at h
  refine lv_lload_n hx hb dX2_mixedWithKind_0 rfl (lv_at hl 1 rfl) ?_
  refine lv_lstore (i := 4) (lv' := [(4, .long p1), (0, .ref (aO a 0)), (1, .long p1), (3, .ref (aK a j3))]) hx hb dX2_mixedWithKind_1 hl (by decide) rfl (fun ls hl => ?_)
  refine lv_iconst (v := (0 : Int32)) hx hb dX2_mixedWithKind_3 (by decide) ?_
  refine lv_istore (i := 6) (lv' := [(6, .int (0 : Int32)), (4, .long p1), (0, .ref (aO a 0)), (1, .long p1), (3, .ref (aK a j3))]) hx hb dX2_mixedWithKind_4 hl (by decide) rfl (fun ls hl => ?_)
  have L6 : ∀ (n : Nat) (x4_6 : Int64) (x6_6 : Int32) (ls : Array Slot), lv_has ls 7 [(0, .ref (aO a 0)), (1, .long p1), (3, .ref (aK a j3)), (4, .long x4_6), (6, .int x6_6)] → R_X2_mixedWithKind_L6 k j3 n x4_6 x6_6 = some r → W p l e (headSpec (ws_ yX2_mixedWithKind cX2_mixedWithKind 7 (some .long)) { frames := 5, cells := 0, slots := 0, locals := 113 }).room s m ([.ref (aO a 0), .long p1, .ref (aK a j3)] : List Value).toArray below meth c s.heap [] 0 0 (MQ below (vp_Sl (fun x => x = r)) ([.ref (aO a 0), .long p1, .ref (aK a j3)] : List Value).toArray s 0 0 (fun _ => False)) (F0 m 6 ls []) := by
    intro n
    induction n with
    | zero =>
      intro x4_6 x6_6 ls hl h
      exact absurd h (by simp [R_X2_mixedWithKind_L6])
    | succ n ih =>
      intro x4_6 x6_6 ls hl h
      rw [R_X2_mixedWithKind_L6] at h
      refine lv_iload hx hb dX2_mixedWithKind_6 (lv_at hl 4 rfl) ?_
      refine lv_bipush (v := (9 : Int32)) hx hb dX2_mixedWithKind_8 (by decide) ?_
      refine lv_icmp_ge (tgt := 34) hx hb dX2_mixedWithKind_10 (by decide) (fun q => ?_) (fun q => ?_)
      · have h := o_t h q
        refine lv_lload hx hb dX2_mixedWithKind_34 (lv_at hl 3 rfl) ?_
        refine lv_aload_n hx hb dX2_mixedWithKind_36 rfl (lv_at hl 0 rfl) ?_
        refine lv_aload_n hx hb dX2_mixedWithKind_37 rfl (lv_at hl 2 rfl) ?_
        obtain ⟨v38, e38, h⟩ := o_bind h
        refine ro_calli (ro_runV (As := [.ref (aK a j3)]) (rest := [.long x4_6]) ⟨hx, hb, hml, hown, hts⟩ hP hK (c_X2_nextSpot l D c5 a k hI j3 hj3 v38 e38) gG_RX2_149 (va_recv hK hP (ci := 2) (q0 := 0) rfl (KW_0 c5 a k)) hd_X2_nextSpot ⟨Nat.le_of_ble_eq_true rfl, Nat.le_of_ble_eq_true rfl⟩ ⟨rfl, rfl⟩ hl.1 (Nat.le_of_ble_eq_true rfl) dX2_mixedWithKind_38 ⟨Nat.zero_le _, Nat.zero_le _⟩ rfl) ?_
        refine lv_i2l (v := v38.toInt64) hx hb dX2_mixedWithKind_41 rfl ?_
        obtain ⟨v42, e42, h⟩ := o_bind h
        refine ro_calll (ro_runS (As := [.long x4_6, .long v38.toInt64]) (rest := []) ⟨hx, hb, hml, hown, hts⟩ hP hK (c_X2_mixed l D (tyG c5) (KW c5 a k) x4_6 v38.toInt64 v42 e42) gG_RX2_175 hd_X2_mixed ⟨Nat.le_of_ble_eq_true rfl, Nat.le_of_ble_eq_true rfl⟩ ⟨rfl, rfl⟩ hl.1 (Nat.le_of_ble_eq_true rfl) dX2_mixedWithKind_42 ⟨Nat.zero_le _, Nat.zero_le _⟩ rfl) ?_
        exact ro_lret hx hb hr hlocks dX2_mixedWithKind_45 (Option.some.inj h)
      · have h := o_f h q
        refine lv_lload hx hb dX2_mixedWithKind_13 (lv_at hl 3 rfl) ?_
        refine lv_aload_n hx hb dX2_mixedWithKind_15 rfl (lv_at hl 0 rfl) ?_
        refine lv_aload_n hx hb dX2_mixedWithKind_16 rfl (lv_at hl 2 rfl) ?_
        refine lv_iload hx hb dX2_mixedWithKind_17 (lv_at hl 4 rfl) ?_
        obtain ⟨v19, e19, h⟩ := o_bind h
        refine ro_calli (ro_runV (As := [.ref (aK a j3), .int x6_6]) (rest := [.long x4_6]) ⟨hx, hb, hml, hown, hts⟩ hP hK (c_X2_answerAbout l D c5 a k hI j3 hj3 x6_6 v19 e19) gG_RX2_127 (va_recv hK hP (ci := 2) (q0 := 0) rfl (KW_0 c5 a k)) hd_X2_answerAbout ⟨Nat.le_of_ble_eq_true rfl, Nat.le_of_ble_eq_true rfl⟩ ⟨rfl, rfl⟩ hl.1 (Nat.le_of_ble_eq_true rfl) dX2_mixedWithKind_19 ⟨Nat.zero_le _, Nat.zero_le _⟩ rfl) ?_
        refine lv_i2l (v := v19.toInt64) hx hb dX2_mixedWithKind_22 rfl ?_
        obtain ⟨v23, e23, h⟩ := o_bind h
        refine ro_calll (ro_runS (As := [.long x4_6, .long v19.toInt64]) (rest := []) ⟨hx, hb, hml, hown, hts⟩ hP hK (c_X2_mixed l D (tyG c5) (KW c5 a k) x4_6 v19.toInt64 v23 e23) gG_RX2_175 hd_X2_mixed ⟨Nat.le_of_ble_eq_true rfl, Nat.le_of_ble_eq_true rfl⟩ ⟨rfl, rfl⟩ hl.1 (Nat.le_of_ble_eq_true rfl) dX2_mixedWithKind_23 ⟨Nat.zero_le _, Nat.zero_le _⟩ rfl) ?_
        refine lv_lstore (i := 4) (lv' := [(4, .long v23), (0, .ref (aO a 0)), (1, .long p1), (3, .ref (aK a j3)), (6, .int x6_6)]) hx hb dX2_mixedWithKind_26 hl (by decide) rfl (fun ls hl => ?_)
        refine lv_iinc (v := (x6_6 + (1 : Int32))) (lv' := [(6, .int (x6_6 + (1 : Int32))), (4, .long v23), (0, .ref (aO a 0)), (1, .long p1), (3, .ref (aK a j3))]) hx hb dX2_mixedWithKind_28 hl (k := 4) rfl rfl (by decide) rfl (fun ls hl => ?_)
        refine lv_goto (tgt := 6) hx hb dX2_mixedWithKind_31 (by decide) ?_
        exact ih v23 (x6_6 + (1 : Int32))  ls (lv_sub hl [2, 3, 4, 1, 0] rfl) h
  exact L6 FU p1 (0 : Int32)  ls (lv_sub hl [2, 3, 4, 1, 0] rfl) h
