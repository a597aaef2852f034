set_option maxHeartbeats 4000000 in
set_option maxRecDepth 100000 in
theorem c_X3_puts (l : Launch) (D : va_G) (c5 : Nat → ClassId) (bo : Nat → Nat) (bv : BV) (zs : SSt) (sz : Nat) (p1 : Int32) (r : Int32 × SSt) (h : R_X3_puts zs p1 = some r) : Met l yX3_puts (ws_ yX3_puts cX3_puts 5 (some .int)) { frames := 2, cells := 2, slots := 27, locals := 48 } (va_Pc [.ref (bo 0), .int p1] (swB D c5 (SW c5 bo bv zs) sz)) (va_Qi (fun x (u : BV × SSt) => x = r.1 ∧ u.2 = r.2) (rwE D (tyG c5) (va_A (SW c5 bo bv zs) sz) (fun u : BV × SSt => SW c5 bo u.1 u.2)) (va_A (SW c5 bo bv zs) sz)) 2 27 (va_A (SW c5 bo bv zs) sz) := by
  refine Met.ofW (cc := cX3_puts) (maxL := 5) (ret := (some .int)) (by decide) rfl ?_
  intro p e s m args below meth c s₁ B hml hv
  obtain ⟨rfl, hsz, hP, hK, hD0, hOI, hOZ⟩ := hv
  have hx := B.exec
  have hb := B.bytes
  have hr := B.returns
  have hts : ∀ w ∈ LA, w.before _ s = true := fun w hw => atoms_spec (ws := ws_ yX3_puts cX3_puts 5 (some .int)) B.pre w (List.mem_cons_of_mem _ hw)
  have hown : s.vm.findClass RX3 = some m.cls := findClass_of_methodNamed B.named
  have hlocks := B.notSynchronized
  subst hsz
  have hD := hD0.self (sz := s.heap.size)
  generalize hAe : va_A (SW c5 bo bv zs) s.heap.size = A at hD ⊢
  have hA : ∀ q : Nat, s.heap.size ≤ q → A q := fun q h => by rw [← hAe]; exact Or.inr h
  have hS : va_S A s.heap s.heap [] := va_S.rf
  have hP := i1_P hP
  have hD := i1_D hD
  have hl := lv_entry ([.ref (bo 0), .int p1] : List Value) (n := 5) (Nat.le_of_ble_eq_true rfl)
  rw [lg_entry_eq]
  generalize (lg_sl ([.ref (bo 0), .int p1] : List Value) ++ List.replicate (5 - (lg_sl ([.ref (bo 0), .int p1] : List Value)).length) Slot.unset).toArray = ls at hl ⊢
  have hl : lv_has ls 5 [(0, .ref (bo 0)), (1, .int p1)] := hl
  unfold R_X3_puts at h
  refine lv_iconst (v := (-1 : Int32)) hx hb dX3_puts_0 (by decide) ?_
  refine lv_istore_n (i := 2) (lv' := [(2, .int (-1 : Int32)), (0, .ref (bo 0)), (1, .int p1)]) hx hb dX3_puts_1 rfl hl (by decide) rfl (fun ls hl => ?_)
  refine lv_bipush (v := (11 : Int32)) hx hb dX3_puts_2 (by decide) ?_
  refine lv_istore_n (i := 3) (lv' := [(3, .int (11 : Int32)), (2, .int (-1 : Int32)), (0, .ref (bo 0)), (1, .int p1)]) hx hb dX3_puts_4 rfl hl (by decide) rfl (fun ls hl => ?_)
  obtain ⟨v5, e5, h⟩ := o_bind h
  have L5 : ∀ (n5 : Nat) (x3_5 : Int32) (x2_5 : Int32) (v9 : Int32 × Int32) (ls : Array Slot), lv_has ls 5 [(3, .int x3_5), (2, .int x2_5), (0, .ref (bo 0)), (1, .int p1)] → R_X3_puts_L5 zs p1 n5 x3_5 x2_5 = some v9 → (∀ (ls : Array Slot), lv_has ls 5 [(3, .int v9.1), (2, .int v9.2), (0, .ref (bo 0)), (1, .int p1)] → W p l e (headSpec (ws_ yX3_puts cX3_puts 5 (some .int)) { frames := 2, cells := 2, slots := 27, locals := 48 }).room s m ([.ref (bo 0), .int p1] : List Value).toArray below meth c s.heap [] (0) (0) (MQ below (va_Qi (fun x (u : BV × SSt) => x = r.1 ∧ u.2 = r.2) (rwE D (tyG c5) (A) (fun u : BV × SSt => SW c5 bo u.1 u.2)) (A)) ([.ref (bo 0), .int p1] : List Value).toArray s 2 27 A) (F0 m 84 ls [])) → W p l e (headSpec (ws_ yX3_puts cX3_puts 5 (some .int)) { frames := 2, cells := 2, slots := 27, locals := 48 }).room s m ([.ref (bo 0), .int p1] : List Value).toArray below meth c s.heap [] (0) (0) (MQ below (va_Qi (fun x (u : BV × SSt) => x = r.1 ∧ u.2 = r.2) (rwE D (tyG c5) (A) (fun u : BV × SSt => SW c5 bo u.1 u.2)) (A)) ([.ref (bo 0), .int p1] : List Value).toArray s 2 27 A) (F0 m 5 ls []) := by
    intro n5
    induction n5 with
    | zero =>
      intro x3_5 x2_5 v9 ls hl h kx
      exact absurd h (by simp [R_X3_puts_L5])
    | succ n5 ih5 =>
      intro x3_5 x2_5 v9 ls hl h kx
      rw [R_X3_puts_L5] at h
      refine lv_iload_n hx hb dX3_puts_5 rfl (lv_at hl 0 rfl) ?_
      refine lv_if_lt (tgt := 84) hx hb dX3_puts_6 (by decide) (fun q => ?_) (fun q => ?_)
      · have h := o_t h q
        obtain rfl := Option.some.inj h
        exact kx ls (lv_sub hl [0, 1, 2, 3] rfl)
      · have h := o_f h q
        refine lv_aload_n hx hb dX3_puts_9 rfl (lv_at hl 2 rfl) ?_
        refine lv_iload_n hx hb dX3_puts_10 rfl (lv_at hl 0 rfl) ?_
        refine lv_iload_n hx hb dX3_puts_11 rfl (lv_at hl 3 rfl) ?_
        obtain ⟨v12, e12, h⟩ := o_bind h
        refine ro_calli (ro_runV (As := [.int x3_5, .int p1]) (rest := []) ⟨hx, hb, hml, hown, hts⟩ (fr_P (X := []) (Y := []) hP) hK (c_X3_isUsed l D c5 bo bv zs x3_5 p1 v12 e12) gG_RX3_49 (va_recv hK hP (ci := 3) (q0 := 0) rfl (ap_l (SW_0 c5 bo bv zs))) hd_X3_isUsed ⟨Nat.le_of_ble_eq_true rfl, Nat.le_of_ble_eq_true rfl⟩ ⟨rfl, rfl⟩ hl.1 (Nat.le_of_ble_eq_true rfl) dX3_puts_12 ⟨show 0 ≤ 2 by omega, show 0 ≤ 27 by omega⟩ rfl) ?_
        refine lv_if_ne (tgt := 21) hx hb dX3_puts_15 (by decide) (fun q => ?_) (fun q => ?_)
        · have h := o_t' h q
          refine lv_iload_n hx hb dX3_puts_21 rfl (lv_at hl 1 rfl) ?_
          obtain ⟨v22, e22, h⟩ := o_bind h
          have tn22 : ∀ (ls : Array Slot), lv_has ls 5 [(3, .int x3_5), (2, .int v22), (0, .ref (bo 0)), (1, .int p1)] → W p l e (headSpec (ws_ yX3_puts cX3_puts 5 (some .int)) { frames := 2, cells := 2, slots := 27, locals := 48 }).room s m ([.ref (bo 0), .int p1] : List Value).toArray below meth c s.heap [] (0) (0) (MQ below (va_Qi (fun x (u : BV × SSt) => x = r.1 ∧ u.2 = r.2) (rwE D (tyG c5) (A) (fun u : BV × SSt => SW c5 bo u.1 u.2)) (A)) ([.ref (bo 0), .int p1] : List Value).toArray s 2 27 A) (F0 m 78 ls []) := by
            intro ls hl
            refine lv_iinc (v := (x3_5 + (-1 : Int32))) (lv' := [(3, .int (x3_5 + (-1 : Int32))), (2, .int v22), (0, .ref (bo 0)), (1, .int p1)]) hx hb dX3_puts_78 hl (k := 0) rfl rfl (by decide) rfl (fun ls hl => ?_)
            refine lv_goto (tgt := 5) hx hb dX3_puts_81 (by decide) ?_
            exact ih5 (x3_5 + (-1 : Int32)) v22 v9 ls (lv_sub hl [0, 1, 2, 3] rfl) h kx
          have h := e22
          refine lv_if_lt (tgt := 32) hx hb dX3_puts_22 (by decide) (fun q => ?_) (fun q => ?_)
          · have h := o_t h q
            refine lv_iconst (v := (0 : Int32)) hx hb dX3_puts_32 (by decide) ?_
            refine lv_goto (tgt := 69) hx hb dX3_puts_33 (by decide) ?_
            refine lv_istore (i := 4) (lv' := [(4, .int (0 : Int32)), (3, .int x3_5), (2, .int x2_5), (0, .ref (bo 0)), (1, .int p1)]) hx hb dX3_puts_69 hl (by decide) rfl (fun ls hl => ?_)
            refine lv_iload hx hb dX3_puts_71 (lv_at hl 0 rfl) ?_
            refine lv_if_lt (tgt := 78) hx hb dX3_puts_73 (by decide) (fun q => ?_) (fun q => ?_)
            · have h := o_t h q
              obtain rfl := Option.some.inj h
              exact tn22 ls (lv_sub hl [1, 2, 3, 4] rfl)
            · have h := o_f h q
              refine lv_iload_n hx hb dX3_puts_76 rfl (lv_at hl 1 rfl) ?_
              refine lv_istore_n (i := 2) (lv' := [(2, .int x3_5), (4, .int (0 : Int32)), (3, .int x3_5), (0, .ref (bo 0)), (1, .int p1)]) hx hb dX3_puts_77 rfl hl (by decide) rfl (fun ls hl => ?_)
              obtain rfl := Option.some.inj h
              exact tn22 ls (lv_sub hl [2, 0, 3, 4] rfl)
          · have h := o_f h q
            refine lv_aload_n hx hb dX3_puts_25 rfl (lv_at hl 2 rfl) ?_
            refine va_get (D := D) (ci := 3) (v := .int (zF zs 1)) (C := RX3) (T := TX3) (N := 7) hx hb hts iX3 hown hK hP 0 (ap_l (SW_0 c5 bo bv zs)) rfl 1 (by decide) (hts _ wT3_13) (fun _ h9 => h9) rfl dX3_puts_26 ?_
            refine lv_if_ne (tgt := 36) hx hb dX3_puts_29 (by decide) (fun q => ?_) (fun q => ?_)
            · have h := o_t' h q
              refine lv_aload_n hx hb dX3_puts_36 rfl (lv_at hl 2 rfl) ?_
              refine va_get (D := D) (ci := 3) (v := .int (zF zs 1)) (C := RX3) (T := TX3) (N := 7) hx hb hts iX3 hown hK hP 0 (ap_l (SW_0 c5 bo bv zs)) rfl 1 (by decide) (hts _ wT3_13) (fun _ h9 => h9) rfl dX3_puts_37 ?_
              refine lv_iconst (v := (1 : Int32)) hx hb dX3_puts_40 (by decide) ?_
              refine lv_icmp_ne (tgt := 58) hx hb dX3_puts_41 (by decide) (fun q => ?_) (fun q => ?_)
              · have h := o_t' h q
                refine lv_aload_n hx hb dX3_puts_58 rfl (lv_at hl 2 rfl) ?_
                refine lv_iload_n hx hb dX3_puts_59 rfl (lv_at hl 1 rfl) ?_
                obtain ⟨v60, e60, h⟩ := o_bind h
                refine ro_calli (ro_runV (As := [.int x2_5]) (rest := []) ⟨hx, hb, hml, hown, hts⟩ (fr_P (X := []) (Y := []) hP) hK (c_X3_many l D c5 bo bv zs x2_5 v60 e60) gG_RX3_45 (va_recv hK hP (ci := 3) (q0 := 0) rfl (ap_l (SW_0 c5 bo bv zs))) hd_X3_many ⟨Nat.le_of_ble_eq_true rfl, Nat.le_of_ble_eq_true rfl⟩ ⟨rfl, rfl⟩ hl.1 (Nat.le_of_ble_eq_true rfl) dX3_puts_60 ⟨show 0 ≤ 2 by omega, show 0 ≤ 27 by omega⟩ rfl) ?_
                refine lv_aload_n hx hb dX3_puts_63 rfl (lv_at hl 2 rfl) ?_
                refine lv_iload_n hx hb dX3_puts_64 rfl (lv_at hl 0 rfl) ?_
                obtain ⟨v65, e65, h⟩ := o_bind h
                refine ro_calli (ro_runV (As := [.int x3_5]) (rest := [.int v60]) ⟨hx, hb, hml, hown, hts⟩ (fr_P (X := []) (Y := []) hP) hK (c_X3_many l D c5 bo bv zs x3_5 v65 e65) gG_RX3_45 (va_recv hK hP (ci := 3) (q0 := 0) rfl (ap_l (SW_0 c5 bo bv zs))) hd_X3_many ⟨Nat.le_of_ble_eq_true rfl, Nat.le_of_ble_eq_true rfl⟩ ⟨rfl, rfl⟩ hl.1 (Nat.le_of_ble_eq_true rfl) dX3_puts_65 ⟨show 0 ≤ 2 by omega, show 0 ≤ 27 by omega⟩ rfl) ?_
                refine lv_isub hx hb dX3_puts_68 ?_
                refine lv_istore (i := 4) (lv' := [(4, .int (v60 - v65)), (3, .int x3_5), (2, .int x2_5), (0, .ref (bo 0)), (1, .int p1)]) hx hb dX3_puts_69 hl (by decide) rfl (fun ls hl => ?_)
                refine lv_iload hx hb dX3_puts_71 (lv_at hl 0 rfl) ?_
                refine lv_if_lt (tgt := 78) hx hb dX3_puts_73 (by decide) (fun q => ?_) (fun q => ?_)
                · have h := o_t h q
                  obtain rfl := Option.some.inj h
                  exact tn22 ls (lv_sub hl [1, 2, 3, 4] rfl)
                · have h := o_f h q
                  refine lv_iload_n hx hb dX3_puts_76 rfl (lv_at hl 1 rfl) ?_
                  refine lv_istore_n (i := 2) (lv' := [(2, .int x3_5), (4, .int (v60 - v65)), (3, .int x3_5), (0, .ref (bo 0)), (1, .int p1)]) hx hb dX3_puts_77 rfl hl (by decide) rfl (fun ls hl => ?_)
                  obtain rfl := Option.some.inj h
                  exact tn22 ls (lv_sub hl [2, 0, 3, 4] rfl)
              · have h := o_f' h q
                refine lv_aload_n hx hb dX3_puts_44 rfl (lv_at hl 2 rfl) ?_
                refine lv_iload_n hx hb dX3_puts_45 rfl (lv_at hl 0 rfl) ?_
                obtain ⟨v46, e46, h⟩ := o_bind h
                refine ro_calli (ro_runV (As := [.int x3_5]) (rest := []) ⟨hx, hb, hml, hown, hts⟩ (fr_P (X := []) (Y := []) hP) hK (c_X3_many l D c5 bo bv zs x3_5 v46 e46) gG_RX3_45 (va_recv hK hP (ci := 3) (q0 := 0) rfl (ap_l (SW_0 c5 bo bv zs))) hd_X3_many ⟨Nat.le_of_ble_eq_true rfl, Nat.le_of_ble_eq_true rfl⟩ ⟨rfl, rfl⟩ hl.1 (Nat.le_of_ble_eq_true rfl) dX3_puts_46 ⟨show 0 ≤ 2 by omega, show 0 ≤ 27 by omega⟩ rfl) ?_
                refine lv_aload_n hx hb dX3_puts_49 rfl (lv_at hl 2 rfl) ?_
                refine lv_iload_n hx hb dX3_puts_50 rfl (lv_at hl 1 rfl) ?_
                obtain ⟨v51, e51, h⟩ := o_bind h
                refine ro_calli (ro_runV (As := [.int x2_5]) (rest := [.int v46]) ⟨hx, hb, hml, hown, hts⟩ (fr_P (X := []) (Y := []) hP) hK (c_X3_many l D c5 bo bv zs x2_5 v51 e51) gG_RX3_45 (va_recv hK hP (ci := 3) (q0 := 0) rfl (ap_l (SW_0 c5 bo bv zs))) hd_X3_many ⟨Nat.le_of_ble_eq_true rfl, Nat.le_of_ble_eq_true rfl⟩ ⟨rfl, rfl⟩ hl.1 (Nat.le_of_ble_eq_true rfl) dX3_puts_51 ⟨show 0 ≤ 2 by omega, show 0 ≤ 27 by omega⟩ rfl) ?_
                refine lv_isub hx hb dX3_puts_54 ?_
                refine lv_goto (tgt := 69) hx hb dX3_puts_55 (by decide) ?_
                refine lv_istore (i := 4) (lv' := [(4, .int (v46 - v51)), (3, .int x3_5), (2, .int x2_5), (0, .ref (bo 0)), (1, .int p1)]) hx hb dX3_puts_69 hl (by decide) rfl (fun ls hl => ?_)
                refine lv_iload hx hb dX3_puts_71 (lv_at hl 0 rfl) ?_
                refine lv_if_lt (tgt := 78) hx hb dX3_puts_73 (by decide) (fun q => ?_) (fun q => ?_)
                · have h := o_t h q
                  obtain rfl := Option.some.inj h
                  exact tn22 ls (lv_sub hl [1, 2, 3, 4] rfl)
                · have h := o_f h q
                  refine lv_iload_n hx hb dX3_puts_76 rfl (lv_at hl 1 rfl) ?_
                  refine lv_istore_n (i := 2) (lv' := [(2, .int x3_5), (4, .int (v46 - v51)), (3, .int x3_5), (0, .ref (bo 0)), (1, .int p1)]) hx hb dX3_puts_77 rfl hl (by decide) rfl (fun ls hl => ?_)
                  obtain rfl := Option.some.inj h
                  exact tn22 ls (lv_sub hl [2, 0, 3, 4] rfl)
            · have h := o_f' h q
              refine lv_iconst (v := (0 : Int32)) hx hb dX3_puts_32 (by decide) ?_
              refine lv_goto (tgt := 69) hx hb dX3_puts_33 (by decide) ?_
              refine lv_istore (i := 4) (lv' := [(4, .int (0 : Int32)), (3, .int x3_5), (2, .int x2_5), (0, .ref (bo 0)), (1, .int p1)]) hx hb dX3_puts_69 hl (by decide) rfl (fun ls hl => ?_)
              refine lv_iload hx hb dX3_puts_71 (lv_at hl 0 rfl) ?_
              refine lv_if_lt (tgt := 78) hx hb dX3_puts_73 (by decide) (fun q => ?_) (fun q => ?_)
              · have h := o_t h q
                obtain rfl := Option.some.inj h
                exact tn22 ls (lv_sub hl [1, 2, 3, 4] rfl)
              · have h := o_f h q
                refine lv_iload_n hx hb dX3_puts_76 rfl (lv_at hl 1 rfl) ?_
                refine lv_istore_n (i := 2) (lv' := [(2, .int x3_5), (4, .int (0 : Int32)), (3, .int x3_5), (0, .ref (bo 0)), (1, .int p1)]) hx hb dX3_puts_77 rfl hl (by decide) rfl (fun ls hl => ?_)
                obtain rfl := Option.some.inj h
                exact tn22 ls (lv_sub hl [2, 0, 3, 4] rfl)
        · have h := o_f' h q
          refine lv_goto (tgt := 78) hx hb dX3_puts_18 (by decide) ?_
          refine lv_iinc (v := (x3_5 + (-1 : Int32))) (lv' := [(3, .int (x3_5 + (-1 : Int32))), (2, .int x2_5), (0, .ref (bo 0)), (1, .int p1)]) hx hb dX3_puts_78 hl (k := 0) rfl rfl (by decide) rfl (fun ls hl => ?_)
          refine lv_goto (tgt := 5) hx hb dX3_puts_81 (by decide) ?_
          exact ih5 (x3_5 + (-1 : Int32)) x2_5 v9 ls (lv_sub hl [0, 1, 2, 3] rfl) h kx
  refine L5 FU (11 : Int32) (-1 : Int32) v5 ls (lv_sub hl [0, 1, 2, 3] rfl) e5 (fun ls hl => ?_)
  refine lv_bipush (v := (11 : Int32)) hx hb dX3_puts_84 (by decide) ?_
  refine lv_istore_n (i := 3) (lv' := [(3, .int (11 : Int32)), (2, .int v5.2), (0, .ref (bo 0)), (1, .int p1)]) hx hb dX3_puts_86 rfl hl (by decide) rfl (fun ls hl => ?_)
  obtain ⟨v87, e87, h⟩ := o_bind h
  have L87 : ∀ (n87 : Nat) (x3_87 : Int32) (x2_87 : Int32) (v9 : Int32 × Int32) (ls : Array Slot), lv_has ls 5 [(3, .int x3_87), (2, .int x2_87), (0, .ref (bo 0)), (1, .int p1)] → R_X3_puts_L87 zs p1 n87 x3_87 x2_87 = some v9 → (∀ (ls : Array Slot), lv_has ls 5 [(3, .int v9.1), (2, .int v9.2), (0, .ref (bo 0)), (1, .int p1)] → W p l e (headSpec (ws_ yX3_puts cX3_puts 5 (some .int)) { frames := 2, cells := 2, slots := 27, locals := 48 }).room s m ([.ref (bo 0), .int p1] : List Value).toArray below meth c s.heap [] (0) (0) (MQ below (va_Qi (fun x (u : BV × SSt) => x = r.1 ∧ u.2 = r.2) (rwE D (tyG c5) (A) (fun u : BV × SSt => SW c5 bo u.1 u.2)) (A)) ([.ref (bo 0), .int p1] : List Value).toArray s 2 27 A) (F0 m 120 ls [])) → W p l e (headSpec (ws_ yX3_puts cX3_puts 5 (some .int)) { frames := 2, cells := 2, slots := 27, locals := 48 }).room s m ([.ref (bo 0), .int p1] : List Value).toArray below meth c s.heap [] (0) (0) (MQ below (va_Qi (fun x (u : BV × SSt) => x = r.1 ∧ u.2 = r.2) (rwE D (tyG c5) (A) (fun u : BV × SSt => SW c5 bo u.1 u.2)) (A)) ([.ref (bo 0), .int p1] : List Value).toArray s 2 27 A) (F0 m 87 ls []) := by
    intro n87
    induction n87 with
    | zero =>
      intro x3_87 x2_87 v9 ls hl h kx
      exact absurd h (by simp [R_X3_puts_L87])
    | succ n87 ih87 =>
      intro x3_87 x2_87 v9 ls hl h kx
      rw [R_X3_puts_L87] at h
      refine lv_iload_n hx hb dX3_puts_87 rfl (lv_at hl 0 rfl) ?_
      refine lv_if_lt (tgt := 120) hx hb dX3_puts_88 (by decide) (fun q => ?_) (fun q => ?_)
      · have h := o_t h q
        obtain rfl := Option.some.inj h
        exact kx ls (lv_sub hl [0, 1, 2, 3] rfl)
      · have h := o_f h q
        obtain ⟨v91, e91, h⟩ := o_bind h
        have tn91 : ∀ (ls : Array Slot), lv_has ls 5 [(3, .int x3_87), (2, .int v91), (0, .ref (bo 0)), (1, .int p1)] → W p l e (headSpec (ws_ yX3_puts cX3_puts 5 (some .int)) { frames := 2, cells := 2, slots := 27, locals := 48 }).room s m ([.ref (bo 0), .int p1] : List Value).toArray below meth c s.heap [] (0) (0) (MQ below (va_Qi (fun x (u : BV × SSt) => x = r.1 ∧ u.2 = r.2) (rwE D (tyG c5) (A) (fun u : BV × SSt => SW c5 bo u.1 u.2)) (A)) ([.ref (bo 0), .int p1] : List Value).toArray s 2 27 A) (F0 m 114 ls []) := by
          intro ls hl
          refine lv_iinc (v := (x3_87 + (-1 : Int32))) (lv' := [(3, .int (x3_87 + (-1 : Int32))), (2, .int v91), (0, .ref (bo 0)), (1, .int p1)]) hx hb dX3_puts_114 hl (k := 0) rfl rfl (by decide) rfl (fun ls hl => ?_)
          refine lv_goto (tgt := 87) hx hb dX3_puts_117 (by decide) ?_
          exact ih87 (x3_87 + (-1 : Int32)) v91 v9 ls (lv_sub hl [0, 1, 2, 3] rfl) h kx
        have h := e91
        refine lv_iload_n hx hb dX3_puts_91 rfl (lv_at hl 1 rfl) ?_
        refine lv_if_lt (tgt := 103) hx hb dX3_puts_92 (by decide) (fun q => ?_) (fun q => ?_)
        · have h := o_t h q
          refine lv_aload_n hx hb dX3_puts_103 rfl (lv_at hl 2 rfl) ?_
          refine lv_iload_n hx hb dX3_puts_104 rfl (lv_at hl 0 rfl) ?_
          refine lv_iload_n hx hb dX3_puts_105 rfl (lv_at hl 3 rfl) ?_
          obtain ⟨v106, e106, h⟩ := o_bind h
          refine ro_calli (ro_runV (As := [.int x3_87, .int p1]) (rest := []) ⟨hx, hb, hml, hown, hts⟩ (fr_P (X := []) (Y := []) hP) hK (c_X3_isEmpty l D c5 bo bv zs x3_87 p1 v106 e106) gG_RX3_53 (va_recv hK hP (ci := 3) (q0 := 0) rfl (ap_l (SW_0 c5 bo bv zs))) hd_X3_isEmpty ⟨Nat.le_of_ble_eq_true rfl, Nat.le_of_ble_eq_true rfl⟩ ⟨rfl, rfl⟩ hl.1 (Nat.le_of_ble_eq_true rfl) dX3_puts_106 ⟨show 0 ≤ 2 by omega, show 0 ≤ 27 by omega⟩ rfl) ?_
          refine lv_if_eq (tgt := 114) hx hb dX3_puts_109 (by decide) (fun q => ?_) (fun q => ?_)
          · have h := o_t h q
            obtain rfl := Option.some.inj h
            exact tn91 ls (lv_sub hl [0, 1, 2, 3] rfl)
          · have h := o_f h q
            refine lv_iload_n hx hb dX3_puts_112 rfl (lv_at hl 0 rfl) ?_
            refine lv_istore_n (i := 2) (lv' := [(2, .int x3_87), (3, .int x3_87), (0, .ref (bo 0)), (1, .int p1)]) hx hb dX3_puts_113 rfl hl (by decide) rfl (fun ls hl => ?_)
            obtain rfl := Option.some.inj h
            exact tn91 ls (lv_sub hl [1, 0, 2, 3] rfl)
        · have h := o_f h q
          refine lv_aload_n hx hb dX3_puts_95 rfl (lv_at hl 2 rfl) ?_
          refine lv_iload_n hx hb dX3_puts_96 rfl (lv_at hl 1 rfl) ?_
          obtain ⟨v97, e97, h⟩ := o_bind h
          refine ro_calli (ro_runV (As := [.int x2_87]) (rest := []) ⟨hx, hb, hml, hown, hts⟩ (fr_P (X := []) (Y := []) hP) hK (c_X3_many l D c5 bo bv zs x2_87 v97 e97) gG_RX3_45 (va_recv hK hP (ci := 3) (q0 := 0) rfl (ap_l (SW_0 c5 bo bv zs))) hd_X3_many ⟨Nat.le_of_ble_eq_true rfl, Nat.le_of_ble_eq_true rfl⟩ ⟨rfl, rfl⟩ hl.1 (Nat.le_of_ble_eq_true rfl) dX3_puts_97 ⟨show 0 ≤ 2 by omega, show 0 ≤ 27 by omega⟩ rfl) ?_
          refine lv_if_ne (tgt := 114) hx hb dX3_puts_100 (by decide) (fun q => ?_) (fun q => ?_)
          · have h := o_t' h q
            obtain rfl := Option.some.inj h
            exact tn91 ls (lv_sub hl [0, 1, 2, 3] rfl)
          · have h := o_f' h q
            refine lv_aload_n hx hb dX3_puts_103 rfl (lv_at hl 2 rfl) ?_
            refine lv_iload_n hx hb dX3_puts_104 rfl (lv_at hl 0 rfl) ?_
            refine lv_iload_n hx hb dX3_puts_105 rfl (lv_at hl 3 rfl) ?_
            obtain ⟨v106, e106, h⟩ := o_bind h
            refine ro_calli (ro_runV (As := [.int x3_87, .int p1]) (rest := []) ⟨hx, hb, hml, hown, hts⟩ (fr_P (X := []) (Y := []) hP) hK (c_X3_isEmpty l D c5 bo bv zs x3_87 p1 v106 e106) gG_RX3_53 (va_recv hK hP (ci := 3) (q0 := 0) rfl (ap_l (SW_0 c5 bo bv zs))) hd_X3_isEmpty ⟨Nat.le_of_ble_eq_true rfl, Nat.le_of_ble_eq_true rfl⟩ ⟨rfl, rfl⟩ hl.1 (Nat.le_of_ble_eq_true rfl) dX3_puts_106 ⟨show 0 ≤ 2 by omega, show 0 ≤ 27 by omega⟩ rfl) ?_
            refine lv_if_eq (tgt := 114) hx hb dX3_puts_109 (by decide) (fun q => ?_) (fun q => ?_)
            · have h := o_t h q
              obtain rfl := Option.some.inj h
              exact tn91 ls (lv_sub hl [0, 1, 2, 3] rfl)
            · have h := o_f h q
              refine lv_iload_n hx hb dX3_puts_112 rfl (lv_at hl 0 rfl) ?_
              refine lv_istore_n (i := 2) (lv' := [(2, .int x3_87), (3, .int x3_87), (0, .ref (bo 0)), (1, .int p1)]) hx hb dX3_puts_113 rfl hl (by decide) rfl (fun ls hl => ?_)
              obtain rfl := Option.some.inj h
              exact tn91 ls (lv_sub hl [1, 0, 2, 3] rfl)
  refine L87 FU (11 : Int32) v5.2 v87 ls (lv_sub hl [0, 1, 2, 3] rfl) e87 (fun ls hl => ?_)
  refine lv_iload_n hx hb dX3_puts_120 rfl (lv_at hl 1 rfl) ?_
  refine lv_if_ge (tgt := 224) hx hb dX3_puts_121 (by decide) (fun q => ?_) (fun q => ?_)
  · have h := o_t h q
    refine lv_aload_n hx hb dX3_puts_224 rfl (lv_at hl 2 rfl) ?_
    refine lv_iload_n hx hb dX3_puts_225 rfl (lv_at hl 1 rfl) ?_
    obtain ⟨v226, e226, h⟩ := o_bind h
    refine ro_calli (ro_runV (As := [.int v87.2]) (rest := []) ⟨hx, hb, hml, hown, hts⟩ (fr_P (X := []) (Y := []) hP) hK (c_X3_hole l D c5 bo bv zs v87.2 v226 e226) gG_RX3_56 (va_recv hK hP (ci := 3) (q0 := 0) rfl (ap_l (SW_0 c5 bo bv zs))) hd_X3_hole ⟨Nat.le_of_ble_eq_true rfl, Nat.le_of_ble_eq_true rfl⟩ ⟨rfl, rfl⟩ hl.1 (Nat.le_of_ble_eq_true rfl) dX3_puts_226 ⟨show 0 ≤ 2 by omega, show 0 ≤ 27 by omega⟩ rfl) ?_
    refine lv_istore_n (i := 3) (lv' := [(3, .int v226), (2, .int v87.2), (0, .ref (bo 0)), (1, .int p1)]) hx hb dX3_puts_229 rfl hl (by decide) rfl (fun ls hl => ?_)
    refine lv_aload_n hx hb dX3_puts_230 rfl (lv_at hl 2 rfl) ?_
    refine va_get (D := D) (ci := 3) (v := .ref (bo 3)) (C := RX3) (T := TX3) (N := 7) hx hb hts iX3 hown hK hP 0 (ap_l (SW_0 c5 bo bv zs)) rfl 6 (by decide) (hts _ wT3_19) (fun _ h9 => h9) rfl dX3_puts_231 ?_
    refine lv_iload_n hx hb dX3_puts_234 rfl (lv_at hl 1 rfl) ?_
    obtain ⟨g235, h⟩ := o_if h
    refine ar_ld hx hb hK hP 3 5 (ap_l (SW_3 c5 bo bv zs)) rfl (inb_in g235) rfl dX3_puts_235 ?_
    refine lv_iload_n hx hb dX3_puts_236 rfl (lv_at hl 0 rfl) ?_
    refine lv_iconst (v := (1 : Int32)) hx hb dX3_puts_237 (by decide) ?_
    obtain ⟨g238, h⟩ := o_if h
    obtain ⟨z238, ez238, h⟩ := o_bind h
    refine va_zast hx hb hK hP hD hS (16 + (v87.2.toNatClampNeg)) 2 (ap_l (SW_B c5 bo bv zs (inb_lt g235))) rfl (inb_in g238) dX3_puts_238 (fun H locs hP hD hS => ?_)
    have hP := wP (ap_sl (SW_B c5 bo bv zs (inb_lt g235)) (SW_setB c5 bo bv zs (inb_lt g235) _)) hP
    have hD := wD (ap_sl (SW_B c5 bo bv zs (inb_lt g235)) (SW_setB c5 bo bv zs (inb_lt g235) _)) hD
    have hP := wP (congrArg (fun y9 => SW c5 bo bv y9 ++ ([] : va_W)) (Option.some.inj ez238)) hP
    have hD := wD (congrArg (fun y9 => SW c5 bo bv y9 ++ ([] : va_W)) (Option.some.inj ez238)) hD
    refine lv_aload_n hx hb dX3_puts_239 rfl (lv_at hl 2 rfl) ?_
    refine va_get (D := D) (ci := 3) (v := .ref (bo 2)) (C := RX3) (T := TX3) (N := 7) hx hb hts iX3 hown hK hP 0 (ap_l (SW_0 c5 bo bv z238)) rfl 5 (by decide) (hts _ wT3_18) (fun _ h9 => h9) rfl dX3_puts_240 ?_
    refine lv_iload_n hx hb dX3_puts_243 rfl (lv_at hl 1 rfl) ?_
    obtain ⟨g244, h⟩ := o_if h
    refine ar_ld hx hb hK hP 2 4 (ap_l (SW_2 c5 bo bv z238)) rfl (inb_in g244) rfl dX3_puts_244 ?_
    refine lv_iconst (v := (2 : Int32)) hx hb dX3_puts_245 (by decide) ?_
    refine lv_iconst (v := (-1 : Int32)) hx hb dX3_puts_246 (by decide) ?_
    obtain ⟨g247, h⟩ := o_if h
    obtain ⟨z247, ez247, h⟩ := o_bind h
    refine va_iast hx hb hK hP hD hS (4 + (v87.2.toNatClampNeg)) 3 (ap_l (SW_H c5 bo bv z238 (inb_lt g244))) rfl (inb_in g247) dX3_puts_247 (fun H locs hP hD hS => ?_)
    have hP := wP (ap_sl (SW_H c5 bo bv z238 (inb_lt g244)) (SW_setH c5 bo bv z238 (inb_lt g244) _)) hP
    have hD := wD (ap_sl (SW_H c5 bo bv z238 (inb_lt g244)) (SW_setH c5 bo bv z238 (inb_lt g244) _)) hD
    have hP := wP (congrArg (fun y9 => SW c5 bo bv y9 ++ ([] : va_W)) (Option.some.inj ez247)) hP
    have hD := wD (congrArg (fun y9 => SW c5 bo bv y9 ++ ([] : va_W)) (Option.some.inj ez247)) hD
    refine lv_aload_n hx hb dX3_puts_248 rfl (lv_at hl 2 rfl) ?_
    refine lv_dup hx hb dX3_puts_249 rfl ?_
    refine va_get (D := D) (ci := 3) (v := .int (zF z247 0)) (C := RX3) (T := TX3) (N := 7) hx hb hts iX3 hown hK hP 0 (ap_l (SW_0 c5 bo bv z247)) rfl 0 (by decide) (hts _ wT3_11) (fun _ h9 => h9) rfl dX3_puts_250 ?_
    refine lv_iconst (v := (1 : Int32)) hx hb dX3_puts_253 (by decide) ?_
    refine lv_iadd hx hb dX3_puts_254 ?_
    obtain ⟨z255, ez255, h⟩ := o_bind h
    refine va_put (D := D) (ci := 3) (v := .int ((zF z247 0) + (1 : Int32))) (ty := .int) (C := RX3) (T := TX3) (N := 7) hx hb hts iX3 tyX3 tyX3_ok nmX3 hown hK hP hD hS 0 (ap_l (SW_0 c5 bo bv z247)) rfl 0 (by decide) (hts _ wT3_11) (fun _ h9 => h9) rfl (by decide +kernel) rfl rfl (Nat.le_of_ble_eq_true rfl) dX3_puts_255 (fun H locs hP hD hS => ?_)
    have hP := wP (ap_sl (SW_0 c5 bo bv z247) (SW_setF c5 bo bv z247 0 (by decide) _)) hP
    have hD := wD (ap_sl (SW_0 c5 bo bv z247) (SW_setF c5 bo bv z247 0 (by decide) _)) hD
    have hP := wP (congrArg (fun y9 => SW c5 bo bv y9 ++ ([] : va_W)) (Option.some.inj ez255)) hP
    have hD := wD (congrArg (fun y9 => SW c5 bo bv y9 ++ ([] : va_W)) (Option.some.inj ez255)) hD
    refine lv_aload_n hx hb dX3_puts_258 rfl (lv_at hl 2 rfl) ?_
    refine lv_dup hx hb dX3_puts_259 rfl ?_
    refine va_get (D := D) (ci := 3) (v := .int (zF z255 2)) (C := RX3) (T := TX3) (N := 7) hx hb hts iX3 hown hK hP 0 (ap_l (SW_0 c5 bo bv z255)) rfl 2 (by decide) (hts _ wT3_14) (fun _ h9 => h9) rfl dX3_puts_260 ?_
    refine lv_iconst (v := (1 : Int32)) hx hb dX3_puts_263 (by decide) ?_
    refine lv_iadd hx hb dX3_puts_264 ?_
    obtain ⟨z265, ez265, h⟩ := o_bind h
    refine va_put (D := D) (ci := 3) (v := .int ((zF z255 2) + (1 : Int32))) (ty := .int) (C := RX3) (T := TX3) (N := 7) hx hb hts iX3 tyX3 tyX3_ok nmX3 hown hK hP hD hS 0 (ap_l (SW_0 c5 bo bv z255)) rfl 2 (by decide) (hts _ wT3_14) (fun _ h9 => h9) rfl (by decide +kernel) rfl rfl (Nat.le_of_ble_eq_true rfl) dX3_puts_265 (fun H locs hP hD hS => ?_)
    have hP := wP (ap_sl (SW_0 c5 bo bv z255) (SW_setF c5 bo bv z255 2 (by decide) _)) hP
    have hD := wD (ap_sl (SW_0 c5 bo bv z255) (SW_setF c5 bo bv z255 2 (by decide) _)) hD
    have hP := wP (congrArg (fun y9 => SW c5 bo bv y9 ++ ([] : va_W)) (Option.some.inj ez265)) hP
    have hD := wD (congrArg (fun y9 => SW c5 bo bv y9 ++ ([] : va_W)) (Option.some.inj ez265)) hD
    refine lv_aload_n hx hb dX3_puts_268 rfl (lv_at hl 2 rfl) ?_
    refine lv_iload_n hx hb dX3_puts_269 rfl (lv_at hl 1 rfl) ?_
    refine lv_iload_n hx hb dX3_puts_270 rfl (lv_at hl 0 rfl) ?_
    obtain ⟨v271, e271, h⟩ := o_bind h
    refine ro_calli (ro_runV (As := [.int v87.2, .int v226]) (rest := []) ⟨hx, hb, hml, hown, hts⟩ (fr_P (X := []) (Y := []) hP) hK (c_X3_spot l D c5 bo bv z265 v87.2 v226 v271 e271) gG_RX3_59 (va_recv hK hP (ci := 3) (q0 := 0) rfl (ap_l (SW_0 c5 bo bv z265))) hd_X3_spot ⟨Nat.le_of_ble_eq_true rfl, Nat.le_of_ble_eq_true rfl⟩ ⟨rfl, rfl⟩ hl.1 (Nat.le_of_ble_eq_true rfl) dX3_puts_271 ⟨show 0 ≤ 2 by omega, show 0 ≤ 27 by omega⟩ rfl) ?_
    obtain rfl := Option.some.inj h
    have hP := e0_P hP
    have hD := e0_D hD
    refine W.widen (k := 2) (n := 27) (by omega) (by omega) ?_
    exact W.iret hx hb hr (fun t ht hW => ⟨⟨_, (bv, z265), rfl, ⟨rfl, rfl⟩, by rw [ht]; exact hP, va_K.moved hW.alike hK, hD⟩, hS.F ht⟩) hS.2.2 dX3_puts_274 hlocks
  · have h := o_f h q
    refine lv_iconst (v := (0 : Int32)) hx hb dX3_puts_124 (by decide) ?_
    refine lv_istore_n (i := 2) (lv' := [(2, .int (0 : Int32)), (3, .int v87.1), (0, .ref (bo 0)), (1, .int p1)]) hx hb dX3_puts_125 rfl hl (by decide) rfl (fun ls hl => ?_)
    obtain ⟨v126, e126, h⟩ := o_bind h
    have L126 : ∀ (n126 : Nat) (x2_126 : Int32) (v9 : Int32) (ls : Array Slot), lv_has ls 5 [(2, .int x2_126), (3, .int v87.1), (0, .ref (bo 0)), (1, .int p1)] → R_X3_puts_L126 zs n126 x2_126 = some v9 → (∀ (ls : Array Slot), lv_has ls 5 [(2, .int v9), (3, .int v87.1), (0, .ref (bo 0)), (1, .int p1)] → W p l e (headSpec (ws_ yX3_puts cX3_puts 5 (some .int)) { frames := 2, cells := 2, slots := 27, locals := 48 }).room s m ([.ref (bo 0), .int p1] : List Value).toArray below meth c s.heap [] (0) (0) (MQ below (va_Qi (fun x (u : BV × SSt) => x = r.1 ∧ u.2 = r.2) (rwE D (tyG c5) (A) (fun u : BV × SSt => SW c5 bo u.1 u.2)) (A)) ([.ref (bo 0), .int p1] : List Value).toArray s 2 27 A) (F0 m 149 ls [])) → W p l e (headSpec (ws_ yX3_puts cX3_puts 5 (some .int)) { frames := 2, cells := 2, slots := 27, locals := 48 }).room s m ([.ref (bo 0), .int p1] : List Value).toArray below meth c s.heap [] (0) (0) (MQ below (va_Qi (fun x (u : BV × SSt) => x = r.1 ∧ u.2 = r.2) (rwE D (tyG c5) (A) (fun u : BV × SSt => SW c5 bo u.1 u.2)) (A)) ([.ref (bo 0), .int p1] : List Value).toArray s 2 27 A) (F0 m 126 ls []) := by
      intro n126
      induction n126 with
      | zero =>
        intro x2_126 v9 ls hl h kx
        exact absurd h (by simp [R_X3_puts_L126])
      | succ n126 ih126 =>
        intro x2_126 v9 ls hl h kx
        rw [R_X3_puts_L126] at h
        refine lv_iload_n hx hb dX3_puts_126 rfl (lv_at hl 0 rfl) ?_
        refine lv_bipush (v := (12 : Int32)) hx hb dX3_puts_127 (by decide) ?_
        refine lv_icmp_ge (tgt := 149) hx hb dX3_puts_129 (by decide) (fun q => ?_) (fun q => ?_)
        · have h := o_t h q
          obtain rfl := Option.some.inj h
          exact kx ls (lv_sub hl [0, 1, 2, 3] rfl)
        · have h := o_f h q
          refine lv_aload_n hx hb dX3_puts_132 rfl (lv_at hl 2 rfl) ?_
          refine va_get (D := D) (ci := 3) (v := .ref (bo 2)) (C := RX3) (T := TX3) (N := 7) hx hb hts iX3 hown hK hP 0 (ap_l (SW_0 c5 bo bv zs)) rfl 5 (by decide) (hts _ wT3_18) (fun _ h9 => h9) rfl dX3_puts_133 ?_
          refine lv_iload_n hx hb dX3_puts_136 rfl (lv_at hl 0 rfl) ?_
          obtain ⟨g137, h⟩ := o_if h
          refine ar_ld hx hb hK hP 2 4 (ap_l (SW_2 c5 bo bv zs)) rfl (inb_in g137) rfl dX3_puts_137 ?_
          refine lv_iconst (v := (0 : Int32)) hx hb dX3_puts_138 (by decide) ?_
          obtain ⟨g139, h⟩ := o_if h
          refine va_iald hx hb hK hP (4 + (x2_126.toNatClampNeg)) 3 (ap_l (SW_H c5 bo bv zs (inb_lt g137))) rfl (inb_in g139) dX3_puts_139 ?_
          refine lv_if_lt (tgt := 149) hx hb dX3_puts_140 (by decide) (fun q => ?_) (fun q => ?_)
          · have h := o_t h q
            obtain rfl := Option.some.inj h
            exact kx ls (lv_sub hl [0, 1, 2, 3] rfl)
          · have h := o_f h q
            refine lv_iinc (v := (x2_126 + (1 : Int32))) (lv' := [(2, .int (x2_126 + (1 : Int32))), (3, .int v87.1), (0, .ref (bo 0)), (1, .int p1)]) hx hb dX3_puts_143 hl (k := 0) rfl rfl (by decide) rfl (fun ls hl => ?_)
            refine lv_goto (tgt := 126) hx hb dX3_puts_146 (by decide) ?_
            exact ih126 (x2_126 + (1 : Int32)) v9 ls (lv_sub hl [0, 1, 2, 3] rfl) h kx
    refine L126 FU (0 : Int32) v126 ls (lv_sub hl [0, 1, 2, 3] rfl) e126 (fun ls hl => ?_)
    refine lv_iload_n hx hb dX3_puts_149 rfl (lv_at hl 0 rfl) ?_
    refine lv_bipush (v := (12 : Int32)) hx hb dX3_puts_150 (by decide) ?_
    refine lv_icmp_ne (tgt := 157) hx hb dX3_puts_152 (by decide) (fun q => ?_) (fun q => ?_)
    · have h := o_t' h q
      refine lv_aload_n hx hb dX3_puts_157 rfl (lv_at hl 2 rfl) ?_
      refine va_get (D := D) (ci := 3) (v := .ref (bo 1)) (C := RX3) (T := TX3) (N := 7) hx hb hts iX3 hown hK hP 0 (ap_l (SW_0 c5 bo bv zs)) rfl 4 (by decide) (hts _ wT3_16) (fun _ h9 => h9) rfl dX3_puts_158 ?_
      refine lv_iload_n hx hb dX3_puts_161 rfl (lv_at hl 3 rfl) ?_
      obtain ⟨g162, h⟩ := o_if h
      refine ar_ld hx hb hK hP 1 4 (ap_l (SW_1 c5 bo bv zs)) rfl (inb_in g162) rfl dX3_puts_162 ?_
      refine lv_astore_n (i := 3) (lv' := [(3, .ref (bK bv (p1.toNatClampNeg))), (2, .int v126), (0, .ref (bo 0)), (1, .int p1)]) hx hb dX3_puts_163 rfl hl (by decide) rfl (fun ls hl => ?_)
      refine lv_aload_n hx hb dX3_puts_164 rfl (lv_at hl 2 rfl) ?_
      refine va_get (D := D) (ci := 3) (v := .ref (bo 2)) (C := RX3) (T := TX3) (N := 7) hx hb hts iX3 hown hK hP 0 (ap_l (SW_0 c5 bo bv zs)) rfl 5 (by decide) (hts _ wT3_18) (fun _ h9 => h9) rfl dX3_puts_165 ?_
      refine lv_iload_n hx hb dX3_puts_168 rfl (lv_at hl 1 rfl) ?_
      refine lv_iconst (v := (3 : Int32)) hx hb dX3_puts_169 (by decide) ?_
      refine va_newa (atype := .int) (a0 := (3, .inl (fun _ => (0 : Int32)))) (N' := 3) hx hb (hts _ wT2_184) rfl hK hP hD hS hA (fun _ => rfl) (by decide) rfl (by decide) (show 0 + 1 ≤ 2 by omega) (show 0 + 3 ≤ 27 by omega) dX3_puts_170 (fun qn170 cA H hK9 hP hD hS => ?_)
      obtain rfl : cA = c5 3 := ca_eq (i := 6) (j := 3) hK9 rfl rfl
      have hP := as1_P hP
      have hD := as1_D hD
      refine lv_dup hx hb dX3_puts_172 rfl ?_
      refine lv_iconst (v := (0 : Int32)) hx hb dX3_puts_173 (by decide) ?_
      refine lv_iload_n hx hb dX3_puts_174 rfl (lv_at hl 3 rfl) ?_
      obtain ⟨g175, h⟩ := o_if h
      obtain ⟨gx175, ez175, h⟩ := o_bind h
      refine va_iast hx hb hK hP hD hS ((SW c5 bo bv zs).length + 0) 3 (ap_r (Y := [(qn170, .inl (c5 3, 3, .inl (fun _ => (0 : Int32))))]) rfl) rfl (inb_in g175) dX3_puts_175 (fun H locs hP hD hS => ?_)
      have hP := wP (ap_sr rfl) hP
      have hD := wD (ap_sr rfl) hD
      have hP := wP (congrArg (fun y9 => SW c5 bo bv zs ++ ([(qn170, .inl (c5 3, 3, .inl y9))] : va_W)) (Option.some.inj ez175)) hP
      have hD := wD (congrArg (fun y9 => SW c5 bo bv zs ++ ([(qn170, .inl (c5 3, 3, .inl y9))] : va_W)) (Option.some.inj ez175)) hD
      refine lv_dup hx hb dX3_puts_176 rfl ?_
      refine lv_iconst (v := (1 : Int32)) hx hb dX3_puts_177 (by decide) ?_
      refine lv_aload_n hx hb dX3_puts_178 rfl (lv_at hl 0 rfl) ?_
      refine lv_iconst (v := (1 : Int32)) hx hb dX3_puts_179 (by decide) ?_
      obtain ⟨g180, h⟩ := o_if h
      refine va_iald hx hb hK hP (28 + (p1.toNatClampNeg)) 3 (ap_l (SW_K c5 bo bv zs (inb_lt g162))) rfl (inb_in g180) dX3_puts_180 ?_
      refine lv_bipush (v := (24 : Int32)) hx hb dX3_puts_181 (by decide) ?_
      refine lv_bipush (v := (24 : Int32)) hx hb dX3_puts_183 (by decide) ?_
      refine lv_aload_n hx hb dX3_puts_185 rfl (lv_at hl 0 rfl) ?_
      refine lv_iconst (v := (0 : Int32)) hx hb dX3_puts_186 (by decide) ?_
      obtain ⟨g187, h⟩ := o_if h
      refine va_iald hx hb hK hP (28 + (p1.toNatClampNeg)) 3 (ap_l (SW_K c5 bo bv zs (inb_lt g162))) rfl (inb_in g187) dX3_puts_187 ?_
      obtain ⟨g188, h⟩ := o_if h
      refine lv_idiv hx hb dX3_puts_188 g188 ?_
      refine lv_aload_n hx hb dX3_puts_189 rfl (lv_at hl 0 rfl) ?_
      refine lv_iconst (v := (0 : Int32)) hx hb dX3_puts_190 (by decide) ?_
      obtain ⟨g191, h⟩ := o_if h
      refine va_iald hx hb hK hP (28 + (p1.toNatClampNeg)) 3 (ap_l (SW_K c5 bo bv zs (inb_lt g162))) rfl (inb_in g191) dX3_puts_191 ?_
      refine lv_imul hx hb dX3_puts_192 ?_
      refine lv_isub hx hb dX3_puts_193 ?_
      refine lv_iconst (v := (1 : Int32)) hx hb dX3_puts_194 (by decide) ?_
      refine lv_iadd hx hb dX3_puts_195 ?_
      obtain ⟨g196, h⟩ := o_if h
      refine lv_irem hx hb dX3_puts_196 g196 ?_
      obtain ⟨w197, ew197, h⟩ := o_bind h
      rw [Option.some.inj ew197]
      obtain ⟨g197, h⟩ := o_if h
      obtain ⟨gx197, ez197, h⟩ := o_bind h
      refine va_iast hx hb hK hP hD hS ((SW c5 bo bv zs).length + 0) 3 (ap_r (Y := [(qn170, .inl (c5 3, 3, .inl gx175))]) rfl) rfl (inb_in g197) dX3_puts_197 (fun H locs hP hD hS => ?_)
      have hP := wP (ap_sr rfl) hP
      have hD := wD (ap_sr rfl) hD
      have hP := wP (congrArg (fun y9 => SW c5 bo bv zs ++ ([(qn170, .inl (c5 3, 3, .inl y9))] : va_W)) (Option.some.inj ez197)) hP
      have hD := wD (congrArg (fun y9 => SW c5 bo bv zs ++ ([(qn170, .inl (c5 3, 3, .inl y9))] : va_W)) (Option.some.inj ez197)) hD
      refine lv_dup hx hb dX3_puts_198 rfl ?_
      refine lv_iconst (v := (2 : Int32)) hx hb dX3_puts_199 (by decide) ?_
      refine lv_iconst (v := (-1 : Int32)) hx hb dX3_puts_200 (by decide) ?_
      obtain ⟨g201, h⟩ := o_if h
      obtain ⟨gx201, ez201, h⟩ := o_bind h
      refine va_iast hx hb hK hP hD hS ((SW c5 bo bv zs).length + 0) 3 (ap_r (Y := [(qn170, .inl (c5 3, 3, .inl gx197))]) rfl) rfl (inb_in g201) dX3_puts_201 (fun H locs hP hD hS => ?_)
      have hP := wP (ap_sr rfl) hP
      have hD := wD (ap_sr rfl) hD
      have hP := wP (congrArg (fun y9 => SW c5 bo bv zs ++ ([(qn170, .inl (c5 3, 3, .inl y9))] : va_W)) (Option.some.inj ez201)) hP
      have hD := wD (congrArg (fun y9 => SW c5 bo bv zs ++ ([(qn170, .inl (c5 3, 3, .inl y9))] : va_W)) (Option.some.inj ez201)) hD
      obtain ⟨g202, h⟩ := o_if h
      refine ar_st hx hb hK hP hD hS 2 4 ((SW c5 bo bv zs).length + 0) 3 hOI (by intro C h9; cases h9) (ap_l (SW_2 c5 bo bv zs)) rfl (ap_r (Y := [(qn170, .inl (c5 3, 3, .inl gx201))]) rfl) rfl (inb_in g202) dX3_puts_202 (fun H locs hP hD hS => ?_)
      have hP := wP (ap_sl (SW_2 c5 bo bv zs) rfl) hP
      have hD := wD (ap_sl (SW_2 c5 bo bv zs) rfl) hD
      have hP := e1_P (rp_P (SW_rowH c5 bo bv zs (inb_lt g202) gx201) hP)
      have hD := e1_D (rp_D (SW_rowH c5 bo bv zs (inb_lt g202) gx201) hD)
      obtain ⟨z202, ez202, h⟩ := o_bind h
      have hP := wP (congrArg (fun y9 => SW c5 bo (bHs bv (v126.toNatClampNeg) qn170) y9 ++ ([] : va_W)) (Option.some.inj ez202)) hP
      have hD := wD (congrArg (fun y9 => SW c5 bo (bHs bv (v126.toNatClampNeg) qn170) y9 ++ ([] : va_W)) (Option.some.inj ez202)) hD
      refine lv_aload_n hx hb dX3_puts_203 rfl (lv_at hl 2 rfl) ?_
      refine va_get (D := D) (ci := 3) (v := .ref (bo 3)) (C := RX3) (T := TX3) (N := 7) hx hb hts iX3 hown hK hP 0 (ap_l (SW_0 c5 bo (bHs bv (v126.toNatClampNeg) qn170) z202)) rfl 6 (by decide) (hts _ wT3_19) (fun _ h9 => h9) rfl dX3_puts_204 ?_
      refine lv_iload_n hx hb dX3_puts_207 rfl (lv_at hl 1 rfl) ?_
      refine lv_bipush (v := (24 : Int32)) hx hb dX3_puts_208 (by decide) ?_
      refine lv_aload_n hx hb dX3_puts_210 rfl (lv_at hl 0 rfl) ?_
      refine lv_iconst (v := (0 : Int32)) hx hb dX3_puts_211 (by decide) ?_
      obtain ⟨g212, h⟩ := o_if h
      refine va_iald hx hb hK hP (28 + (p1.toNatClampNeg)) 3 (ap_l (SW_K c5 bo (bHs bv (v126.toNatClampNeg) qn170) z202 (zN_e (Option.some.inj ez202) (show (p1.toNatClampNeg) < zN zs from (inb_lt g162))))) rfl (inb_in g212) dX3_puts_212 ?_
      obtain ⟨g213, h⟩ := o_if h
      refine lv_idiv hx hb dX3_puts_213 g213 ?_
      obtain ⟨w214, ew214, h⟩ := o_bind h
      rw [Option.some.inj ew214]
      obtain ⟨g214, h⟩ := o_if h
      refine va_newa (atype := .boolean) (a0 := (w214.toNatClampNeg, .inl (fun _ => (0 : Int32)))) (N' := w214.toNatClampNeg) hx hb (hts _ wT1_59) rfl hK hP hD hS hA (fun _ => rfl) g214.1 rfl (by have := g214.2; show w214.toNatClampNeg * 1 ≤ 536870912; omega) (show 0 + 1 + 1 ≤ 2 by omega) (show 0 + 3 + w214.toNatClampNeg ≤ 27 by have := g214.2; omega) dX3_puts_214 (fun qn214 cA H hK9 hP hD hS => ?_)
      obtain rfl : cA = c5 2 := ca_eq (i := 6) (j := 2) hK9 rfl rfl
      have hP := as1_P hP
      have hD := as1_D hD
      obtain ⟨g216, h⟩ := o_if h
      refine ar_st hx hb hK hP hD hS 3 5 ((SW c5 bo (bHs bv (v126.toNatClampNeg) qn170) z202).length + 0) 2 hOZ (by intro C h9; cases h9) (ap_l (SW_3 c5 bo (bHs bv (v126.toNatClampNeg) qn170) z202)) rfl (ap_r (Y := [(qn214, .inl (c5 2, (w214.toNatClampNeg), .inl (fun _ => (0 : Int32))))]) rfl) rfl (inb_in g216) dX3_puts_216 (fun H locs hP hD hS => ?_)
      have hP := wP (ap_sl (SW_3 c5 bo (bHs bv (v126.toNatClampNeg) qn170) z202) rfl) hP
      have hD := wD (ap_sl (SW_3 c5 bo (bHs bv (v126.toNatClampNeg) qn170) z202) rfl) hD
      have hP := e1_P (rp_P (SW_rowB c5 bo (bHs bv (v126.toNatClampNeg) qn170) z202 (inb_lt g216) (w214.toNatClampNeg) (fun _ => (0 : Int32))) hP)
      have hD := e1_D (rp_D (SW_rowB c5 bo (bHs bv (v126.toNatClampNeg) qn170) z202 (inb_lt g216) (w214.toNatClampNeg) (fun _ => (0 : Int32))) hD)
      obtain ⟨z216, ez216, h⟩ := o_bind h
      have hP := wP (congrArg (fun y9 => SW c5 bo (bBs (bHs bv (v126.toNatClampNeg) qn170) (v126.toNatClampNeg) qn214) y9 ++ ([] : va_W)) (Option.some.inj ez216)) hP
      have hD := wD (congrArg (fun y9 => SW c5 bo (bBs (bHs bv (v126.toNatClampNeg) qn170) (v126.toNatClampNeg) qn214) y9 ++ ([] : va_W)) (Option.some.inj ez216)) hD
      refine lv_aload_n hx hb dX3_puts_217 rfl (lv_at hl 0 rfl) ?_
      refine lv_iconst (v := (1 : Int32)) hx hb dX3_puts_218 (by decide) ?_
      refine lv_dup2_11 hx hb dX3_puts_219 rfl rfl ?_
      obtain ⟨g220, h⟩ := o_if h
      refine va_iald hx hb hK hP (28 + (p1.toNatClampNeg)) 3 (ap_l (SW_K c5 bo (bBs (bHs bv (v126.toNatClampNeg) qn170) (v126.toNatClampNeg) qn214) z216 (zN_e (Option.some.inj ez216) (show (p1.toNatClampNeg) < zN z202 from (zN_e (Option.some.inj ez202) (show (p1.toNatClampNeg) < zN zs from (inb_lt g162))))))) rfl (inb_in g220) dX3_puts_220 ?_
      refine lv_iconst (v := (1 : Int32)) hx hb dX3_puts_221 (by decide) ?_
      refine lv_iadd hx hb dX3_puts_222 ?_
      obtain ⟨w223, ew223, h⟩ := o_bind h
      rw [Option.some.inj ew223]
      obtain ⟨g223, h⟩ := o_if h
      obtain ⟨z223, ez223, h⟩ := o_bind h
      refine va_iast hx hb hK hP hD hS (28 + (p1.toNatClampNeg)) 3 (ap_l (SW_K c5 bo (bBs (bHs bv (v126.toNatClampNeg) qn170) (v126.toNatClampNeg) qn214) z216 (zN_e (Option.some.inj ez216) (show (p1.toNatClampNeg) < zN z202 from (zN_e (Option.some.inj ez202) (show (p1.toNatClampNeg) < zN zs from (inb_lt g162))))))) rfl (inb_in g223) dX3_puts_223 (fun H locs hP hD hS => ?_)
      have hP := wP (ap_sl (SW_K c5 bo (bBs (bHs bv (v126.toNatClampNeg) qn170) (v126.toNatClampNeg) qn214) z216 (zN_e (Option.some.inj ez216) (show (p1.toNatClampNeg) < zN z202 from (zN_e (Option.some.inj ez202) (show (p1.toNatClampNeg) < zN zs from (inb_lt g162)))))) (SW_setK c5 bo (bBs (bHs bv (v126.toNatClampNeg) qn170) (v126.toNatClampNeg) qn214) z216 (zN_e (Option.some.inj ez216) (show (p1.toNatClampNeg) < zN z202 from (zN_e (Option.some.inj ez202) (show (p1.toNatClampNeg) < zN zs from (inb_lt g162))))) _)) hP
      have hD := wD (ap_sl (SW_K c5 bo (bBs (bHs bv (v126.toNatClampNeg) qn170) (v126.toNatClampNeg) qn214) z216 (zN_e (Option.some.inj ez216) (show (p1.toNatClampNeg) < zN z202 from (zN_e (Option.some.inj ez202) (show (p1.toNatClampNeg) < zN zs from (inb_lt g162)))))) (SW_setK c5 bo (bBs (bHs bv (v126.toNatClampNeg) qn170) (v126.toNatClampNeg) qn214) z216 (zN_e (Option.some.inj ez216) (show (p1.toNatClampNeg) < zN z202 from (zN_e (Option.some.inj ez202) (show (p1.toNatClampNeg) < zN zs from (inb_lt g162))))) _)) hD
      have hP := wP (congrArg (fun y9 => SW c5 bo (bBs (bHs bv (v126.toNatClampNeg) qn170) (v126.toNatClampNeg) qn214) y9 ++ ([] : va_W)) (Option.some.inj ez223)) hP
      have hD := wD (congrArg (fun y9 => SW c5 bo (bBs (bHs bv (v126.toNatClampNeg) qn170) (v126.toNatClampNeg) qn214) y9 ++ ([] : va_W)) (Option.some.inj ez223)) hD
      refine lv_aload_n hx hb dX3_puts_224 rfl (lv_at hl 2 rfl) ?_
      refine lv_iload_n hx hb dX3_puts_225 rfl (lv_at hl 1 rfl) ?_
      obtain ⟨v226, e226, h⟩ := o_bind h
      refine ro_calli (ro_runV (As := [.int v126]) (rest := []) ⟨hx, hb, hml, hown, hts⟩ (fr_P (X := []) (Y := []) hP) hK (c_X3_hole l D c5 bo (bBs (bHs bv (v126.toNatClampNeg) qn170) (v126.toNatClampNeg) qn214) z223 v126 v226 e226) gG_RX3_56 (va_recv hK hP (ci := 3) (q0 := 0) rfl (ap_l (SW_0 c5 bo (bBs (bHs bv (v126.toNatClampNeg) qn170) (v126.toNatClampNeg) qn214) z223))) hd_X3_hole ⟨Nat.le_of_ble_eq_true rfl, Nat.le_of_ble_eq_true rfl⟩ ⟨rfl, rfl⟩ hl.1 (Nat.le_of_ble_eq_true rfl) dX3_puts_226 ⟨show 0 + 1 + 1 ≤ 2 by omega, show 0 + 3 + w214.toNatClampNeg ≤ 27 by omega⟩ rfl) ?_
      refine lv_istore_n (i := 3) (lv' := [(3, .int v226), (2, .int v126), (0, .ref (bo 0)), (1, .int p1)]) hx hb dX3_puts_229 rfl hl (by decide) rfl (fun ls hl => ?_)
      refine lv_aload_n hx hb dX3_puts_230 rfl (lv_at hl 2 rfl) ?_
      refine va_get (D := D) (ci := 3) (v := .ref (bo 3)) (C := RX3) (T := TX3) (N := 7) hx hb hts iX3 hown hK hP 0 (ap_l (SW_0 c5 bo (bBs (bHs bv (v126.toNatClampNeg) qn170) (v126.toNatClampNeg) qn214) z223)) rfl 6 (by decide) (hts _ wT3_19) (fun _ h9 => h9) rfl dX3_puts_231 ?_
      refine lv_iload_n hx hb dX3_puts_234 rfl (lv_at hl 1 rfl) ?_
      obtain ⟨g235, h⟩ := o_if h
      refine ar_ld hx hb hK hP 3 5 (ap_l (SW_3 c5 bo (bBs (bHs bv (v126.toNatClampNeg) qn170) (v126.toNatClampNeg) qn214) z223)) rfl (inb_in g235) rfl dX3_puts_235 ?_
      refine lv_iload_n hx hb dX3_puts_236 rfl (lv_at hl 0 rfl) ?_
      refine lv_iconst (v := (1 : Int32)) hx hb dX3_puts_237 (by decide) ?_
      obtain ⟨g238, h⟩ := o_if h
      obtain ⟨z238, ez238, h⟩ := o_bind h
      refine va_zast hx hb hK hP hD hS (16 + (v126.toNatClampNeg)) 2 (ap_l (SW_B c5 bo (bBs (bHs bv (v126.toNatClampNeg) qn170) (v126.toNatClampNeg) qn214) z223 (inb_lt g235))) rfl (inb_in g238) dX3_puts_238 (fun H locs hP hD hS => ?_)
      have hP := wP (ap_sl (SW_B c5 bo (bBs (bHs bv (v126.toNatClampNeg) qn170) (v126.toNatClampNeg) qn214) z223 (inb_lt g235)) (SW_setB c5 bo (bBs (bHs bv (v126.toNatClampNeg) qn170) (v126.toNatClampNeg) qn214) z223 (inb_lt g235) _)) hP
      have hD := wD (ap_sl (SW_B c5 bo (bBs (bHs bv (v126.toNatClampNeg) qn170) (v126.toNatClampNeg) qn214) z223 (inb_lt g235)) (SW_setB c5 bo (bBs (bHs bv (v126.toNatClampNeg) qn170) (v126.toNatClampNeg) qn214) z223 (inb_lt g235) _)) hD
      have hP := wP (congrArg (fun y9 => SW c5 bo (bBs (bHs bv (v126.toNatClampNeg) qn170) (v126.toNatClampNeg) qn214) y9 ++ ([] : va_W)) (Option.some.inj ez238)) hP
      have hD := wD (congrArg (fun y9 => SW c5 bo (bBs (bHs bv (v126.toNatClampNeg) qn170) (v126.toNatClampNeg) qn214) y9 ++ ([] : va_W)) (Option.some.inj ez238)) hD
      refine lv_aload_n hx hb dX3_puts_239 rfl (lv_at hl 2 rfl) ?_
      refine va_get (D := D) (ci := 3) (v := .ref (bo 2)) (C := RX3) (T := TX3) (N := 7) hx hb hts iX3 hown hK hP 0 (ap_l (SW_0 c5 bo (bBs (bHs bv (v126.toNatClampNeg) qn170) (v126.toNatClampNeg) qn214) z238)) rfl 5 (by decide) (hts _ wT3_18) (fun _ h9 => h9) rfl dX3_puts_240 ?_
      refine lv_iload_n hx hb dX3_puts_243 rfl (lv_at hl 1 rfl) ?_
      obtain ⟨g244, h⟩ := o_if h
      refine ar_ld hx hb hK hP 2 4 (ap_l (SW_2 c5 bo (bBs (bHs bv (v126.toNatClampNeg) qn170) (v126.toNatClampNeg) qn214) z238)) rfl (inb_in g244) rfl dX3_puts_244 ?_
      refine lv_iconst (v := (2 : Int32)) hx hb dX3_puts_245 (by decide) ?_
      refine lv_iconst (v := (-1 : Int32)) hx hb dX3_puts_246 (by decide) ?_
      obtain ⟨g247, h⟩ := o_if h
      obtain ⟨z247, ez247, h⟩ := o_bind h
      refine va_iast hx hb hK hP hD hS (4 + (v126.toNatClampNeg)) 3 (ap_l (SW_H c5 bo (bBs (bHs bv (v126.toNatClampNeg) qn170) (v126.toNatClampNeg) qn214) z238 (inb_lt g244))) rfl (inb_in g247) dX3_puts_247 (fun H locs hP hD hS => ?_)
      have hP := wP (ap_sl (SW_H c5 bo (bBs (bHs bv (v126.toNatClampNeg) qn170) (v126.toNatClampNeg) qn214) z238 (inb_lt g244)) (SW_setH c5 bo (bBs (bHs bv (v126.toNatClampNeg) qn170) (v126.toNatClampNeg) qn214) z238 (inb_lt g244) _)) hP
      have hD := wD (ap_sl (SW_H c5 bo (bBs (bHs bv (v126.toNatClampNeg) qn170) (v126.toNatClampNeg) qn214) z238 (inb_lt g244)) (SW_setH c5 bo (bBs (bHs bv (v126.toNatClampNeg) qn170) (v126.toNatClampNeg) qn214) z238 (inb_lt g244) _)) hD
      have hP := wP (congrArg (fun y9 => SW c5 bo (bBs (bHs bv (v126.toNatClampNeg) qn170) (v126.toNatClampNeg) qn214) y9 ++ ([] : va_W)) (Option.some.inj ez247)) hP
      have hD := wD (congrArg (fun y9 => SW c5 bo (bBs (bHs bv (v126.toNatClampNeg) qn170) (v126.toNatClampNeg) qn214) y9 ++ ([] : va_W)) (Option.some.inj ez247)) hD
      refine lv_aload_n hx hb dX3_puts_248 rfl (lv_at hl 2 rfl) ?_
      refine lv_dup hx hb dX3_puts_249 rfl ?_
      refine va_get (D := D) (ci := 3) (v := .int (zF z247 0)) (C := RX3) (T := TX3) (N := 7) hx hb hts iX3 hown hK hP 0 (ap_l (SW_0 c5 bo (bBs (bHs bv (v126.toNatClampNeg) qn170) (v126.toNatClampNeg) qn214) z247)) rfl 0 (by decide) (hts _ wT3_11) (fun _ h9 => h9) rfl dX3_puts_250 ?_
      refine lv_iconst (v := (1 : Int32)) hx hb dX3_puts_253 (by decide) ?_
      refine lv_iadd hx hb dX3_puts_254 ?_
      obtain ⟨z255, ez255, h⟩ := o_bind h
      refine va_put (D := D) (ci := 3) (v := .int ((zF z247 0) + (1 : Int32))) (ty := .int) (C := RX3) (T := TX3) (N := 7) hx hb hts iX3 tyX3 tyX3_ok nmX3 hown hK hP hD hS 0 (ap_l (SW_0 c5 bo (bBs (bHs bv (v126.toNatClampNeg) qn170) (v126.toNatClampNeg) qn214) z247)) rfl 0 (by decide) (hts _ wT3_11) (fun _ h9 => h9) rfl (by decide +kernel) rfl rfl (Nat.le_of_ble_eq_true rfl) dX3_puts_255 (fun H locs hP hD hS => ?_)
      have hP := wP (ap_sl (SW_0 c5 bo (bBs (bHs bv (v126.toNatClampNeg) qn170) (v126.toNatClampNeg) qn214) z247) (SW_setF c5 bo (bBs (bHs bv (v126.toNatClampNeg) qn170) (v126.toNatClampNeg) qn214) z247 0 (by decide) _)) hP
      have hD := wD (ap_sl (SW_0 c5 bo (bBs (bHs bv (v126.toNatClampNeg) qn170) (v126.toNatClampNeg) qn214) z247) (SW_setF c5 bo (bBs (bHs bv (v126.toNatClampNeg) qn170) (v126.toNatClampNeg) qn214) z247 0 (by decide) _)) hD
      have hP := wP (congrArg (fun y9 => SW c5 bo (bBs (bHs bv (v126.toNatClampNeg) qn170) (v126.toNatClampNeg) qn214) y9 ++ ([] : va_W)) (Option.some.inj ez255)) hP
      have hD := wD (congrArg (fun y9 => SW c5 bo (bBs (bHs bv (v126.toNatClampNeg) qn170) (v126.toNatClampNeg) qn214) y9 ++ ([] : va_W)) (Option.some.inj ez255)) hD
      refine lv_aload_n hx hb dX3_puts_258 rfl (lv_at hl 2 rfl) ?_
      refine lv_dup hx hb dX3_puts_259 rfl ?_
      refine va_get (D := D) (ci := 3) (v := .int (zF z255 2)) (C := RX3) (T := TX3) (N := 7) hx hb hts iX3 hown hK hP 0 (ap_l (SW_0 c5 bo (bBs (bHs bv (v126.toNatClampNeg) qn170) (v126.toNatClampNeg) qn214) z255)) rfl 2 (by decide) (hts _ wT3_14) (fun _ h9 => h9) rfl dX3_puts_260 ?_
      refine lv_iconst (v := (1 : Int32)) hx hb dX3_puts_263 (by decide) ?_
      refine lv_iadd hx hb dX3_puts_264 ?_
      obtain ⟨z265, ez265, h⟩ := o_bind h
      refine va_put (D := D) (ci := 3) (v := .int ((zF z255 2) + (1 : Int32))) (ty := .int) (C := RX3) (T := TX3) (N := 7) hx hb hts iX3 tyX3 tyX3_ok nmX3 hown hK hP hD hS 0 (ap_l (SW_0 c5 bo (bBs (bHs bv (v126.toNatClampNeg) qn170) (v126.toNatClampNeg) qn214) z255)) rfl 2 (by decide) (hts _ wT3_14) (fun _ h9 => h9) rfl (by decide +kernel) rfl rfl (Nat.le_of_ble_eq_true rfl) dX3_puts_265 (fun H locs hP hD hS => ?_)
      have hP := wP (ap_sl (SW_0 c5 bo (bBs (bHs bv (v126.toNatClampNeg) qn170) (v126.toNatClampNeg) qn214) z255) (SW_setF c5 bo (bBs (bHs bv (v126.toNatClampNeg) qn170) (v126.toNatClampNeg) qn214) z255 2 (by decide) _)) hP
      have hD := wD (ap_sl (SW_0 c5 bo (bBs (bHs bv (v126.toNatClampNeg) qn170) (v126.toNatClampNeg) qn214) z255) (SW_setF c5 bo (bBs (bHs bv (v126.toNatClampNeg) qn170) (v126.toNatClampNeg) qn214) z255 2 (by decide) _)) hD
      have hP := wP (congrArg (fun y9 => SW c5 bo (bBs (bHs bv (v126.toNatClampNeg) qn170) (v126.toNatClampNeg) qn214) y9 ++ ([] : va_W)) (Option.some.inj ez265)) hP
      have hD := wD (congrArg (fun y9 => SW c5 bo (bBs (bHs bv (v126.toNatClampNeg) qn170) (v126.toNatClampNeg) qn214) y9 ++ ([] : va_W)) (Option.some.inj ez265)) hD
      refine lv_aload_n hx hb dX3_puts_268 rfl (lv_at hl 2 rfl) ?_
      refine lv_iload_n hx hb dX3_puts_269 rfl (lv_at hl 1 rfl) ?_
      refine lv_iload_n hx hb dX3_puts_270 rfl (lv_at hl 0 rfl) ?_
      obtain ⟨v271, e271, h⟩ := o_bind h
      refine ro_calli (ro_runV (As := [.int v126, .int v226]) (rest := []) ⟨hx, hb, hml, hown, hts⟩ (fr_P (X := []) (Y := []) hP) hK (c_X3_spot l D c5 bo (bBs (bHs bv (v126.toNatClampNeg) qn170) (v126.toNatClampNeg) qn214) z265 v126 v226 v271 e271) gG_RX3_59 (va_recv hK hP (ci := 3) (q0 := 0) rfl (ap_l (SW_0 c5 bo (bBs (bHs bv (v126.toNatClampNeg) qn170) (v126.toNatClampNeg) qn214) z265))) hd_X3_spot ⟨Nat.le_of_ble_eq_true rfl, Nat.le_of_ble_eq_true rfl⟩ ⟨rfl, rfl⟩ hl.1 (Nat.le_of_ble_eq_true rfl) dX3_puts_271 ⟨show 0 + 1 + 1 ≤ 2 by omega, show 0 + 3 + w214.toNatClampNeg ≤ 27 by omega⟩ rfl) ?_
      obtain rfl := Option.some.inj h
      have hP := e0_P hP
      have hD := e0_D hD
      refine W.widen (k := 2) (n := 27) (by omega) (by omega) ?_
      exact W.iret hx hb hr (fun t ht hW => ⟨⟨_, ((bBs (bHs bv (v126.toNatClampNeg) qn170) (v126.toNatClampNeg) qn214), z265), rfl, ⟨rfl, rfl⟩, by rw [ht]; exact hP, va_K.moved hW.alike hK, hD⟩, hS.F ht⟩) hS.2.2 dX3_puts_274 hlocks
    · have h := o_f' h q
      refine lv_iconst (v := (-1 : Int32)) hx hb dX3_puts_155 (by decide) ?_
      obtain rfl := Option.some.inj h
      have hP := e0_P hP
      have hD := e0_D hD
      refine W.widen (k := 2) (n := 27) (by omega) (by omega) ?_
      exact W.iret hx hb hr (fun t ht hW => ⟨⟨_, (bv, zs), rfl, ⟨rfl, rfl⟩, by rw [ht]; exact hP, va_K.moved hW.alike hK, hD⟩, hS.F ht⟩) hS.2.2 dX3_puts_156 hlocks
set_option maxHeartbeats 4000000 in
set_option maxRecDepth 100000 in
theorem c_X3_reaps (l : Launch) (D : va_G) (c5 : Nat → ClassId) (bo : Nat → Nat) (bv : BV) (zs : SSt) (sz : Nat) (p1 : Int32) (r : Int32 × SSt) (h : R_X3_reaps zs p1 = some r) : Met l yX3_reaps (ws_ yX3_reaps cX3_reaps 4 (some .int)) { frames := 0, cells := 26, slots := 39, locals := 0 } (va_Pc [.ref (bo 0), .int p1] (swB D c5 (SW c5 bo bv zs) sz)) (va_Qi (fun x (u : BV × SSt) => x = r.1 ∧ u.2 = r.2) (rwE D (tyG c5) (va_A (SW c5 bo bv zs) sz) (fun u : BV × SSt => SW c5 bo u.1 u.2)) (va_A (SW c5 bo bv zs) sz)) 26 39 (va_A (SW c5 bo bv zs) sz) := by
  refine Met.ofW (cc := cX3_reaps) (maxL := 4) (ret := (some .int)) (by decide) rfl ?_
  intro p e s m args below meth c s₁ B hml hv
  obtain ⟨rfl, hsz, hP, hK, hD0, hOI, hOZ⟩ := hv
  have hx := B.exec
  have hb := B.bytes
  have hr := B.returns
  have hts : ∀ w ∈ LA, w.before _ s = true := fun w hw => atoms_spec (ws := ws_ yX3_reaps cX3_reaps 4 (some .int)) B.pre w (List.mem_cons_of_mem _ hw)
  have hown : s.vm.findClass RX3 = some m.cls := findClass_of_methodNamed B.named
  have hlocks := B.notSynchronized
  subst hsz
  have hD := hD0.self (sz := s.heap.size)
  generalize hAe : va_A (SW c5 bo bv zs) s.heap.size = A at hD ⊢
  have hA : ∀ q : Nat, s.heap.size ≤ q → A q := fun q h => by rw [← hAe]; exact Or.inr h
  have hS : va_S A s.heap s.heap [] := va_S.rf
  have hP := i1_P hP
  have hD := i1_D hD
  have hl := lv_entry ([.ref (bo 0), .int p1] : List Value) (n := 4) (Nat.le_of_ble_eq_true rfl)
  rw [lg_entry_eq]
  generalize (lg_sl ([.ref (bo 0), .int p1] : List Value) ++ List.replicate (4 - (lg_sl ([.ref (bo 0), .int p1] : List Value)).length) Slot.unset).toArray = ls at hl ⊢
  have hl : lv_has ls 4 [(0, .ref (bo 0)), (1, .int p1)] := hl
  unfold R_X3_reaps at h
  refine lv_iconst (v := (0 : Int32)) hx hb dX3_reaps_0 (by decide) ?_
  refine lv_istore_n (i := 2) (lv' := [(2, .int (0 : Int32)), (0, .ref (bo 0)), (1, .int p1)]) hx hb dX3_reaps_1 rfl hl (by decide) rfl (fun ls hl => ?_)
  refine lv_iconst (v := (0 : Int32)) hx hb dX3_reaps_2 (by decide) ?_
  refine lv_istore_n (i := 3) (lv' := [(3, .int (0 : Int32)), (2, .int (0 : Int32)), (0, .ref (bo 0)), (1, .int p1)]) hx hb dX3_reaps_3 rfl hl (by decide) rfl (fun ls hl => ?_)
  have L4 : ∀ (n4 : Nat) (cells4 slots4 : Nat) (bv4 : BV) (H : Heap) (locs : List Loc) (zs4 : SSt) (x3_4 : Int32) (x2_4 : Int32) (ls : Array Slot), lv_has ls 4 [(3, .int x3_4), (2, .int x2_4), (0, .ref (bo 0)), (1, .int p1)] → va_P D vwCl (SW c5 bo bv4 zs4 ++ ([] : va_W)) H → va_D A (SW c5 bo bv4 zs4 ++ ([] : va_W)) → va_S A s.heap H locs → cells4 + n4 * 2 ≤ 0 + 26 → slots4 + n4 * 3 ≤ 0 + 39 → R_X3_reaps_L4 p1 n4 zs4 x3_4 x2_4 = some r → W p l e (headSpec (ws_ yX3_reaps cX3_reaps 4 (some .int)) { frames := 0, cells := 26, slots := 39, locals := 0 }).room s m ([.ref (bo 0), .int p1] : List Value).toArray below meth c H locs (cells4) (slots4) (MQ below (va_Qi (fun x (u : BV × SSt) => x = r.1 ∧ u.2 = r.2) (rwE D (tyG c5) (A) (fun u : BV × SSt => SW c5 bo u.1 u.2)) (A)) ([.ref (bo 0), .int p1] : List Value).toArray s 26 39 A) (F0 m 4 ls []) := by
    intro n4
    induction n4 with
    | zero =>
      intro cells4 slots4 bv4 H locs zs4 x3_4 x2_4 ls hl hP hD hS hc4 hn4 h
      exact absurd h (by simp [R_X3_reaps_L4])
    | succ n4 ih4 =>
      intro cells4 slots4 bv4 H locs zs4 x3_4 x2_4 ls hl hP hD hS hc4 hn4 h
      rw [R_X3_reaps_L4] at h
      refine lv_iload_n hx hb dX3_reaps_4 rfl (lv_at hl 0 rfl) ?_
      refine lv_bipush (v := (12 : Int32)) hx hb dX3_reaps_5 (by decide) ?_
      refine lv_icmp_ge (tgt := 80) hx hb dX3_reaps_7 (by decide) (fun q => ?_) (fun q => ?_)
      · have h := o_t h q
        refine lv_iload_n hx hb dX3_reaps_80 rfl (lv_at hl 1 rfl) ?_
        obtain rfl := Option.some.inj h
        have hP := e0_P hP
        have hD := e0_D hD
        refine W.widen (k := 26) (n := 39) (by omega) (by omega) ?_
        exact W.iret hx hb hr (fun t ht hW => ⟨⟨_, (bv4, zs4), rfl, ⟨rfl, rfl⟩, by rw [ht]; exact hP, va_K.moved hW.alike hK, hD⟩, hS.F ht⟩) hS.2.2 dX3_reaps_81 hlocks
      · have h := o_f h q
        refine lv_aload_n hx hb dX3_reaps_10 rfl (lv_at hl 2 rfl) ?_
        refine va_get (D := D) (ci := 3) (v := .ref (bo 2)) (C := RX3) (T := TX3) (N := 7) hx hb hts iX3 hown hK hP 0 (ap_l (SW_0 c5 bo bv4 zs4)) rfl 5 (by decide) (hts _ wT3_18) (fun _ h9 => h9) rfl dX3_reaps_11 ?_
        refine lv_iload_n hx hb dX3_reaps_14 rfl (lv_at hl 0 rfl) ?_
        obtain ⟨g15, h⟩ := o_if h
        refine ar_ld hx hb hK hP 2 4 (ap_l (SW_2 c5 bo bv4 zs4)) rfl (inb_in g15) rfl dX3_reaps_15 ?_
        refine lv_iconst (v := (2 : Int32)) hx hb dX3_reaps_16 (by decide) ?_
        obtain ⟨g17, h⟩ := o_if h
        refine va_iald hx hb hK hP (4 + (x3_4.toNatClampNeg)) 3 (ap_l (SW_H c5 bo bv4 zs4 (inb_lt g15))) rfl (inb_in g17) dX3_reaps_17 ?_
        obtain ⟨v18, e18, h⟩ := o_bind h
        have tn18 : ∀ (bv18 : BV) (H : Heap) (locs : List Loc) (ls : Array Slot), lv_has ls 4 [(3, .int x3_4), (2, .int v18.2), (0, .ref (bo 0)), (1, .int p1)] → va_P D vwCl (SW c5 bo bv18 v18.1 ++ ([] : va_W)) H → va_D A (SW c5 bo bv18 v18.1 ++ ([] : va_W)) → va_S A s.heap H locs → W p l e (headSpec (ws_ yX3_reaps cX3_reaps 4 (some .int)) { frames := 0, cells := 26, slots := 39, locals := 0 }).room s m ([.ref (bo 0), .int p1] : List Value).toArray below meth c H locs (cells4 + 2) (slots4 + 3) (MQ below (va_Qi (fun x (u : BV × SSt) => x = r.1 ∧ u.2 = r.2) (rwE D (tyG c5) (A) (fun u : BV × SSt => SW c5 bo u.1 u.2)) (A)) ([.ref (bo 0), .int p1] : List Value).toArray s 26 39 A) (F0 m 74 ls []) := by
          intro bv18 H locs ls hl hP hD hS
          refine lv_iinc (v := (x3_4 + (1 : Int32))) (lv' := [(3, .int (x3_4 + (1 : Int32))), (2, .int v18.2), (0, .ref (bo 0)), (1, .int p1)]) hx hb dX3_reaps_74 hl (k := 0) rfl rfl (by decide) rfl (fun ls hl => ?_)
          refine lv_goto (tgt := 4) hx hb dX3_reaps_77 (by decide) ?_
          exact ih4 (cells4 + 2) (slots4 + 3) bv18 H locs v18.1 (x3_4 + (1 : Int32)) v18.2 ls (lv_sub hl [0, 1, 2, 3] rfl) hP hD hS (by omega) (by omega) h
        have h := e18
        refine lv_if_lt (tgt := 74) hx hb dX3_reaps_18 (by decide) (fun q => ?_) (fun q => ?_)
        · have h := o_t h q
          obtain rfl := Option.some.inj h
          refine W.widen (k := cells4 + 2) (n := slots4 + 3) (by omega) (by omega) ?_
          exact tn18 bv4 H locs ls (lv_sub hl [0, 1, 2, 3] rfl) hP hD hS
        · have h := o_f h q
          refine lv_aload_n hx hb dX3_reaps_21 rfl (lv_at hl 2 rfl) ?_
          refine va_get (D := D) (ci := 3) (v := .int (zF zs4 0)) (C := RX3) (T := TX3) (N := 7) hx hb hts iX3 hown hK hP 0 (ap_l (SW_0 c5 bo bv4 zs4)) rfl 0 (by decide) (hts _ wT3_11) (fun _ h9 => h9) rfl dX3_reaps_22 ?_
          refine lv_aload_n hx hb dX3_reaps_25 rfl (lv_at hl 2 rfl) ?_
          refine va_get (D := D) (ci := 3) (v := .ref (bo 2)) (C := RX3) (T := TX3) (N := 7) hx hb hts iX3 hown hK hP 0 (ap_l (SW_0 c5 bo bv4 zs4)) rfl 5 (by decide) (hts _ wT3_18) (fun _ h9 => h9) rfl dX3_reaps_26 ?_
          refine lv_iload_n hx hb dX3_reaps_29 rfl (lv_at hl 0 rfl) ?_
          obtain ⟨g30, h⟩ := o_if h
          refine ar_ld hx hb hK hP 2 4 (ap_l (SW_2 c5 bo bv4 zs4)) rfl (inb_in g30) rfl dX3_reaps_30 ?_
          refine lv_iconst (v := (2 : Int32)) hx hb dX3_reaps_31 (by decide) ?_
          obtain ⟨g32, h⟩ := o_if h
          refine va_iald hx hb hK hP (4 + (x3_4.toNatClampNeg)) 3 (ap_l (SW_H c5 bo bv4 zs4 (inb_lt g30))) rfl (inb_in g32) dX3_reaps_32 ?_
          refine lv_iload_n hx hb dX3_reaps_33 rfl (lv_at hl 3 rfl) ?_
          refine lv_iadd hx hb dX3_reaps_34 ?_
          refine lv_icmp_ge (tgt := 41) hx hb dX3_reaps_35 (by decide) (fun q => ?_) (fun q => ?_)
          · have h := o_t h q
            refine lv_aload_n hx hb dX3_reaps_41 rfl (lv_at hl 2 rfl) ?_
            refine va_get (D := D) (ci := 3) (v := .ref (bo 2)) (C := RX3) (T := TX3) (N := 7) hx hb hts iX3 hown hK hP 0 (ap_l (SW_0 c5 bo bv4 zs4)) rfl 5 (by decide) (hts _ wT3_18) (fun _ h9 => h9) rfl dX3_reaps_42 ?_
            refine lv_iload_n hx hb dX3_reaps_45 rfl (lv_at hl 0 rfl) ?_
            refine lv_iconst (v := (3 : Int32)) hx hb dX3_reaps_46 (by decide) ?_
            refine va_newa (atype := .int) (a0 := (3, .inl (fun _ => (0 : Int32)))) (N' := 3) hx hb (hts _ wT2_184) rfl hK hP hD hS hA (fun _ => rfl) (by decide) rfl (by decide) (show cells4 + 1 ≤ 26 by omega) (show slots4 + 3 ≤ 39 by omega) dX3_reaps_47 (fun qn47 cA H hK9 hP hD hS => ?_)
            obtain rfl : cA = c5 3 := ca_eq (i := 6) (j := 3) hK9 rfl rfl
            have hP := as1_P hP
            have hD := as1_D hD
            refine lv_dup hx hb dX3_reaps_49 rfl ?_
            refine lv_iconst (v := (0 : Int32)) hx hb dX3_reaps_50 (by decide) ?_
            refine lv_iconst (v := (-1 : Int32)) hx hb dX3_reaps_51 (by decide) ?_
            obtain ⟨g52, h⟩ := o_if h
            obtain ⟨gx52, ez52, h⟩ := o_bind h
            refine va_iast hx hb hK hP hD hS ((SW c5 bo bv4 zs4).length + 0) 3 (ap_r (Y := [(qn47, .inl (c5 3, 3, .inl (fun _ => (0 : Int32))))]) rfl) rfl (inb_in g52) dX3_reaps_52 (fun H locs hP hD hS => ?_)
            have hP := wP (ap_sr rfl) hP
            have hD := wD (ap_sr rfl) hD
            have hP := wP (congrArg (fun y9 => SW c5 bo bv4 zs4 ++ ([(qn47, .inl (c5 3, 3, .inl y9))] : va_W)) (Option.some.inj ez52)) hP
            have hD := wD (congrArg (fun y9 => SW c5 bo bv4 zs4 ++ ([(qn47, .inl (c5 3, 3, .inl y9))] : va_W)) (Option.some.inj ez52)) hD
            refine lv_dup hx hb dX3_reaps_53 rfl ?_
            refine lv_iconst (v := (1 : Int32)) hx hb dX3_reaps_54 (by decide) ?_
            refine lv_iconst (v := (0 : Int32)) hx hb dX3_reaps_55 (by decide) ?_
            obtain ⟨g56, h⟩ := o_if h
            obtain ⟨gx56, ez56, h⟩ := o_bind h
            refine va_iast hx hb hK hP hD hS ((SW c5 bo bv4 zs4).length + 0) 3 (ap_r (Y := [(qn47, .inl (c5 3, 3, .inl gx52))]) rfl) rfl (inb_in g56) dX3_reaps_56 (fun H locs hP hD hS => ?_)
            have hP := wP (ap_sr rfl) hP
            have hD := wD (ap_sr rfl) hD
            have hP := wP (congrArg (fun y9 => SW c5 bo bv4 zs4 ++ ([(qn47, .inl (c5 3, 3, .inl y9))] : va_W)) (Option.some.inj ez56)) hP
            have hD := wD (congrArg (fun y9 => SW c5 bo bv4 zs4 ++ ([(qn47, .inl (c5 3, 3, .inl y9))] : va_W)) (Option.some.inj ez56)) hD
            refine lv_dup hx hb dX3_reaps_57 rfl ?_
            refine lv_iconst (v := (2 : Int32)) hx hb dX3_reaps_58 (by decide) ?_
            refine lv_iconst (v := (-1 : Int32)) hx hb dX3_reaps_59 (by decide) ?_
            obtain ⟨g60, h⟩ := o_if h
            obtain ⟨gx60, ez60, h⟩ := o_bind h
            refine va_iast hx hb hK hP hD hS ((SW c5 bo bv4 zs4).length + 0) 3 (ap_r (Y := [(qn47, .inl (c5 3, 3, .inl gx56))]) rfl) rfl (inb_in g60) dX3_reaps_60 (fun H locs hP hD hS => ?_)
            have hP := wP (ap_sr rfl) hP
            have hD := wD (ap_sr rfl) hD
            have hP := wP (congrArg (fun y9 => SW c5 bo bv4 zs4 ++ ([(qn47, .inl (c5 3, 3, .inl y9))] : va_W)) (Option.some.inj ez60)) hP
            have hD := wD (congrArg (fun y9 => SW c5 bo bv4 zs4 ++ ([(qn47, .inl (c5 3, 3, .inl y9))] : va_W)) (Option.some.inj ez60)) hD
            obtain ⟨g61, h⟩ := o_if h
            refine ar_st hx hb hK hP hD hS 2 4 ((SW c5 bo bv4 zs4).length + 0) 3 hOI (by intro C h9; cases h9) (ap_l (SW_2 c5 bo bv4 zs4)) rfl (ap_r (Y := [(qn47, .inl (c5 3, 3, .inl gx60))]) rfl) rfl (inb_in g61) dX3_reaps_61 (fun H locs hP hD hS => ?_)
            have hP := wP (ap_sl (SW_2 c5 bo bv4 zs4) rfl) hP
            have hD := wD (ap_sl (SW_2 c5 bo bv4 zs4) rfl) hD
            have hP := e1_P (rp_P (SW_rowH c5 bo bv4 zs4 (inb_lt g61) gx60) hP)
            have hD := e1_D (rp_D (SW_rowH c5 bo bv4 zs4 (inb_lt g61) gx60) hD)
            obtain ⟨z61, ez61, h⟩ := o_bind h
            have hP := wP (congrArg (fun y9 => SW c5 bo (bHs bv4 (x3_4.toNatClampNeg) qn47) y9 ++ ([] : va_W)) (Option.some.inj ez61)) hP
            have hD := wD (congrArg (fun y9 => SW c5 bo (bHs bv4 (x3_4.toNatClampNeg) qn47) y9 ++ ([] : va_W)) (Option.some.inj ez61)) hD
            refine lv_aload_n hx hb dX3_reaps_62 rfl (lv_at hl 2 rfl) ?_
            refine va_get (D := D) (ci := 3) (v := .ref (bo 3)) (C := RX3) (T := TX3) (N := 7) hx hb hts iX3 hown hK hP 0 (ap_l (SW_0 c5 bo (bHs bv4 (x3_4.toNatClampNeg) qn47) z61)) rfl 6 (by decide) (hts _ wT3_19) (fun _ h9 => h9) rfl dX3_reaps_63 ?_
            refine lv_iload_n hx hb dX3_reaps_66 rfl (lv_at hl 0 rfl) ?_
            refine lv_iconst (v := (0 : Int32)) hx hb dX3_reaps_67 (by decide) ?_
            refine va_newa (atype := .boolean) (a0 := (0, .inl (fun _ => (0 : Int32)))) (N' := 0) hx hb (hts _ wT1_59) rfl hK hP hD hS hA (fun _ => rfl) (by decide) rfl (by decide) (show cells4 + 1 + 1 ≤ 26 by omega) (show slots4 + 3 + 0 ≤ 39 by omega) dX3_reaps_68 (fun qn68 cA H hK9 hP hD hS => ?_)
            obtain rfl : cA = c5 2 := ca_eq (i := 6) (j := 2) hK9 rfl rfl
            have hP := as1_P hP
            have hD := as1_D hD
            obtain ⟨g70, h⟩ := o_if h
            refine ar_st hx hb hK hP hD hS 3 5 ((SW c5 bo (bHs bv4 (x3_4.toNatClampNeg) qn47) z61).length + 0) 2 hOZ (by intro C h9; cases h9) (ap_l (SW_3 c5 bo (bHs bv4 (x3_4.toNatClampNeg) qn47) z61)) rfl (ap_r (Y := [(qn68, .inl (c5 2, 0, .inl (fun _ => (0 : Int32))))]) rfl) rfl (inb_in g70) dX3_reaps_70 (fun H locs hP hD hS => ?_)
            have hP := wP (ap_sl (SW_3 c5 bo (bHs bv4 (x3_4.toNatClampNeg) qn47) z61) rfl) hP
            have hD := wD (ap_sl (SW_3 c5 bo (bHs bv4 (x3_4.toNatClampNeg) qn47) z61) rfl) hD
            have hP := e1_P (rp_P (SW_rowB c5 bo (bHs bv4 (x3_4.toNatClampNeg) qn47) z61 (inb_lt g70) 0 (fun _ => (0 : Int32))) hP)
            have hD := e1_D (rp_D (SW_rowB c5 bo (bHs bv4 (x3_4.toNatClampNeg) qn47) z61 (inb_lt g70) 0 (fun _ => (0 : Int32))) hD)
            obtain ⟨z70, ez70, h⟩ := o_bind h
            have hP := wP (congrArg (fun y9 => SW c5 bo (bBs (bHs bv4 (x3_4.toNatClampNeg) qn47) (x3_4.toNatClampNeg) qn68) y9 ++ ([] : va_W)) (Option.some.inj ez70)) hP
            have hD := wD (congrArg (fun y9 => SW c5 bo (bBs (bHs bv4 (x3_4.toNatClampNeg) qn47) (x3_4.toNatClampNeg) qn68) y9 ++ ([] : va_W)) (Option.some.inj ez70)) hD
            refine lv_iinc (v := (x2_4 + (1 : Int32))) (lv' := [(2, .int (x2_4 + (1 : Int32))), (3, .int x3_4), (0, .ref (bo 0)), (1, .int p1)]) hx hb dX3_reaps_71 hl (k := 1) rfl rfl (by decide) rfl (fun ls hl => ?_)
            obtain rfl := Option.some.inj h
            refine W.widen (k := cells4 + 2) (n := slots4 + 3) (by omega) (by omega) ?_
            exact tn18 (bBs (bHs bv4 (x3_4.toNatClampNeg) qn47) (x3_4.toNatClampNeg) qn68) H locs ls (lv_sub hl [1, 0, 2, 3] rfl) hP hD hS
          · have h := o_f h q
            refine lv_goto (tgt := 74) hx hb dX3_reaps_38 (by decide) ?_
            obtain rfl := Option.some.inj h
            refine W.widen (k := cells4 + 2) (n := slots4 + 3) (by omega) (by omega) ?_
            exact tn18 bv4 H locs ls (lv_sub hl [0, 1, 2, 3] rfl) hP hD hS
  exact L4 13 (0) (0) bv s.heap [] zs (0 : Int32) (0 : Int32) ls (lv_sub hl [0, 1, 2, 3] rfl) hP hD hS (by omega) (by omega) h
