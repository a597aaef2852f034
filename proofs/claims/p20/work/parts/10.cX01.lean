set_option maxHeartbeats 4000000 in
set_option maxRecDepth 100000 in
theorem c_X0_countShelf (l : Launch) (D : va_G) (c5 : Nat → ClassId) (a : KAd) (k : KSt) (hI : KI a) (sz : Nat) (j : Nat) (hj : j < kN k) (r : KSt) (h : R_X0_countShelf k j = some r) : Met l yX0_countShelf (ws_ yX0_countShelf cX0_countShelf 1 none) { frames := 0, cells := 0, slots := 0, locals := 0 } (va_Pc [.ref (aK a j)] (rwB D (tyG c5) (KW c5 a k) sz)) (va_Qv (fun u => u = r) (rwE D (tyG c5) (va_A (KW c5 a k) sz) (fun u => KW c5 a u)) (va_A (KW c5 a k) sz)) 0 0 (va_A (KW c5 a k) sz) := by
  refine Met.ofW (cc := cX0_countShelf) (maxL := 1) (ret := none) (by decide) rfl ?_
  intro p e s m args below meth c s₁ B hml hv
  obtain ⟨rfl, hsz, hP, hK, hD0⟩ := hv
  have hx := B.exec
  have hb := B.bytes
  have hr := B.returns
  have hts : ∀ w ∈ LA, w.before _ s = true := fun w hw => atoms_spec (ws := ws_ yX0_countShelf cX0_countShelf 1 none) B.pre w (List.mem_cons_of_mem _ hw)
  have hown : s.vm.findClass RX0 = some m.cls := findClass_of_methodNamed B.named
  have hlocks := B.notSynchronized
  subst hsz
  have hD := hD0.self (sz := s.heap.size)
  generalize hAe : va_A (KW c5 a k) s.heap.size = A at hD ⊢
  have hA : ∀ q : Nat, s.heap.size ≤ q → A q := fun q h => by rw [← hAe]; exact Or.inr h
  have hS : va_S A s.heap s.heap [] := va_S.rf
  have hl := lv_entry ([.ref (aK a j)] : List Value) (n := 1) (Nat.le_of_ble_eq_true rfl)
  rw [lg_entry_eq]
  generalize (lg_sl ([.ref (aK a j)] : List Value) ++ List.replicate (1 - (lg_sl ([.ref (aK a j)] : List Value)).length) Slot.unset).toArray = ls at hl ⊢
  have hl : lv_has ls 1 [(0, .ref (aK a j))] := hl
  unfold R_X0_countShelf at h
  refine lv_aload_n hx hb dX0_countShelf_0 rfl (lv_at hl 0 rfl) ?_
  refine lv_dup hx hb dX0_countShelf_1 rfl ?_
  refine va_get (D := D) (ci := 0) (v := .int (kK k 4 j)) (C := RX0) (T := TX0) (N := 6) hx hb hts iX0 hown hK hP (27 + j) (KW_K c5 a k hj) rfl 4 (by decide) (hts _ wT3_61) (fun _ h9 => h9) rfl dX0_countShelf_2 ?_
  refine lv_iconst (v := (1 : Int32)) hx hb dX0_countShelf_5 (by decide) ?_
  refine lv_iadd hx hb dX0_countShelf_6 ?_
  refine va_put (D := D) (ci := 0) (v := .int ((kK k 4 j) + (1 : Int32))) (ty := .int) (C := RX0) (T := TX0) (N := 6) hx hb hts iX0 tyX0 tyX0_ok nmX0 hown hK hP hD hS (27 + j) (KW_K c5 a k hj) rfl 4 (by decide) (hts _ wT3_61) (fun _ h9 => h9) rfl (by decide +kernel) rfl rfl (Nat.le_of_ble_eq_true rfl) dX0_countShelf_7 (fun H locs hP hD hS => ?_)
  have hP := wP (KW_setK c5 a k hj 3 (by decide) _) hP
  have hD := wD (KW_setK c5 a k hj 3 (by decide) _) hD
  refine lv_aload_n hx hb dX0_countShelf_10 rfl (lv_at hl 0 rfl) ?_
  refine lv_aload_n hx hb dX0_countShelf_11 rfl (lv_at hl 0 rfl) ?_
  refine va_get (D := D) (ci := 0) (v := .int (kK (kKs k 4 j ((kK k 4 j) + (1 : Int32))) 5 j)) (C := RX0) (T := TX0) (N := 6) hx hb hts iX0 hown hK hP (27 + j) (KW_K c5 a (kKs k 4 j ((kK k 4 j) + (1 : Int32))) hj) rfl 5 (by decide) (hts _ wT3_63) (fun _ h9 => h9) rfl dX0_countShelf_12 ?_
  refine lv_aload_n hx hb dX0_countShelf_15 rfl (lv_at hl 0 rfl) ?_
  refine va_get (D := D) (ci := 0) (v := .int (kK (kKs k 4 j ((kK k 4 j) + (1 : Int32))) 3 j)) (C := RX0) (T := TX0) (N := 6) hx hb hts iX0 hown hK hP (27 + j) (KW_K c5 a (kKs k 4 j ((kK k 4 j) + (1 : Int32))) hj) rfl 3 (by decide) (hts _ wT3_59) (fun _ h9 => h9) rfl dX0_countShelf_16 ?_
  refine lv_icmp_ge (tgt := 31) hx hb dX0_countShelf_19 (by decide) (fun q => ?_) (fun q => ?_)
  · have h := o_t h q
    refine lv_iconst (v := (0 : Int32)) hx hb dX0_countShelf_31 (by decide) ?_
    refine va_put (D := D) (ci := 0) (v := .int (0 : Int32)) (ty := .int) (C := RX0) (T := TX0) (N := 6) hx hb hts iX0 tyX0 tyX0_ok nmX0 hown hK hP hD hS (27 + j) (KW_K c5 a (kKs k 4 j ((kK k 4 j) + (1 : Int32))) hj) rfl 5 (by decide) (hts _ wT3_63) (fun _ h9 => h9) rfl (by decide +kernel) rfl rfl (Nat.le_of_ble_eq_true rfl) dX0_countShelf_32 (fun H locs hP hD hS => ?_)
    have hP := wP (KW_setK c5 a (kKs k 4 j ((kK k 4 j) + (1 : Int32))) hj 4 (by decide) _) hP
    have hD := wD (KW_setK c5 a (kKs k 4 j ((kK k 4 j) + (1 : Int32))) hj 4 (by decide) _) hD
    obtain rfl := (Option.some.inj h)
    exact rw_vret (wf := fun u => KW c5 a u) hx hb hr hlocks hP hK hD hS dX0_countShelf_35
  · have h := o_f h q
    refine lv_aload_n hx hb dX0_countShelf_22 rfl (lv_at hl 0 rfl) ?_
    refine va_get (D := D) (ci := 0) (v := .int (kK (kKs k 4 j ((kK k 4 j) + (1 : Int32))) 5 j)) (C := RX0) (T := TX0) (N := 6) hx hb hts iX0 hown hK hP (27 + j) (KW_K c5 a (kKs k 4 j ((kK k 4 j) + (1 : Int32))) hj) rfl 5 (by decide) (hts _ wT3_63) (fun _ h9 => h9) rfl dX0_countShelf_23 ?_
    refine lv_iconst (v := (1 : Int32)) hx hb dX0_countShelf_26 (by decide) ?_
    refine lv_iadd hx hb dX0_countShelf_27 ?_
    refine lv_goto (tgt := 32) hx hb dX0_countShelf_28 (by decide) ?_
    refine va_put (D := D) (ci := 0) (v := .int ((kK (kKs k 4 j ((kK k 4 j) + (1 : Int32))) 5 j) + (1 : Int32))) (ty := .int) (C := RX0) (T := TX0) (N := 6) hx hb hts iX0 tyX0 tyX0_ok nmX0 hown hK hP hD hS (27 + j) (KW_K c5 a (kKs k 4 j ((kK k 4 j) + (1 : Int32))) hj) rfl 5 (by decide) (hts _ wT3_63) (fun _ h9 => h9) rfl (by decide +kernel) rfl rfl (Nat.le_of_ble_eq_true rfl) dX0_countShelf_32 (fun H locs hP hD hS => ?_)
    have hP := wP (KW_setK c5 a (kKs k 4 j ((kK k 4 j) + (1 : Int32))) hj 4 (by decide) _) hP
    have hD := wD (KW_setK c5 a (kKs k 4 j ((kK k 4 j) + (1 : Int32))) hj 4 (by decide) _) hD
    obtain rfl := (Option.some.inj h)
    exact rw_vret (wf := fun u => KW c5 a u) hx hb hr hlocks hP hK hD hS dX0_countShelf_35
set_option maxHeartbeats 4000000 in
set_option maxRecDepth 100000 in
theorem c_X0_shelvesFor (l : Launch) (D : va_G) (c5 : Nat → ClassId) (a : KAd) (k : KSt) (hI : KI a) (j : Nat) (hj : j < kN k) (p1 : Int32) (r : Int32) (h : R_X0_shelvesFor k j p1 = some r) : Met l yX0_shelvesFor (ws_ yX0_shelvesFor cX0_shelvesFor 2 (some .int)) { frames := 0, cells := 0, slots := 0, locals := 0 } (va_Pc [.ref (aK a j), .int p1] (roB D (tyG c5) (KW c5 a k))) (vp_Si (fun x => x = r)) 0 0 (fun _ => False) := by
  refine Met.ofW (cc := cX0_shelvesFor) (maxL := 2) (ret := (some .int)) (by decide) rfl ?_
  intro p e s m args below meth c s₁ B hml hv
  obtain ⟨rfl, hP, hK⟩ := hv
  have hx := B.exec
  have hb := B.bytes
  have hr := B.returns
  have hts : ∀ w ∈ LA, w.before _ s = true := fun w hw => atoms_spec (ws := ws_ yX0_shelvesFor cX0_shelvesFor 2 (some .int)) B.pre w (List.mem_cons_of_mem _ hw)
  have hown : s.vm.findClass RX0 = some m.cls := findClass_of_methodNamed B.named
  have hlocks := B.notSynchronized
  have hl := lv_entry ([.ref (aK a j), .int p1] : List Value) (n := 2) (Nat.le_of_ble_eq_true rfl)
  rw [lg_entry_eq]
  generalize (lg_sl ([.ref (aK a j), .int p1] : List Value) ++ List.replicate (2 - (lg_sl ([.ref (aK a j), .int p1] : List Value)).length) Slot.unset).toArray = ls at hl ⊢
  have hl : lv_has ls 2 [(0, .ref (aK a j)), (1, .int p1)] := hl
  unfold R_X0_shelvesFor at h
  refine lv_aload_n hx hb dX0_shelvesFor_0 rfl (lv_at hl 0 rfl) ?_
  refine va_get (D := D) (ci := 0) (v := .int (kK k 2 j)) (C := RX0) (T := TX0) (N := 6) hx hb hts iX0 hown hK hP (27 + j) (KW_K c5 a k hj) rfl 2 (by decide) (hts _ wT3_56) (fun _ h9 => h9) rfl dX0_shelvesFor_1 ?_
  refine lv_iconst (v := (1 : Int32)) hx hb dX0_shelvesFor_4 (by decide) ?_
  refine lv_icmp_ge (tgt := 12) hx hb dX0_shelvesFor_5 (by decide) (fun q => ?_) (fun q => ?_)
  · have h := o_t h q
    refine lv_iload_n hx hb dX0_shelvesFor_12 rfl (lv_at hl 1 rfl) ?_
    refine lv_aload_n hx hb dX0_shelvesFor_13 rfl (lv_at hl 0 rfl) ?_
    refine va_get (D := D) (ci := 0) (v := .int (kK k 2 j)) (C := RX0) (T := TX0) (N := 6) hx hb hts iX0 hown hK hP (27 + j) (KW_K c5 a k hj) rfl 2 (by decide) (hts _ wT3_56) (fun _ h9 => h9) rfl dX0_shelvesFor_14 ?_
    refine lv_iadd hx hb dX0_shelvesFor_17 ?_
    refine lv_iconst (v := (1 : Int32)) hx hb dX0_shelvesFor_18 (by decide) ?_
    refine lv_isub hx hb dX0_shelvesFor_19 ?_
    refine lv_aload_n hx hb dX0_shelvesFor_20 rfl (lv_at hl 0 rfl) ?_
    refine va_get (D := D) (ci := 0) (v := .int (kK k 2 j)) (C := RX0) (T := TX0) (N := 6) hx hb hts iX0 hown hK hP (27 + j) (KW_K c5 a k hj) rfl 2 (by decide) (hts _ wT3_56) (fun _ h9 => h9) rfl dX0_shelvesFor_21 ?_
    obtain ⟨g24, h⟩ := o_if h
    refine lv_idiv hx hb dX0_shelvesFor_24 g24 ?_
    exact ro_iret hx hb hr hlocks dX0_shelvesFor_25 (Option.some.inj h)
  · have h := o_f h q
    refine lv_iconst (v := (0 : Int32)) hx hb dX0_shelvesFor_8 (by decide) ?_
    refine lv_goto (tgt := 25) hx hb dX0_shelvesFor_9 (by decide) ?_
    exact ro_iret hx hb hr hlocks dX0_shelvesFor_25 (Option.some.inj h)
set_option maxHeartbeats 4000000 in
set_option maxRecDepth 100000 in
theorem c_X1_standsOn (l : Launch) (D : va_G) (c5 : Nat → ClassId) (a : KAd) (k : KSt) (hI : KI a) (i : Nat) (hi : i < 12) (p1 : Int32) (r : Int32) (h : R_X1_standsOn k i p1 = some r) : Met l yX1_standsOn (ws_ yX1_standsOn cX1_standsOn 2 (some .boolean)) { frames := 0, cells := 0, slots := 0, locals := 0 } (va_Pc [.ref (aS a i), .int p1] (roB D (tyG c5) (KW c5 a k))) (vp_Si (fun x => x = r)) 0 0 (fun _ => False) := by
  refine Met.ofW (cc := cX1_standsOn) (maxL := 2) (ret := (some .boolean)) (by decide) rfl ?_
  intro p e s m args below meth c s₁ B hml hv
  obtain ⟨rfl, hP, hK⟩ := hv
  have hx := B.exec
  have hb := B.bytes
  have hr := B.returns
  have hts : ∀ w ∈ LA, w.before _ s = true := fun w hw => atoms_spec (ws := ws_ yX1_standsOn cX1_standsOn 2 (some .boolean)) B.pre w (List.mem_cons_of_mem _ hw)
  have hown : s.vm.findClass RX1 = some m.cls := findClass_of_methodNamed B.named
  have hlocks := B.notSynchronized
  have hl := lv_entry ([.ref (aS a i), .int p1] : List Value) (n := 2) (Nat.le_of_ble_eq_true rfl)
  rw [lg_entry_eq]
  generalize (lg_sl ([.ref (aS a i), .int p1] : List Value) ++ List.replicate (2 - (lg_sl ([.ref (aS a i), .int p1] : List Value)).length) Slot.unset).toArray = ls at hl ⊢
  have hl : lv_has ls 2 [(0, .ref (aS a i)), (1, .int p1)] := hl
  unfold R_X1_standsOn at h
  refine lv_iload_n hx hb dX1_standsOn_0 rfl (lv_at hl 1 rfl) ?_
  refine lv_if_lt (tgt := 26) hx hb dX1_standsOn_1 (by decide) (fun q => ?_) (fun q => ?_)
  · have h := o_t h q
    refine lv_iconst (v := (0 : Int32)) hx hb dX1_standsOn_26 (by decide) ?_
    exact ro_zret hx hb hr hlocks dX1_standsOn_27 rfl (Option.some.inj h)
  · have h := o_f h q
    refine lv_iload_n hx hb dX1_standsOn_4 rfl (lv_at hl 1 rfl) ?_
    refine lv_aload_n hx hb dX1_standsOn_5 rfl (lv_at hl 0 rfl) ?_
    refine va_get (D := D) (ci := 1) (v := .ref (aB a i)) (C := RX1) (T := TX1) (N := 8) hx hb hts iX1 hown hK hP (3 + i) (KW_S c5 a k hi) rfl 1 (by decide) (hts _ wT1_30) (fun _ h9 => h9) rfl dX1_standsOn_6 ?_
    refine va_alen (v := (12 : Int32)) hx hb hK hP (15 + i) 2 (KW_B c5 a k hi) rfl rfl dX1_standsOn_9 ?_
    refine lv_icmp_ge (tgt := 26) hx hb dX1_standsOn_10 (by decide) (fun q => ?_) (fun q => ?_)
    · have h := o_t h q
      refine lv_iconst (v := (0 : Int32)) hx hb dX1_standsOn_26 (by decide) ?_
      exact ro_zret hx hb hr hlocks dX1_standsOn_27 rfl (Option.some.inj h)
    · have h := o_f h q
      refine lv_aload_n hx hb dX1_standsOn_13 rfl (lv_at hl 0 rfl) ?_
      refine va_get (D := D) (ci := 1) (v := .ref (aB a i)) (C := RX1) (T := TX1) (N := 8) hx hb hts iX1 hown hK hP (3 + i) (KW_S c5 a k hi) rfl 1 (by decide) (hts _ wT1_30) (fun _ h9 => h9) rfl dX1_standsOn_14 ?_
      refine lv_iload_n hx hb dX1_standsOn_17 rfl (lv_at hl 1 rfl) ?_
      obtain ⟨g18, h⟩ := o_if h
      refine va_zald hx hb hK hP (15 + i) 2 (KW_B c5 a k hi) rfl (inb_in g18) dX1_standsOn_18 ?_
      refine lv_if_eq (tgt := 26) hx hb dX1_standsOn_19 (by decide) (fun q => ?_) (fun q => ?_)
      · have h := o_t h q
        refine lv_iconst (v := (0 : Int32)) hx hb dX1_standsOn_26 (by decide) ?_
        exact ro_zret hx hb hr hlocks dX1_standsOn_27 rfl (Option.some.inj h)
      · have h := o_f h q
        refine lv_iconst (v := (1 : Int32)) hx hb dX1_standsOn_22 (by decide) ?_
        refine lv_goto (tgt := 27) hx hb dX1_standsOn_23 (by decide) ?_
        exact ro_zret hx hb hr hlocks dX1_standsOn_27 rfl (Option.some.inj h)
set_option maxHeartbeats 4000000 in
set_option maxRecDepth 100000 in
theorem c_X1_firstGap (l : Launch) (D : va_G) (c5 : Nat → ClassId) (a : KAd) (k : KSt) (hI : KI a) (i : Nat) (hi : i < 12) (r : Int32) (h : R_X1_firstGap k i = some r) : Met l yX1_firstGap (ws_ yX1_firstGap cX1_firstGap 2 (some .int)) { frames := 1, cells := 0, slots := 0, locals := 21 } (va_Pc [.ref (aS a i)] (roB D (tyG c5) (KW c5 a k))) (vp_Si (fun x => x = r)) 0 0 (fun _ => False) := by
  refine Met.ofW (cc := cX1_firstGap) (maxL := 2) (ret := (some .int)) (by decide) rfl ?_
  intro p e s m args below meth c s₁ B hml hv
  obtain ⟨rfl, hP, hK⟩ := hv
  have hx := B.exec
  have hb := B.bytes
  have hr := B.returns
  have hts : ∀ w ∈ LA, w.before _ s = true := fun w hw => atoms_spec (ws := ws_ yX1_firstGap cX1_firstGap 2 (some .int)) B.pre w (List.mem_cons_of_mem _ hw)
  have hown : s.vm.findClass RX1 = some m.cls := findClass_of_methodNamed B.named
  have hlocks := B.notSynchronized
  have hl := lv_entry ([.ref (aS a i)] : List Value) (n := 2) (Nat.le_of_ble_eq_true rfl)
  rw [lg_entry_eq]
  generalize (lg_sl ([.ref (aS a i)] : List Value) ++ List.replicate (2 - (lg_sl ([.ref (aS a i)] : List Value)).length) Slot.unset).toArray = ls at hl ⊢
  have hl : lv_has ls 2 [(0, .ref (aS a i))] := hl
  unfold R_X1_firstGap at h
  refine lv_iconst (v := (0 : Int32)) hx hb dX1_firstGap_0 (by decide) ?_
  refine lv_istore_n (i := 1) (lv' := [(1, .int (0 : Int32)), (0, .ref (aS a i))]) hx hb dX1_firstGap_1 rfl hl (by decide) rfl (fun ls hl => ?_)
  have L2 : ∀ (n : Nat) (x1_2 : Int32) (ls : Array Slot), lv_has ls 2 [(0, .ref (aS a i)), (1, .int x1_2)] → R_X1_firstGap_L2 k i n x1_2 = some r → W p l e (headSpec (ws_ yX1_firstGap cX1_firstGap 2 (some .int)) { frames := 1, cells := 0, slots := 0, locals := 21 }).room s m ([.ref (aS a i)] : List Value).toArray below meth c s.heap [] 0 0 (MQ below (vp_Si (fun x => x = r)) ([.ref (aS a i)] : List Value).toArray s 0 0 (fun _ => False)) (F0 m 2 ls []) := by
    intro n
    induction n with
    | zero =>
      intro x1_2 ls hl h
      exact absurd h (by simp [R_X1_firstGap_L2])
    | succ n ih =>
      intro x1_2 ls hl h
      rw [R_X1_firstGap_L2] at h
      refine lv_iload_n hx hb dX1_firstGap_2 rfl (lv_at hl 1 rfl) ?_
      refine lv_aload_n hx hb dX1_firstGap_3 rfl (lv_at hl 0 rfl) ?_
      refine va_get (D := D) (ci := 1) (v := .int (kS k 4 i)) (C := RX1) (T := TX1) (N := 8) hx hb hts iX1 hown hK hP (3 + i) (KW_S c5 a k hi) rfl 4 (by decide) (hts _ wT1_35) (fun _ h9 => h9) rfl dX1_firstGap_4 ?_
      refine lv_icmp_ge (tgt := 26) hx hb dX1_firstGap_7 (by decide) (fun q => ?_) (fun q => ?_)
      · have h := o_t h q
        refine lv_iconst (v := (-1 : Int32)) hx hb dX1_firstGap_26 (by decide) ?_
        exact ro_iret hx hb hr hlocks dX1_firstGap_27 (Option.some.inj h)
      · have h := o_f h q
        refine lv_aload_n hx hb dX1_firstGap_10 rfl (lv_at hl 0 rfl) ?_
        refine lv_iload_n hx hb dX1_firstGap_11 rfl (lv_at hl 1 rfl) ?_
        obtain ⟨v12, e12, h⟩ := o_bind h
        refine ro_calli (ro_runV (As := [.int x1_2]) (rest := []) ⟨hx, hb, hml, hown, hts⟩ hP hK (c_X1_standsOn l D c5 a k hI i hi x1_2 v12 e12) gG_RX1_54 (va_recv hK hP (ci := 1) (q0 := (3 + i)) rfl (KW_S c5 a k hi)) hd_X1_standsOn ⟨Nat.le_of_ble_eq_true rfl, Nat.le_of_ble_eq_true rfl⟩ ⟨rfl, rfl⟩ hl.1 (Nat.le_of_ble_eq_true rfl) dX1_firstGap_12 ⟨Nat.zero_le _, Nat.zero_le _⟩ rfl) ?_
        refine lv_if_ne (tgt := 20) hx hb dX1_firstGap_15 (by decide) (fun q => ?_) (fun q => ?_)
        · have h := o_t' h q
          refine lv_iinc (v := (x1_2 + (1 : Int32))) (lv' := [(1, .int (x1_2 + (1 : Int32))), (0, .ref (aS a i))]) hx hb dX1_firstGap_20 hl (k := 1) rfl rfl (by decide) rfl (fun ls hl => ?_)
          refine lv_goto (tgt := 2) hx hb dX1_firstGap_23 (by decide) ?_
          exact ih (x1_2 + (1 : Int32))  ls (lv_sub hl [1, 0] rfl) h
        · have h := o_f' h q
          refine lv_iload_n hx hb dX1_firstGap_18 rfl (lv_at hl 1 rfl) ?_
          exact ro_iret hx hb hr hlocks dX1_firstGap_19 (Option.some.inj h)
  exact L2 FU (0 : Int32)  ls (lv_sub hl [1, 0] rfl) h
set_option maxHeartbeats 4000000 in
set_option maxRecDepth 100000 in
theorem c_X1_answer (l : Launch) (D : va_G) (c5 : Nat → ClassId) (a : KAd) (k : KSt) (hI : KI a) (i : Nat) (hi : i < 12) (p1 : Int32) (r : Int32) (h : R_X1_answer k i p1 = some r) : Met l yX1_answer (ws_ yX1_answer cX1_answer 2 (some .int)) { frames := 2, cells := 0, slots := 0, locals := 42 } (va_Pc [.ref (aS a i), .int p1] (roB D (tyG c5) (KW c5 a k))) (vp_Si (fun x => x = r)) 0 0 (fun _ => False) := by
  refine Met.ofW (cc := cX1_answer) (maxL := 2) (ret := (some .int)) (by decide) rfl ?_
  intro p e s m args below meth c s₁ B hml hv
  obtain ⟨rfl, hP, hK⟩ := hv
  have hx := B.exec
  have hb := B.bytes
  have hr := B.returns
  have hts : ∀ w ∈ LA, w.before _ s = true := fun w hw => atoms_spec (ws := ws_ yX1_answer cX1_answer 2 (some .int)) B.pre w (List.mem_cons_of_mem _ hw)
  have hown : s.vm.findClass RX1 = some m.cls := findClass_of_methodNamed B.named
  have hlocks := B.notSynchronized
  have hl := lv_entry ([.ref (aS a i), .int p1] : List Value) (n := 2) (Nat.le_of_ble_eq_true rfl)
  rw [lg_entry_eq]
  generalize (lg_sl ([.ref (aS a i), .int p1] : List Value) ++ List.replicate (2 - (lg_sl ([.ref (aS a i), .int p1] : List Value)).length) Slot.unset).toArray = ls at hl ⊢
  have hl : lv_has ls 2 [(0, .ref (aS a i)), (1, .int p1)] := hl
  unfold R_X1_answer at h
  refine lv_iload_n hx hb dX1_answer_0 rfl (lv_at hl 1 rfl) ?_
  rcases Decidable.em (p1 = 0) with c1_0 | c1_0
  · have h := o_t h c1_0
    refine lv_tableIn (off := 35) (tgt := 36) hx hb dX1_answer_1 (by rw [c1_0]; decide) (by rw [c1_0]; decide) (by rw [c1_0]; rfl) (by decide) ?_
    refine lv_aload_n hx hb dX1_answer_36 rfl (lv_at hl 0 rfl) ?_
    refine va_get (D := D) (ci := 1) (v := .int (kS k 2 i)) (C := RX1) (T := TX1) (N := 8) hx hb hts iX1 hown hK hP (3 + i) (KW_S c5 a k hi) rfl 2 (by decide) (hts _ wT1_31) (fun _ h9 => h9) rfl dX1_answer_37 ?_
    exact ro_iret hx hb hr hlocks dX1_answer_40 (Option.some.inj h)
  · have h := o_f h c1_0
    rcases Decidable.em (p1 = 1) with c1_1 | c1_1
    · have h := o_t h c1_1
      refine lv_tableIn (off := 40) (tgt := 41) hx hb dX1_answer_1 (by rw [c1_1]; decide) (by rw [c1_1]; decide) (by rw [c1_1]; rfl) (by decide) ?_
      refine lv_aload_n hx hb dX1_answer_41 rfl (lv_at hl 0 rfl) ?_
      refine va_get (D := D) (ci := 1) (v := .int (kS k 6 i)) (C := RX1) (T := TX1) (N := 8) hx hb hts iX1 hown hK hP (3 + i) (KW_S c5 a k hi) rfl 6 (by decide) (hts _ wT1_38) (fun _ h9 => h9) rfl dX1_answer_42 ?_
      exact ro_iret hx hb hr hlocks dX1_answer_45 (Option.some.inj h)
    · have h := o_f h c1_1
      rcases Decidable.em (p1 = 2) with c1_2 | c1_2
      · have h := o_t h c1_2
        refine lv_tableIn (off := 45) (tgt := 46) hx hb dX1_answer_1 (by rw [c1_2]; decide) (by rw [c1_2]; decide) (by rw [c1_2]; rfl) (by decide) ?_
        refine lv_aload_n hx hb dX1_answer_46 rfl (lv_at hl 0 rfl) ?_
        refine va_get (D := D) (ci := 1) (v := .int (kS k 5 i)) (C := RX1) (T := TX1) (N := 8) hx hb hts iX1 hown hK hP (3 + i) (KW_S c5 a k hi) rfl 5 (by decide) (hts _ wT1_37) (fun _ h9 => h9) rfl dX1_answer_47 ?_
        exact ro_iret hx hb hr hlocks dX1_answer_50 (Option.some.inj h)
      · have h := o_f h c1_2
        rcases Decidable.em (p1 = 3) with c1_3 | c1_3
        · have h := o_t h c1_3
          refine lv_tableIn (off := 50) (tgt := 51) hx hb dX1_answer_1 (by rw [c1_3]; decide) (by rw [c1_3]; decide) (by rw [c1_3]; rfl) (by decide) ?_
          refine lv_aload_n hx hb dX1_answer_51 rfl (lv_at hl 0 rfl) ?_
          refine va_get (D := D) (ci := 1) (v := .int (kS k 4 i)) (C := RX1) (T := TX1) (N := 8) hx hb hts iX1 hown hK hP (3 + i) (KW_S c5 a k hi) rfl 4 (by decide) (hts _ wT1_35) (fun _ h9 => h9) rfl dX1_answer_52 ?_
          exact ro_iret hx hb hr hlocks dX1_answer_55 (Option.some.inj h)
        · have h := o_f h c1_3
          rcases Decidable.em (p1 = 4) with c1_4 | c1_4
          · have h := o_t h c1_4
            refine lv_tableIn (off := 55) (tgt := 56) hx hb dX1_answer_1 (by rw [c1_4]; decide) (by rw [c1_4]; decide) (by rw [c1_4]; rfl) (by decide) ?_
            refine lv_aload_n hx hb dX1_answer_56 rfl (lv_at hl 0 rfl) ?_
            obtain ⟨v57, e57, h⟩ := o_bind h
            refine ro_calli (ro_runV (As := []) (rest := []) ⟨hx, hb, hml, hown, hts⟩ hP hK (c_X1_firstGap l D c5 a k hI i hi v57 e57) gG_RX1_37 (va_recv hK hP (ci := 1) (q0 := (3 + i)) rfl (KW_S c5 a k hi)) hd_X1_firstGap ⟨Nat.le_of_ble_eq_true rfl, Nat.le_of_ble_eq_true rfl⟩ ⟨rfl, rfl⟩ hl.1 (Nat.le_of_ble_eq_true rfl) dX1_answer_57 ⟨Nat.zero_le _, Nat.zero_le _⟩ rfl) ?_
            exact ro_iret hx hb hr hlocks dX1_answer_60 (Option.some.inj h)
          · have h := o_f h c1_4
            have n1_0 := lv_neT (a := 0) c1_0 rfl
            have n1_1 := lv_neT (a := 1) c1_1 rfl
            have n1_2 := lv_neT (a := 2) c1_2 rfl
            have n1_3 := lv_neT (a := 3) c1_3 rfl
            have n1_4 := lv_neT (a := 4) c1_4 rfl
            refine lv_tableOut (tgt := 61) hx hb dX1_answer_1 (by omega) (by decide) ?_
            refine lv_aload_n hx hb dX1_answer_61 rfl (lv_at hl 0 rfl) ?_
            refine va_get (D := D) (ci := 1) (v := .int (kS k 7 i)) (C := RX1) (T := TX1) (N := 8) hx hb hts iX1 hown hK hP (3 + i) (KW_S c5 a k hi) rfl 7 (by decide) (hts _ wT1_40) (fun _ h9 => h9) rfl dX1_answer_62 ?_
            exact ro_iret hx hb hr hlocks dX1_answer_65 (Option.some.inj h)
set_option maxHeartbeats 4000000 in
set_option maxRecDepth 100000 in
theorem c_X1_state (l : Launch) (D : va_G) (c5 : Nat → ClassId) (a : KAd) (k : KSt) (hI : KI a) (i : Nat) (hi : i < 12) (r : Int32) (h : R_X1_state k i = some r) : Met l yX1_state (ws_ yX1_state cX1_state 1 (some .int)) { frames := 0, cells := 0, slots := 0, locals := 0 } (va_Pc [.ref (aS a i)] (roB D (tyG c5) (KW c5 a k))) (vp_Si (fun x => x = r)) 0 0 (fun _ => False) := by
  refine Met.ofW (cc := cX1_state) (maxL := 1) (ret := (some .int)) (by decide) rfl ?_
  intro p e s m args below meth c s₁ B hml hv
  obtain ⟨rfl, hP, hK⟩ := hv
  have hx := B.exec
  have hb := B.bytes
  have hr := B.returns
  have hts : ∀ w ∈ LA, w.before _ s = true := fun w hw => atoms_spec (ws := ws_ yX1_state cX1_state 1 (some .int)) B.pre w (List.mem_cons_of_mem _ hw)
  have hown : s.vm.findClass RX1 = some m.cls := findClass_of_methodNamed B.named
  have hlocks := B.notSynchronized
  have hl := lv_entry ([.ref (aS a i)] : List Value) (n := 1) (Nat.le_of_ble_eq_true rfl)
  rw [lg_entry_eq]
  generalize (lg_sl ([.ref (aS a i)] : List Value) ++ List.replicate (1 - (lg_sl ([.ref (aS a i)] : List Value)).length) Slot.unset).toArray = ls at hl ⊢
  have hl : lv_has ls 1 [(0, .ref (aS a i))] := hl
  unfold R_X1_state at h
  refine lv_aload_n hx hb dX1_state_0 rfl (lv_at hl 0 rfl) ?_
  refine va_get (D := D) (ci := 1) (v := .int (kS k 2 i)) (C := RX1) (T := TX1) (N := 8) hx hb hts iX1 hown hK hP (3 + i) (KW_S c5 a k hi) rfl 2 (by decide) (hts _ wT1_31) (fun _ h9 => h9) rfl dX1_state_1 ?_
  refine lv_iconst (v := (-1 : Int32)) hx hb dX1_state_4 (by decide) ?_
  refine lv_icmp_ne (tgt := 10) hx hb dX1_state_5 (by decide) (fun q => ?_) (fun q => ?_)
  · have h := o_t' h q
    refine lv_aload_n hx hb dX1_state_10 rfl (lv_at hl 0 rfl) ?_
    refine va_get (D := D) (ci := 1) (v := .int (kS k 6 i)) (C := RX1) (T := TX1) (N := 8) hx hb hts iX1 hown hK hP (3 + i) (KW_S c5 a k hi) rfl 6 (by decide) (hts _ wT1_38) (fun _ h9 => h9) rfl dX1_state_11 ?_
    refine lv_if_ne (tgt := 19) hx hb dX1_state_14 (by decide) (fun q => ?_) (fun q => ?_)
    · have h := o_t' h q
      refine lv_aload_n hx hb dX1_state_19 rfl (lv_at hl 0 rfl) ?_
      refine va_get (D := D) (ci := 1) (v := .int (kS k 6 i)) (C := RX1) (T := TX1) (N := 8) hx hb hts iX1 hown hK hP (3 + i) (KW_S c5 a k hi) rfl 6 (by decide) (hts _ wT1_38) (fun _ h9 => h9) rfl dX1_state_20 ?_
      refine lv_aload_n hx hb dX1_state_23 rfl (lv_at hl 0 rfl) ?_
      refine va_get (D := D) (ci := 1) (v := .int (kS k 4 i)) (C := RX1) (T := TX1) (N := 8) hx hb hts iX1 hown hK hP (3 + i) (KW_S c5 a k hi) rfl 4 (by decide) (hts _ wT1_35) (fun _ h9 => h9) rfl dX1_state_24 ?_
      refine lv_icmp_ge (tgt := 34) hx hb dX1_state_27 (by decide) (fun q => ?_) (fun q => ?_)
      · have h := o_t h q
        refine lv_iconst (v := (3 : Int32)) hx hb dX1_state_34 (by decide) ?_
        exact ro_iret hx hb hr hlocks dX1_state_35 (Option.some.inj h)
      · have h := o_f h q
        refine lv_iconst (v := (2 : Int32)) hx hb dX1_state_30 (by decide) ?_
        refine lv_goto (tgt := 35) hx hb dX1_state_31 (by decide) ?_
        exact ro_iret hx hb hr hlocks dX1_state_35 (Option.some.inj h)
    · have h := o_f' h q
      refine lv_iconst (v := (1 : Int32)) hx hb dX1_state_17 (by decide) ?_
      exact ro_iret hx hb hr hlocks dX1_state_18 (Option.some.inj h)
  · have h := o_f' h q
    refine lv_iconst (v := (0 : Int32)) hx hb dX1_state_8 (by decide) ?_
    exact ro_iret hx hb hr hlocks dX1_state_9 (Option.some.inj h)
set_option maxHeartbeats 4000000 in
set_option maxRecDepth 100000 in
theorem c_X1_isOf (l : Launch) (D : va_G) (c5 : Nat → ClassId) (a : KAd) (k : KSt) (hI : KI a) (i : Nat) (hi : i < 12) (j1 : Nat) (hj1 : j1 < kN k) (r : Int32) (h : R_X1_isOf k i j1 = some r) : Met l yX1_isOf (ws_ yX1_isOf cX1_isOf 2 (some .boolean)) { frames := 0, cells := 0, slots := 0, locals := 0 } (va_Pc [.ref (aS a i), .ref (aK a j1)] (roB D (tyG c5) (KW c5 a k))) (vp_Si (fun x => x = r)) 0 0 (fun _ => False) := by
  refine Met.ofW (cc := cX1_isOf) (maxL := 2) (ret := (some .boolean)) (by decide) rfl ?_
  intro p e s m args below meth c s₁ B hml hv
  obtain ⟨rfl, hP, hK⟩ := hv
  have hx := B.exec
  have hb := B.bytes
  have hr := B.returns
  have hts : ∀ w ∈ LA, w.before _ s = true := fun w hw => atoms_spec (ws := ws_ yX1_isOf cX1_isOf 2 (some .boolean)) B.pre w (List.mem_cons_of_mem _ hw)
  have hown : s.vm.findClass RX1 = some m.cls := findClass_of_methodNamed B.named
  have hlocks := B.notSynchronized
  have hl := lv_entry ([.ref (aS a i), .ref (aK a j1)] : List Value) (n := 2) (Nat.le_of_ble_eq_true rfl)
  rw [lg_entry_eq]
  generalize (lg_sl ([.ref (aS a i), .ref (aK a j1)] : List Value) ++ List.replicate (2 - (lg_sl ([.ref (aS a i), .ref (aK a j1)] : List Value)).length) Slot.unset).toArray = ls at hl ⊢
  have hl : lv_has ls 2 [(0, .ref (aS a i)), (1, .ref (aK a j1))] := hl
  unfold R_X1_isOf at h
  refine lv_aload_n hx hb dX1_isOf_0 rfl (lv_at hl 0 rfl) ?_
  refine va_get (D := D) (ci := 1) (v := .int (kS k 2 i)) (C := RX1) (T := TX1) (N := 8) hx hb hts iX1 hown hK hP (3 + i) (KW_S c5 a k hi) rfl 2 (by decide) (hts _ wT1_31) (fun _ h9 => h9) rfl dX1_isOf_1 ?_
  refine lv_aload_n hx hb dX1_isOf_4 rfl (lv_at hl 1 rfl) ?_
  refine va_get (D := D) (ci := 0) (v := .int (nI j1)) (C := RX0) (T := TX0) (N := 6) hx hb hts iX0 hown hK hP (27 + j1) (KW_K c5 a k hj1) rfl 0 (by decide) (hts _ wT3_51) (fun _ h9 => h9) rfl dX1_isOf_5 ?_
  refine lv_icmp_ne (tgt := 15) hx hb dX1_isOf_8 (by decide) (fun q => ?_) (fun q => ?_)
  · have h := o_t' h q
    refine lv_iconst (v := (0 : Int32)) hx hb dX1_isOf_15 (by decide) ?_
    exact ro_zret hx hb hr hlocks dX1_isOf_16 rfl (Option.some.inj h)
  · have h := o_f' h q
    refine lv_iconst (v := (1 : Int32)) hx hb dX1_isOf_11 (by decide) ?_
    refine lv_goto (tgt := 16) hx hb dX1_isOf_12 (by decide) ?_
    exact ro_zret hx hb hr hlocks dX1_isOf_16 rfl (Option.some.inj h)
set_option maxHeartbeats 4000000 in
set_option maxRecDepth 100000 in
theorem c_X1_comeTo (l : Launch) (D : va_G) (c5 : Nat → ClassId) (a : KAd) (k : KSt) (hI : KI a) (sz : Nat) (i : Nat) (hi : i < 12) (j1 : Nat) (hj1 : j1 < kN k) (r : KSt) (h : R_X1_comeTo k i j1 = some r) : Met l yX1_comeTo (ws_ yX1_comeTo cX1_comeTo 2 none) { frames := 1, cells := 0, slots := 0, locals := 20 } (va_Pc [.ref (aS a i), .ref (aK a j1)] (rwB D (tyG c5) (KW c5 a k) sz)) (va_Qv (fun u => u = r) (rwE D (tyG c5) (va_A (KW c5 a k) sz) (fun u => KW c5 a u)) (va_A (KW c5 a k) sz)) 0 0 (va_A (KW c5 a k) sz) := by
  refine Met.ofW (cc := cX1_comeTo) (maxL := 2) (ret := none) (by decide) rfl ?_
  intro p e s m args below meth c s₁ B hml hv
  obtain ⟨rfl, hsz, hP, hK, hD0⟩ := hv
  have hx := B.exec
  have hb := B.bytes
  have hr := B.returns
  have hts : ∀ w ∈ LA, w.before _ s = true := fun w hw => atoms_spec (ws := ws_ yX1_comeTo cX1_comeTo 2 none) B.pre w (List.mem_cons_of_mem _ hw)
  have hown : s.vm.findClass RX1 = some m.cls := findClass_of_methodNamed B.named
  have hlocks := B.notSynchronized
  subst hsz
  have hD := hD0.self (sz := s.heap.size)
  generalize hAe : va_A (KW c5 a k) s.heap.size = A at hD ⊢
  have hA : ∀ q : Nat, s.heap.size ≤ q → A q := fun q h => by rw [← hAe]; exact Or.inr h
  have hS : va_S A s.heap s.heap [] := va_S.rf
  have hl := lv_entry ([.ref (aS a i), .ref (aK a j1)] : List Value) (n := 2) (Nat.le_of_ble_eq_true rfl)
  rw [lg_entry_eq]
  generalize (lg_sl ([.ref (aS a i), .ref (aK a j1)] : List Value) ++ List.replicate (2 - (lg_sl ([.ref (aS a i), .ref (aK a j1)] : List Value)).length) Slot.unset).toArray = ls at hl ⊢
  have hl : lv_has ls 2 [(0, .ref (aS a i)), (1, .ref (aK a j1))] := hl
  unfold R_X1_comeTo at h
  refine lv_aload_n hx hb dX1_comeTo_0 rfl (lv_at hl 0 rfl) ?_
  refine lv_aload_n hx hb dX1_comeTo_1 rfl (lv_at hl 1 rfl) ?_
  refine va_get (D := D) (ci := 0) (v := .int (nI j1)) (C := RX0) (T := TX0) (N := 6) hx hb hts iX0 hown hK hP (27 + j1) (KW_K c5 a k hj1) rfl 0 (by decide) (hts _ wT3_51) (fun _ h9 => h9) rfl dX1_comeTo_2 ?_
  refine va_put (D := D) (ci := 1) (v := .int (nI j1)) (ty := .int) (C := RX1) (T := TX1) (N := 8) hx hb hts iX1 tyX1 tyX1_ok nmX1 hown hK hP hD hS (3 + i) (KW_S c5 a k hi) rfl 2 (by decide) (hts _ wT1_31) (fun _ h9 => h9) rfl (by decide +kernel) rfl rfl (Nat.le_of_ble_eq_true rfl) dX1_comeTo_5 (fun H locs hP hD hS => ?_)
  have hP := wP (KW_setS c5 a k hi 0 (by decide) _) hP
  have hD := wD (KW_setS c5 a k hi 0 (by decide) _) hD
  refine lv_aload_n hx hb dX1_comeTo_8 rfl (lv_at hl 0 rfl) ?_
  refine lv_aload_n hx hb dX1_comeTo_9 rfl (lv_at hl 1 rfl) ?_
  refine va_get (D := D) (ci := 0) (v := .int (kK (kSs k 2 i (nI j1)) 1 j1)) (C := RX0) (T := TX0) (N := 6) hx hb hts iX0 hown hK hP (27 + j1) (KW_K c5 a (kSs k 2 i (nI j1)) hj1) rfl 1 (by decide) (hts _ wT3_54) (fun _ h9 => h9) rfl dX1_comeTo_10 ?_
  refine va_put (D := D) (ci := 1) (v := .int (kK (kSs k 2 i (nI j1)) 1 j1)) (ty := .int) (C := RX1) (T := TX1) (N := 8) hx hb hts iX1 tyX1 tyX1_ok nmX1 hown hK hP hD hS (3 + i) (KW_S c5 a (kSs k 2 i (nI j1)) hi) rfl 3 (by decide) (hts _ wT1_33) (fun _ h9 => h9) rfl (by decide +kernel) rfl rfl (Nat.le_of_ble_eq_true rfl) dX1_comeTo_13 (fun H locs hP hD hS => ?_)
  have hP := wP (KW_setS c5 a (kSs k 2 i (nI j1)) hi 1 (by decide) _) hP
  have hD := wD (KW_setS c5 a (kSs k 2 i (nI j1)) hi 1 (by decide) _) hD
  refine lv_aload_n hx hb dX1_comeTo_16 rfl (lv_at hl 0 rfl) ?_
  refine lv_aload_n hx hb dX1_comeTo_17 rfl (lv_at hl 1 rfl) ?_
  refine va_get (D := D) (ci := 0) (v := .int (kK (kSs (kSs k 2 i (nI j1)) 3 i (kK (kSs k 2 i (nI j1)) 1 j1)) 2 j1)) (C := RX0) (T := TX0) (N := 6) hx hb hts iX0 hown hK hP (27 + j1) (KW_K c5 a (kSs (kSs k 2 i (nI j1)) 3 i (kK (kSs k 2 i (nI j1)) 1 j1)) hj1) rfl 2 (by decide) (hts _ wT3_57) (fun _ h9 => h9) rfl dX1_comeTo_18 ?_
  refine va_put (D := D) (ci := 1) (v := .int (kK (kSs (kSs k 2 i (nI j1)) 3 i (kK (kSs k 2 i (nI j1)) 1 j1)) 2 j1)) (ty := .int) (C := RX1) (T := TX1) (N := 8) hx hb hts iX1 tyX1 tyX1_ok nmX1 hown hK hP hD hS (3 + i) (KW_S c5 a (kSs (kSs k 2 i (nI j1)) 3 i (kK (kSs k 2 i (nI j1)) 1 j1)) hi) rfl 4 (by decide) (hts _ wT1_35) (fun _ h9 => h9) rfl (by decide +kernel) rfl rfl (Nat.le_of_ble_eq_true rfl) dX1_comeTo_21 (fun H locs hP hD hS => ?_)
  have hP := wP (KW_setS c5 a (kSs (kSs k 2 i (nI j1)) 3 i (kK (kSs k 2 i (nI j1)) 1 j1)) hi 2 (by decide) _) hP
  have hD := wD (KW_setS c5 a (kSs (kSs k 2 i (nI j1)) 3 i (kK (kSs k 2 i (nI j1)) 1 j1)) hi 2 (by decide) _) hD
  refine lv_aload_n hx hb dX1_comeTo_24 rfl (lv_at hl 0 rfl) ?_
  refine lv_aload_n hx hb dX1_comeTo_25 rfl (lv_at hl 1 rfl) ?_
  refine va_get (D := D) (ci := 0) (v := .int (kK (kSs (kSs (kSs k 2 i (nI j1)) 3 i (kK (kSs k 2 i (nI j1)) 1 j1)) 4 i (kK (kSs (kSs k 2 i (nI j1)) 3 i (kK (kSs k 2 i (nI j1)) 1 j1)) 2 j1)) 5 j1)) (C := RX0) (T := TX0) (N := 6) hx hb hts iX0 hown hK hP (27 + j1) (KW_K c5 a (kSs (kSs (kSs k 2 i (nI j1)) 3 i (kK (kSs k 2 i (nI j1)) 1 j1)) 4 i (kK (kSs (kSs k 2 i (nI j1)) 3 i (kK (kSs k 2 i (nI j1)) 1 j1)) 2 j1)) hj1) rfl 5 (by decide) (hts _ wT3_64) (fun _ h9 => h9) rfl dX1_comeTo_26 ?_
  refine va_put (D := D) (ci := 1) (v := .int (kK (kSs (kSs (kSs k 2 i (nI j1)) 3 i (kK (kSs k 2 i (nI j1)) 1 j1)) 4 i (kK (kSs (kSs k 2 i (nI j1)) 3 i (kK (kSs k 2 i (nI j1)) 1 j1)) 2 j1)) 5 j1)) (ty := .int) (C := RX1) (T := TX1) (N := 8) hx hb hts iX1 tyX1 tyX1_ok nmX1 hown hK hP hD hS (3 + i) (KW_S c5 a (kSs (kSs (kSs k 2 i (nI j1)) 3 i (kK (kSs k 2 i (nI j1)) 1 j1)) 4 i (kK (kSs (kSs k 2 i (nI j1)) 3 i (kK (kSs k 2 i (nI j1)) 1 j1)) 2 j1)) hi) rfl 5 (by decide) (hts _ wT1_37) (fun _ h9 => h9) rfl (by decide +kernel) rfl rfl (Nat.le_of_ble_eq_true rfl) dX1_comeTo_29 (fun H locs hP hD hS => ?_)
  have hP := wP (KW_setS c5 a (kSs (kSs (kSs k 2 i (nI j1)) 3 i (kK (kSs k 2 i (nI j1)) 1 j1)) 4 i (kK (kSs (kSs k 2 i (nI j1)) 3 i (kK (kSs k 2 i (nI j1)) 1 j1)) 2 j1)) hi 3 (by decide) _) hP
  have hD := wD (KW_setS c5 a (kSs (kSs (kSs k 2 i (nI j1)) 3 i (kK (kSs k 2 i (nI j1)) 1 j1)) 4 i (kK (kSs (kSs k 2 i (nI j1)) 3 i (kK (kSs k 2 i (nI j1)) 1 j1)) 2 j1)) hi 3 (by decide) _) hD
  refine lv_aload_n hx hb dX1_comeTo_32 rfl (lv_at hl 1 rfl) ?_
  obtain ⟨v33, e33, h⟩ := o_bind h
  refine rw_callv (rw_runV (As := []) (rest := []) ⟨hx, hb, hml, hown, hts⟩ hP hK hD (c_X0_countShelf l D c5 a (kSs (kSs (kSs (kSs k 2 i (nI j1)) 3 i (kK (kSs k 2 i (nI j1)) 1 j1)) 4 i (kK (kSs (kSs k 2 i (nI j1)) 3 i (kK (kSs k 2 i (nI j1)) 1 j1)) 2 j1)) 5 i (kK (kSs (kSs (kSs k 2 i (nI j1)) 3 i (kK (kSs k 2 i (nI j1)) 1 j1)) 4 i (kK (kSs (kSs k 2 i (nI j1)) 3 i (kK (kSs k 2 i (nI j1)) 1 j1)) 2 j1)) 5 j1)) hI H.size j1 hj1 v33 e33) gG_RX1_51 (va_recv hK hP (ci := 0) (q0 := (27 + j1)) rfl (KW_K c5 a (kSs (kSs (kSs (kSs k 2 i (nI j1)) 3 i (kK (kSs k 2 i (nI j1)) 1 j1)) 4 i (kK (kSs (kSs k 2 i (nI j1)) 3 i (kK (kSs k 2 i (nI j1)) 1 j1)) 2 j1)) 5 i (kK (kSs (kSs (kSs k 2 i (nI j1)) 3 i (kK (kSs k 2 i (nI j1)) 1 j1)) 4 i (kK (kSs (kSs k 2 i (nI j1)) 3 i (kK (kSs k 2 i (nI j1)) 1 j1)) 2 j1)) 5 j1)) hj1)) hd_X0_countShelf ⟨Nat.le_of_ble_eq_true rfl, Nat.le_of_ble_eq_true rfl⟩ ⟨rfl, rfl⟩ hl.1 (Nat.le_of_ble_eq_true rfl) dX1_comeTo_33 ⟨Nat.le_of_ble_eq_true rfl, Nat.le_of_ble_eq_true rfl⟩ rfl) hD hS hA (fun H locs hP hD hS => ?_)
  obtain rfl := (Option.some.inj h)
  exact rw_vret (wf := fun u => KW c5 a u) hx hb hr hlocks hP hK hD hS dX1_comeTo_36
set_option maxHeartbeats 4000000 in
set_option maxRecDepth 100000 in
theorem c_X1_becomeFree (l : Launch) (D : va_G) (c5 : Nat → ClassId) (a : KAd) (k : KSt) (hI : KI a) (sz : Nat) (i : Nat) (hi : i < 12) (r : KSt) (h : R_X1_becomeFree k i = some r) : Met l yX1_becomeFree (ws_ yX1_becomeFree cX1_becomeFree 1 none) { frames := 0, cells := 0, slots := 0, locals := 0 } (va_Pc [.ref (aS a i)] (rwB D (tyG c5) (KW c5 a k) sz)) (va_Qv (fun u => u = r) (rwE D (tyG c5) (va_A (KW c5 a k) sz) (fun u => KW c5 a u)) (va_A (KW c5 a k) sz)) 0 0 (va_A (KW c5 a k) sz) := by
  refine Met.ofW (cc := cX1_becomeFree) (maxL := 1) (ret := none) (by decide) rfl ?_
  intro p e s m args below meth c s₁ B hml hv
  obtain ⟨rfl, hsz, hP, hK, hD0⟩ := hv
  have hx := B.exec
  have hb := B.bytes
  have hr := B.returns
  have hts : ∀ w ∈ LA, w.before _ s = true := fun w hw => atoms_spec (ws := ws_ yX1_becomeFree cX1_becomeFree 1 none) B.pre w (List.mem_cons_of_mem _ hw)
  have hown : s.vm.findClass RX1 = some m.cls := findClass_of_methodNamed B.named
  have hlocks := B.notSynchronized
  subst hsz
  have hD := hD0.self (sz := s.heap.size)
  generalize hAe : va_A (KW c5 a k) s.heap.size = A at hD ⊢
  have hA : ∀ q : Nat, s.heap.size ≤ q → A q := fun q h => by rw [← hAe]; exact Or.inr h
  have hS : va_S A s.heap s.heap [] := va_S.rf
  have hl := lv_entry ([.ref (aS a i)] : List Value) (n := 1) (Nat.le_of_ble_eq_true rfl)
  rw [lg_entry_eq]
  generalize (lg_sl ([.ref (aS a i)] : List Value) ++ List.replicate (1 - (lg_sl ([.ref (aS a i)] : List Value)).length) Slot.unset).toArray = ls at hl ⊢
  have hl : lv_has ls 1 [(0, .ref (aS a i))] := hl
  unfold R_X1_becomeFree at h
  refine lv_aload_n hx hb dX1_becomeFree_0 rfl (lv_at hl 0 rfl) ?_
  refine lv_iconst (v := (-1 : Int32)) hx hb dX1_becomeFree_1 (by decide) ?_
  refine va_put (D := D) (ci := 1) (v := .int (-1 : Int32)) (ty := .int) (C := RX1) (T := TX1) (N := 8) hx hb hts iX1 tyX1 tyX1_ok nmX1 hown hK hP hD hS (3 + i) (KW_S c5 a k hi) rfl 2 (by decide) (hts _ wT1_31) (fun _ h9 => h9) rfl (by decide +kernel) rfl rfl (Nat.le_of_ble_eq_true rfl) dX1_becomeFree_2 (fun H locs hP hD hS => ?_)
  have hP := wP (KW_setS c5 a k hi 0 (by decide) _) hP
  have hD := wD (KW_setS c5 a k hi 0 (by decide) _) hD
  refine lv_aload_n hx hb dX1_becomeFree_5 rfl (lv_at hl 0 rfl) ?_
  refine lv_iconst (v := (0 : Int32)) hx hb dX1_becomeFree_6 (by decide) ?_
  refine va_put (D := D) (ci := 1) (v := .int (0 : Int32)) (ty := .int) (C := RX1) (T := TX1) (N := 8) hx hb hts iX1 tyX1 tyX1_ok nmX1 hown hK hP hD hS (3 + i) (KW_S c5 a (kSs k 2 i (-1 : Int32)) hi) rfl 3 (by decide) (hts _ wT1_33) (fun _ h9 => h9) rfl (by decide +kernel) rfl rfl (Nat.le_of_ble_eq_true rfl) dX1_becomeFree_7 (fun H locs hP hD hS => ?_)
  have hP := wP (KW_setS c5 a (kSs k 2 i (-1 : Int32)) hi 1 (by decide) _) hP
  have hD := wD (KW_setS c5 a (kSs k 2 i (-1 : Int32)) hi 1 (by decide) _) hD
  refine lv_aload_n hx hb dX1_becomeFree_10 rfl (lv_at hl 0 rfl) ?_
  refine lv_iconst (v := (0 : Int32)) hx hb dX1_becomeFree_11 (by decide) ?_
  refine va_put (D := D) (ci := 1) (v := .int (0 : Int32)) (ty := .int) (C := RX1) (T := TX1) (N := 8) hx hb hts iX1 tyX1 tyX1_ok nmX1 hown hK hP hD hS (3 + i) (KW_S c5 a (kSs (kSs k 2 i (-1 : Int32)) 3 i (0 : Int32)) hi) rfl 4 (by decide) (hts _ wT1_35) (fun _ h9 => h9) rfl (by decide +kernel) rfl rfl (Nat.le_of_ble_eq_true rfl) dX1_becomeFree_12 (fun H locs hP hD hS => ?_)
  have hP := wP (KW_setS c5 a (kSs (kSs k 2 i (-1 : Int32)) 3 i (0 : Int32)) hi 2 (by decide) _) hP
  have hD := wD (KW_setS c5 a (kSs (kSs k 2 i (-1 : Int32)) 3 i (0 : Int32)) hi 2 (by decide) _) hD
  refine lv_aload_n hx hb dX1_becomeFree_15 rfl (lv_at hl 0 rfl) ?_
  refine lv_iconst (v := (0 : Int32)) hx hb dX1_becomeFree_16 (by decide) ?_
  refine va_put (D := D) (ci := 1) (v := .int (0 : Int32)) (ty := .int) (C := RX1) (T := TX1) (N := 8) hx hb hts iX1 tyX1 tyX1_ok nmX1 hown hK hP hD hS (3 + i) (KW_S c5 a (kSs (kSs (kSs k 2 i (-1 : Int32)) 3 i (0 : Int32)) 4 i (0 : Int32)) hi) rfl 5 (by decide) (hts _ wT1_37) (fun _ h9 => h9) rfl (by decide +kernel) rfl rfl (Nat.le_of_ble_eq_true rfl) dX1_becomeFree_17 (fun H locs hP hD hS => ?_)
  have hP := wP (KW_setS c5 a (kSs (kSs (kSs k 2 i (-1 : Int32)) 3 i (0 : Int32)) 4 i (0 : Int32)) hi 3 (by decide) _) hP
  have hD := wD (KW_setS c5 a (kSs (kSs (kSs k 2 i (-1 : Int32)) 3 i (0 : Int32)) 4 i (0 : Int32)) hi 3 (by decide) _) hD
  refine lv_aload_n hx hb dX1_becomeFree_20 rfl (lv_at hl 0 rfl) ?_
  refine lv_iconst (v := (-1 : Int32)) hx hb dX1_becomeFree_21 (by decide) ?_
  refine va_put (D := D) (ci := 1) (v := .int (-1 : Int32)) (ty := .int) (C := RX1) (T := TX1) (N := 8) hx hb hts iX1 tyX1 tyX1_ok nmX1 hown hK hP hD hS (3 + i) (KW_S c5 a (kSs (kSs (kSs (kSs k 2 i (-1 : Int32)) 3 i (0 : Int32)) 4 i (0 : Int32)) 5 i (0 : Int32)) hi) rfl 7 (by decide) (hts _ wT1_40) (fun _ h9 => h9) rfl (by decide +kernel) rfl rfl (Nat.le_of_ble_eq_true rfl) dX1_becomeFree_22 (fun H locs hP hD hS => ?_)
  have hP := wP (KW_setS c5 a (kSs (kSs (kSs (kSs k 2 i (-1 : Int32)) 3 i (0 : Int32)) 4 i (0 : Int32)) 5 i (0 : Int32)) hi 5 (by decide) _) hP
  have hD := wD (KW_setS c5 a (kSs (kSs (kSs (kSs k 2 i (-1 : Int32)) 3 i (0 : Int32)) 4 i (0 : Int32)) 5 i (0 : Int32)) hi 5 (by decide) _) hD
  obtain rfl := (Option.some.inj h)
  exact rw_vret (wf := fun u => KW c5 a u) hx hb hr hlocks hP hK hD hS dX1_becomeFree_25
set_option maxHeartbeats 4000000 in
set_option maxRecDepth 100000 in
theorem c_X1_addBowl (l : Launch) (D : va_G) (c5 : Nat → ClassId) (a : KAd) (k : KSt) (hI : KI a) (sz : Nat) (i : Nat) (hi : i < 12) (p1 : Int32) (r : KSt) (h : R_X1_addBowl k i p1 = some r) : Met l yX1_addBowl (ws_ yX1_addBowl cX1_addBowl 2 none) { frames := 0, cells := 0, slots := 0, locals := 0 } (va_Pc [.ref (aS a i), .int p1] (rwB D (tyG c5) (KW c5 a k) sz)) (va_Qv (fun u => u = r) (rwE D (tyG c5) (va_A (KW c5 a k) sz) (fun u => KW c5 a u)) (va_A (KW c5 a k) sz)) 0 0 (va_A (KW c5 a k) sz) := by
  refine Met.ofW (cc := cX1_addBowl) (maxL := 2) (ret := none) (by decide) rfl ?_
  intro p e s m args below meth c s₁ B hml hv
  obtain ⟨rfl, hsz, hP, hK, hD0⟩ := hv
  have hx := B.exec
  have hb := B.bytes
  have hr := B.returns
  have hts : ∀ w ∈ LA, w.before _ s = true := fun w hw => atoms_spec (ws := ws_ yX1_addBowl cX1_addBowl 2 none) B.pre w (List.mem_cons_of_mem _ hw)
  have hown : s.vm.findClass RX1 = some m.cls := findClass_of_methodNamed B.named
  have hlocks := B.notSynchronized
  subst hsz
  have hD := hD0.self (sz := s.heap.size)
  generalize hAe : va_A (KW c5 a k) s.heap.size = A at hD ⊢
  have hA : ∀ q : Nat, s.heap.size ≤ q → A q := fun q h => by rw [← hAe]; exact Or.inr h
  have hS : va_S A s.heap s.heap [] := va_S.rf
  have hl := lv_entry ([.ref (aS a i), .int p1] : List Value) (n := 2) (Nat.le_of_ble_eq_true rfl)
  rw [lg_entry_eq]
  generalize (lg_sl ([.ref (aS a i), .int p1] : List Value) ++ List.replicate (2 - (lg_sl ([.ref (aS a i), .int p1] : List Value)).length) Slot.unset).toArray = ls at hl ⊢
  have hl : lv_has ls 2 [(0, .ref (aS a i)), (1, .int p1)] := hl
  unfold R_X1_addBowl at h
  refine lv_iload_n hx hb dX1_addBowl_0 rfl (lv_at hl 1 rfl) ?_
  refine lv_if_lt (tgt := 35) hx hb dX1_addBowl_1 (by decide) (fun q => ?_) (fun q => ?_)
  · have h := o_t h q
    obtain rfl := (Option.some.inj h)
    exact rw_vret (wf := fun u => KW c5 a u) hx hb hr hlocks hP hK hD hS dX1_addBowl_35
  · have h := o_f h q
    refine lv_iload_n hx hb dX1_addBowl_4 rfl (lv_at hl 1 rfl) ?_
    refine lv_aload_n hx hb dX1_addBowl_5 rfl (lv_at hl 0 rfl) ?_
    refine va_get (D := D) (ci := 1) (v := .ref (aB a i)) (C := RX1) (T := TX1) (N := 8) hx hb hts iX1 hown hK hP (3 + i) (KW_S c5 a k hi) rfl 1 (by decide) (hts _ wT1_30) (fun _ h9 => h9) rfl dX1_addBowl_6 ?_
    refine va_alen (v := (12 : Int32)) hx hb hK hP (15 + i) 2 (KW_B c5 a k hi) rfl rfl dX1_addBowl_9 ?_
    refine lv_icmp_ge (tgt := 35) hx hb dX1_addBowl_10 (by decide) (fun q => ?_) (fun q => ?_)
    · have h := o_t h q
      obtain rfl := (Option.some.inj h)
      exact rw_vret (wf := fun u => KW c5 a u) hx hb hr hlocks hP hK hD hS dX1_addBowl_35
    · have h := o_f h q
      refine lv_aload_n hx hb dX1_addBowl_13 rfl (lv_at hl 0 rfl) ?_
      refine va_get (D := D) (ci := 1) (v := .ref (aB a i)) (C := RX1) (T := TX1) (N := 8) hx hb hts iX1 hown hK hP (3 + i) (KW_S c5 a k hi) rfl 1 (by decide) (hts _ wT1_30) (fun _ h9 => h9) rfl dX1_addBowl_14 ?_
      refine lv_iload_n hx hb dX1_addBowl_17 rfl (lv_at hl 1 rfl) ?_
      refine lv_iconst (v := (1 : Int32)) hx hb dX1_addBowl_18 (by decide) ?_
      obtain ⟨g19, h⟩ := o_if h
      refine va_zast hx hb hK hP hD hS (15 + i) 2 (KW_B c5 a k hi) rfl (inb_in g19) dX1_addBowl_19 (fun H locs hP hD hS => ?_)
      have hP := wP (KW_setB c5 a k hi _) hP
      have hD := wD (KW_setB c5 a k hi _) hD
      refine lv_aload_n hx hb dX1_addBowl_20 rfl (lv_at hl 0 rfl) ?_
      refine lv_dup hx hb dX1_addBowl_21 rfl ?_
      refine va_get (D := D) (ci := 1) (v := .int (kS (kBs k i (upd (kB k i) (p1.toNatClampNeg) (vp_nar .boolean (1 : Int32)))) 6 i)) (C := RX1) (T := TX1) (N := 8) hx hb hts iX1 hown hK hP (3 + i) (KW_S c5 a (kBs k i (upd (kB k i) (p1.toNatClampNeg) (vp_nar .boolean (1 : Int32)))) hi) rfl 6 (by decide) (hts _ wT1_38) (fun _ h9 => h9) rfl dX1_addBowl_22 ?_
      refine lv_iconst (v := (1 : Int32)) hx hb dX1_addBowl_25 (by decide) ?_
      refine lv_iadd hx hb dX1_addBowl_26 ?_
      refine va_put (D := D) (ci := 1) (v := .int ((kS (kBs k i (upd (kB k i) (p1.toNatClampNeg) (vp_nar .boolean (1 : Int32)))) 6 i) + (1 : Int32))) (ty := .int) (C := RX1) (T := TX1) (N := 8) hx hb hts iX1 tyX1 tyX1_ok nmX1 hown hK hP hD hS (3 + i) (KW_S c5 a (kBs k i (upd (kB k i) (p1.toNatClampNeg) (vp_nar .boolean (1 : Int32)))) hi) rfl 6 (by decide) (hts _ wT1_38) (fun _ h9 => h9) rfl (by decide +kernel) rfl rfl (Nat.le_of_ble_eq_true rfl) dX1_addBowl_27 (fun H locs hP hD hS => ?_)
      have hP := wP (KW_setS c5 a (kBs k i (upd (kB k i) (p1.toNatClampNeg) (vp_nar .boolean (1 : Int32)))) hi 4 (by decide) _) hP
      have hD := wD (KW_setS c5 a (kBs k i (upd (kB k i) (p1.toNatClampNeg) (vp_nar .boolean (1 : Int32)))) hi 4 (by decide) _) hD
      refine lv_aload_n hx hb dX1_addBowl_30 rfl (lv_at hl 0 rfl) ?_
      refine lv_iconst (v := (-1 : Int32)) hx hb dX1_addBowl_31 (by decide) ?_
      refine va_put (D := D) (ci := 1) (v := .int (-1 : Int32)) (ty := .int) (C := RX1) (T := TX1) (N := 8) hx hb hts iX1 tyX1 tyX1_ok nmX1 hown hK hP hD hS (3 + i) (KW_S c5 a (kSs (kBs k i (upd (kB k i) (p1.toNatClampNeg) (vp_nar .boolean (1 : Int32)))) 6 i ((kS (kBs k i (upd (kB k i) (p1.toNatClampNeg) (vp_nar .boolean (1 : Int32)))) 6 i) + (1 : Int32))) hi) rfl 7 (by decide) (hts _ wT1_40) (fun _ h9 => h9) rfl (by decide +kernel) rfl rfl (Nat.le_of_ble_eq_true rfl) dX1_addBowl_32 (fun H locs hP hD hS => ?_)
      have hP := wP (KW_setS c5 a (kSs (kBs k i (upd (kB k i) (p1.toNatClampNeg) (vp_nar .boolean (1 : Int32)))) 6 i ((kS (kBs k i (upd (kB k i) (p1.toNatClampNeg) (vp_nar .boolean (1 : Int32)))) 6 i) + (1 : Int32))) hi 5 (by decide) _) hP
      have hD := wD (KW_setS c5 a (kSs (kBs k i (upd (kB k i) (p1.toNatClampNeg) (vp_nar .boolean (1 : Int32)))) 6 i ((kS (kBs k i (upd (kB k i) (p1.toNatClampNeg) (vp_nar .boolean (1 : Int32)))) 6 i) + (1 : Int32))) hi 5 (by decide) _) hD
      obtain rfl := (Option.some.inj h)
      exact rw_vret (wf := fun u => KW c5 a u) hx hb hr hlocks hP hK hD hS dX1_addBowl_35
set_option maxHeartbeats 4000000 in
set_option maxRecDepth 100000 in
theorem c_X1_removeBowl (l : Launch) (D : va_G) (c5 : Nat → ClassId) (a : KAd) (k : KSt) (hI : KI a) (sz : Nat) (i : Nat) (hi : i < 12) (p1 : Int32) (p2 : Int32) (r : KSt) (h : R_X1_removeBowl k i p1 p2 = some r) : Met l yX1_removeBowl (ws_ yX1_removeBowl cX1_removeBowl 3 none) { frames := 0, cells := 0, slots := 0, locals := 0 } (va_Pc [.ref (aS a i), .int p1, .int p2] (rwB D (tyG c5) (KW c5 a k) sz)) (va_Qv (fun u => u = r) (rwE D (tyG c5) (va_A (KW c5 a k) sz) (fun u => KW c5 a u)) (va_A (KW c5 a k) sz)) 0 0 (va_A (KW c5 a k) sz) := by
  refine Met.ofW (cc := cX1_removeBowl) (maxL := 3) (ret := none) (by decide) rfl ?_
  intro p e s m args below meth c s₁ B hml hv
  obtain ⟨rfl, hsz, hP, hK, hD0⟩ := hv
  have hx := B.exec
  have hb := B.bytes
  have hr := B.returns
  have hts : ∀ w ∈ LA, w.before _ s = true := fun w hw => atoms_spec (ws := ws_ yX1_removeBowl cX1_removeBowl 3 none) B.pre w (List.mem_cons_of_mem _ hw)
  have hown : s.vm.findClass RX1 = some m.cls := findClass_of_methodNamed B.named
  have hlocks := B.notSynchronized
  subst hsz
  have hD := hD0.self (sz := s.heap.size)
  generalize hAe : va_A (KW c5 a k) s.heap.size = A at hD ⊢
  have hA : ∀ q : Nat, s.heap.size ≤ q → A q := fun q h => by rw [← hAe]; exact Or.inr h
  have hS : va_S A s.heap s.heap [] := va_S.rf
  have hl := lv_entry ([.ref (aS a i), .int p1, .int p2] : List Value) (n := 3) (Nat.le_of_ble_eq_true rfl)
  rw [lg_entry_eq]
  generalize (lg_sl ([.ref (aS a i), .int p1, .int p2] : List Value) ++ List.replicate (3 - (lg_sl ([.ref (aS a i), .int p1, .int p2] : List Value)).length) Slot.unset).toArray = ls at hl ⊢
  have hl : lv_has ls 3 [(0, .ref (aS a i)), (1, .int p1), (2, .int p2)] := hl
  unfold R_X1_removeBowl at h
  refine lv_iload_n hx hb dX1_removeBowl_0 rfl (lv_at hl 1 rfl) ?_
  refine lv_if_lt (tgt := 46) hx hb dX1_removeBowl_1 (by decide) (fun q => ?_) (fun q => ?_)
  · have h := o_t h q
    obtain rfl := (Option.some.inj h)
    exact rw_vret (wf := fun u => KW c5 a u) hx hb hr hlocks hP hK hD hS dX1_removeBowl_46
  · have h := o_f h q
    refine lv_iload_n hx hb dX1_removeBowl_4 rfl (lv_at hl 1 rfl) ?_
    refine lv_aload_n hx hb dX1_removeBowl_5 rfl (lv_at hl 0 rfl) ?_
    refine va_get (D := D) (ci := 1) (v := .ref (aB a i)) (C := RX1) (T := TX1) (N := 8) hx hb hts iX1 hown hK hP (3 + i) (KW_S c5 a k hi) rfl 1 (by decide) (hts _ wT1_30) (fun _ h9 => h9) rfl dX1_removeBowl_6 ?_
    refine va_alen (v := (12 : Int32)) hx hb hK hP (15 + i) 2 (KW_B c5 a k hi) rfl rfl dX1_removeBowl_9 ?_
    refine lv_icmp_ge (tgt := 46) hx hb dX1_removeBowl_10 (by decide) (fun q => ?_) (fun q => ?_)
    · have h := o_t h q
      obtain rfl := (Option.some.inj h)
      exact rw_vret (wf := fun u => KW c5 a u) hx hb hr hlocks hP hK hD hS dX1_removeBowl_46
    · have h := o_f h q
      refine lv_aload_n hx hb dX1_removeBowl_13 rfl (lv_at hl 0 rfl) ?_
      refine va_get (D := D) (ci := 1) (v := .ref (aB a i)) (C := RX1) (T := TX1) (N := 8) hx hb hts iX1 hown hK hP (3 + i) (KW_S c5 a k hi) rfl 1 (by decide) (hts _ wT1_30) (fun _ h9 => h9) rfl dX1_removeBowl_14 ?_
      refine lv_iload_n hx hb dX1_removeBowl_17 rfl (lv_at hl 1 rfl) ?_
      refine lv_iconst (v := (0 : Int32)) hx hb dX1_removeBowl_18 (by decide) ?_
      obtain ⟨g19, h⟩ := o_if h
      refine va_zast hx hb hK hP hD hS (15 + i) 2 (KW_B c5 a k hi) rfl (inb_in g19) dX1_removeBowl_19 (fun H locs hP hD hS => ?_)
      have hP := wP (KW_setB c5 a k hi _) hP
      have hD := wD (KW_setB c5 a k hi _) hD
      refine lv_aload_n hx hb dX1_removeBowl_20 rfl (lv_at hl 0 rfl) ?_
      refine lv_dup hx hb dX1_removeBowl_21 rfl ?_
      refine va_get (D := D) (ci := 1) (v := .int (kS (kBs k i (upd (kB k i) (p1.toNatClampNeg) (vp_nar .boolean (0 : Int32)))) 6 i)) (C := RX1) (T := TX1) (N := 8) hx hb hts iX1 hown hK hP (3 + i) (KW_S c5 a (kBs k i (upd (kB k i) (p1.toNatClampNeg) (vp_nar .boolean (0 : Int32)))) hi) rfl 6 (by decide) (hts _ wT1_38) (fun _ h9 => h9) rfl dX1_removeBowl_22 ?_
      refine lv_iconst (v := (1 : Int32)) hx hb dX1_removeBowl_25 (by decide) ?_
      refine lv_isub hx hb dX1_removeBowl_26 ?_
      refine va_put (D := D) (ci := 1) (v := .int ((kS (kBs k i (upd (kB k i) (p1.toNatClampNeg) (vp_nar .boolean (0 : Int32)))) 6 i) - (1 : Int32))) (ty := .int) (C := RX1) (T := TX1) (N := 8) hx hb hts iX1 tyX1 tyX1_ok nmX1 hown hK hP hD hS (3 + i) (KW_S c5 a (kBs k i (upd (kB k i) (p1.toNatClampNeg) (vp_nar .boolean (0 : Int32)))) hi) rfl 6 (by decide) (hts _ wT1_38) (fun _ h9 => h9) rfl (by decide +kernel) rfl rfl (Nat.le_of_ble_eq_true rfl) dX1_removeBowl_27 (fun H locs hP hD hS => ?_)
      have hP := wP (KW_setS c5 a (kBs k i (upd (kB k i) (p1.toNatClampNeg) (vp_nar .boolean (0 : Int32)))) hi 4 (by decide) _) hP
      have hD := wD (KW_setS c5 a (kBs k i (upd (kB k i) (p1.toNatClampNeg) (vp_nar .boolean (0 : Int32)))) hi 4 (by decide) _) hD
      refine lv_aload_n hx hb dX1_removeBowl_30 rfl (lv_at hl 0 rfl) ?_
      refine lv_aload_n hx hb dX1_removeBowl_31 rfl (lv_at hl 0 rfl) ?_
      refine va_get (D := D) (ci := 1) (v := .int (kS (kSs (kBs k i (upd (kB k i) (p1.toNatClampNeg) (vp_nar .boolean (0 : Int32)))) 6 i ((kS (kBs k i (upd (kB k i) (p1.toNatClampNeg) (vp_nar .boolean (0 : Int32)))) 6 i) - (1 : Int32))) 6 i)) (C := RX1) (T := TX1) (N := 8) hx hb hts iX1 hown hK hP (3 + i) (KW_S c5 a (kSs (kBs k i (upd (kB k i) (p1.toNatClampNeg) (vp_nar .boolean (0 : Int32)))) 6 i ((kS (kBs k i (upd (kB k i) (p1.toNatClampNeg) (vp_nar .boolean (0 : Int32)))) 6 i) - (1 : Int32))) hi) rfl 6 (by decide) (hts _ wT1_38) (fun _ h9 => h9) rfl dX1_removeBowl_32 ?_
      refine lv_if_ne (tgt := 42) hx hb dX1_removeBowl_35 (by decide) (fun q => ?_) (fun q => ?_)
      · have h := o_t' h q
        refine lv_iconst (v := (-1 : Int32)) hx hb dX1_removeBowl_42 (by decide) ?_
        refine va_put (D := D) (ci := 1) (v := .int (-1 : Int32)) (ty := .int) (C := RX1) (T := TX1) (N := 8) hx hb hts iX1 tyX1 tyX1_ok nmX1 hown hK hP hD hS (3 + i) (KW_S c5 a (kSs (kBs k i (upd (kB k i) (p1.toNatClampNeg) (vp_nar .boolean (0 : Int32)))) 6 i ((kS (kBs k i (upd (kB k i) (p1.toNatClampNeg) (vp_nar .boolean (0 : Int32)))) 6 i) - (1 : Int32))) hi) rfl 7 (by decide) (hts _ wT1_40) (fun _ h9 => h9) rfl (by decide +kernel) rfl rfl (Nat.le_of_ble_eq_true rfl) dX1_removeBowl_43 (fun H locs hP hD hS => ?_)
        have hP := wP (KW_setS c5 a (kSs (kBs k i (upd (kB k i) (p1.toNatClampNeg) (vp_nar .boolean (0 : Int32)))) 6 i ((kS (kBs k i (upd (kB k i) (p1.toNatClampNeg) (vp_nar .boolean (0 : Int32)))) 6 i) - (1 : Int32))) hi 5 (by decide) _) hP
        have hD := wD (KW_setS c5 a (kSs (kBs k i (upd (kB k i) (p1.toNatClampNeg) (vp_nar .boolean (0 : Int32)))) 6 i ((kS (kBs k i (upd (kB k i) (p1.toNatClampNeg) (vp_nar .boolean (0 : Int32)))) 6 i) - (1 : Int32))) hi 5 (by decide) _) hD
        obtain rfl := (Option.some.inj h)
        exact rw_vret (wf := fun u => KW c5 a u) hx hb hr hlocks hP hK hD hS dX1_removeBowl_46
      · have h := o_f' h q
        refine lv_iload_n hx hb dX1_removeBowl_38 rfl (lv_at hl 2 rfl) ?_
        refine lv_goto (tgt := 43) hx hb dX1_removeBowl_39 (by decide) ?_
        refine va_put (D := D) (ci := 1) (v := .int p2) (ty := .int) (C := RX1) (T := TX1) (N := 8) hx hb hts iX1 tyX1 tyX1_ok nmX1 hown hK hP hD hS (3 + i) (KW_S c5 a (kSs (kBs k i (upd (kB k i) (p1.toNatClampNeg) (vp_nar .boolean (0 : Int32)))) 6 i ((kS (kBs k i (upd (kB k i) (p1.toNatClampNeg) (vp_nar .boolean (0 : Int32)))) 6 i) - (1 : Int32))) hi) rfl 7 (by decide) (hts _ wT1_40) (fun _ h9 => h9) rfl (by decide +kernel) rfl rfl (Nat.le_of_ble_eq_true rfl) dX1_removeBowl_43 (fun H locs hP hD hS => ?_)
        have hP := wP (KW_setS c5 a (kSs (kBs k i (upd (kB k i) (p1.toNatClampNeg) (vp_nar .boolean (0 : Int32)))) 6 i ((kS (kBs k i (upd (kB k i) (p1.toNatClampNeg) (vp_nar .boolean (0 : Int32)))) 6 i) - (1 : Int32))) hi 5 (by decide) _) hP
        have hD := wD (KW_setS c5 a (kSs (kBs k i (upd (kB k i) (p1.toNatClampNeg) (vp_nar .boolean (0 : Int32)))) 6 i ((kS (kBs k i (upd (kB k i) (p1.toNatClampNeg) (vp_nar .boolean (0 : Int32)))) 6 i) - (1 : Int32))) hi 5 (by decide) _) hD
        obtain rfl := (Option.some.inj h)
        exact rw_vret (wf := fun u => KW c5 a u) hx hb hr hlocks hP hK hD hS dX1_removeBowl_46
set_option maxHeartbeats 4000000 in
set_option maxRecDepth 100000 in
theorem c_X1_lastBowl (l : Launch) (D : va_G) (c5 : Nat → ClassId) (a : KAd) (k : KSt) (hI : KI a) (i : Nat) (hi : i < 12) (r : Int32) (h : R_X1_lastBowl k i = some r) : Met l yX1_lastBowl (ws_ yX1_lastBowl cX1_lastBowl 2 (some .int)) { frames := 1, cells := 0, slots := 0, locals := 21 } (va_Pc [.ref (aS a i)] (roB D (tyG c5) (KW c5 a k))) (vp_Si (fun x => x = r)) 0 0 (fun _ => False) := by
  refine Met.ofW (cc := cX1_lastBowl) (maxL := 2) (ret := (some .int)) (by decide) rfl ?_
  intro p e s m args below meth c s₁ B hml hv
  obtain ⟨rfl, hP, hK⟩ := hv
  have hx := B.exec
  have hb := B.bytes
  have hr := B.returns
  have hts : ∀ w ∈ LA, w.before _ s = true := fun w hw => atoms_spec (ws := ws_ yX1_lastBowl cX1_lastBowl 2 (some .int)) B.pre w (List.mem_cons_of_mem _ hw)
  have hown : s.vm.findClass RX1 = some m.cls := findClass_of_methodNamed B.named
  have hlocks := B.notSynchronized
  have hl := lv_entry ([.ref (aS a i)] : List Value) (n := 2) (Nat.le_of_ble_eq_true rfl)
  rw [lg_entry_eq]
  generalize (lg_sl ([.ref (aS a i)] : List Value) ++ List.replicate (2 - (lg_sl ([.ref (aS a i)] : List Value)).length) Slot.unset).toArray = ls at hl ⊢
  have hl : lv_has ls 2 [(0, .ref (aS a i))] := hl
  unfold R_X1_lastBowl at h
  refine lv_aload_n hx hb dX1_lastBowl_0 rfl (lv_at hl 0 rfl) ?_
  refine va_get (D := D) (ci := 1) (v := .int (kS k 4 i)) (C := RX1) (T := TX1) (N := 8) hx hb hts iX1 hown hK hP (3 + i) (KW_S c5 a k hi) rfl 4 (by decide) (hts _ wT1_35) (fun _ h9 => h9) rfl dX1_lastBowl_1 ?_
  refine lv_iconst (v := (1 : Int32)) hx hb dX1_lastBowl_4 (by decide) ?_
  refine lv_isub hx hb dX1_lastBowl_5 ?_
  refine lv_istore_n (i := 1) (lv' := [(1, .int ((kS k 4 i) - (1 : Int32))), (0, .ref (aS a i))]) hx hb dX1_lastBowl_6 rfl hl (by decide) rfl (fun ls hl => ?_)
  have L7 : ∀ (n : Nat) (x1_7 : Int32) (ls : Array Slot), lv_has ls 2 [(0, .ref (aS a i)), (1, .int x1_7)] → R_X1_lastBowl_L7 k i n x1_7 = some r → W p l e (headSpec (ws_ yX1_lastBowl cX1_lastBowl 2 (some .int)) { frames := 1, cells := 0, slots := 0, locals := 21 }).room s m ([.ref (aS a i)] : List Value).toArray below meth c s.heap [] 0 0 (MQ below (vp_Si (fun x => x = r)) ([.ref (aS a i)] : List Value).toArray s 0 0 (fun _ => False)) (F0 m 7 ls []) := by
    intro n
    induction n with
    | zero =>
      intro x1_7 ls hl h
      exact absurd h (by simp [R_X1_lastBowl_L7])
    | succ n ih =>
      intro x1_7 ls hl h
      rw [R_X1_lastBowl_L7] at h
      refine lv_iload_n hx hb dX1_lastBowl_7 rfl (lv_at hl 1 rfl) ?_
      refine lv_if_lt (tgt := 27) hx hb dX1_lastBowl_8 (by decide) (fun q => ?_) (fun q => ?_)
      · have h := o_t h q
        refine lv_iconst (v := (-1 : Int32)) hx hb dX1_lastBowl_27 (by decide) ?_
        exact ro_iret hx hb hr hlocks dX1_lastBowl_28 (Option.some.inj h)
      · have h := o_f h q
        refine lv_aload_n hx hb dX1_lastBowl_11 rfl (lv_at hl 0 rfl) ?_
        refine lv_iload_n hx hb dX1_lastBowl_12 rfl (lv_at hl 1 rfl) ?_
        obtain ⟨v13, e13, h⟩ := o_bind h
        refine ro_calli (ro_runV (As := [.int x1_7]) (rest := []) ⟨hx, hb, hml, hown, hts⟩ hP hK (c_X1_standsOn l D c5 a k hI i hi x1_7 v13 e13) gG_RX1_54 (va_recv hK hP (ci := 1) (q0 := (3 + i)) rfl (KW_S c5 a k hi)) hd_X1_standsOn ⟨Nat.le_of_ble_eq_true rfl, Nat.le_of_ble_eq_true rfl⟩ ⟨rfl, rfl⟩ hl.1 (Nat.le_of_ble_eq_true rfl) dX1_lastBowl_13 ⟨Nat.zero_le _, Nat.zero_le _⟩ rfl) ?_
        refine lv_if_eq (tgt := 21) hx hb dX1_lastBowl_16 (by decide) (fun q => ?_) (fun q => ?_)
        · have h := o_t h q
          refine lv_iinc (v := (x1_7 + (-1 : Int32))) (lv' := [(1, .int (x1_7 + (-1 : Int32))), (0, .ref (aS a i))]) hx hb dX1_lastBowl_21 hl (k := 1) rfl rfl (by decide) rfl (fun ls hl => ?_)
          refine lv_goto (tgt := 7) hx hb dX1_lastBowl_24 (by decide) ?_
          exact ih (x1_7 + (-1 : Int32))  ls (lv_sub hl [1, 0] rfl) h
        · have h := o_f h q
          refine lv_iload_n hx hb dX1_lastBowl_19 rfl (lv_at hl 1 rfl) ?_
          exact ro_iret hx hb hr hlocks dX1_lastBowl_20 (Option.some.inj h)
  exact L7 FU ((kS k 4 i) - (1 : Int32))  ls (lv_sub hl [1, 0] rfl) h
set_option maxHeartbeats 4000000 in
set_option maxRecDepth 100000 in
theorem c_X1_beginOf (l : Launch) (D : va_G) (c5 : Nat → ClassId) (a : KAd) (k : KSt) (hI : KI a) (i : Nat) (hi : i < 12) (p1 : Int32) (r : Int32) (h : R_X1_beginOf k i p1 = some r) : Met l yX1_beginOf (ws_ yX1_beginOf cX1_beginOf 2 (some .int)) { frames := 0, cells := 0, slots := 0, locals := 0 } (va_Pc [.ref (aS a i), .int p1] (roB D (tyG c5) (KW c5 a k))) (vp_Si (fun x => x = r)) 0 0 (fun _ => False) := by
  refine Met.ofW (cc := cX1_beginOf) (maxL := 2) (ret := (some .int)) (by decide) rfl ?_
  intro p e s m args below meth c s₁ B hml hv
  obtain ⟨rfl, hP, hK⟩ := hv
  have hx := B.exec
  have hb := B.bytes
  have hr := B.returns
  have hts : ∀ w ∈ LA, w.before _ s = true := fun w hw => atoms_spec (ws := ws_ yX1_beginOf cX1_beginOf 2 (some .int)) B.pre w (List.mem_cons_of_mem _ hw)
  have hown : s.vm.findClass RX1 = some m.cls := findClass_of_methodNamed B.named
  have hlocks := B.notSynchronized
  have hl := lv_entry ([.ref (aS a i), .int p1] : List Value) (n := 2) (Nat.le_of_ble_eq_true rfl)
  rw [lg_entry_eq]
  generalize (lg_sl ([.ref (aS a i), .int p1] : List Value) ++ List.replicate (2 - (lg_sl ([.ref (aS a i), .int p1] : List Value)).length) Slot.unset).toArray = ls at hl ⊢
  have hl : lv_has ls 2 [(0, .ref (aS a i)), (1, .int p1)] := hl
  unfold R_X1_beginOf at h
  refine lv_aload_n hx hb dX1_beginOf_0 rfl (lv_at hl 0 rfl) ?_
  refine va_get (D := D) (ci := 1) (v := .int (nI (24 * i))) (C := RX1) (T := TX1) (N := 8) hx hb hts iX1 hown hK hP (3 + i) (KW_S c5 a k hi) rfl 0 (by decide) (hts _ wT1_28) (fun _ h9 => h9) rfl dX1_beginOf_1 ?_
  refine lv_aload_n hx hb dX1_beginOf_4 rfl (lv_at hl 0 rfl) ?_
  refine va_get (D := D) (ci := 1) (v := .int (kS k 5 i)) (C := RX1) (T := TX1) (N := 8) hx hb hts iX1 hown hK hP (3 + i) (KW_S c5 a k hi) rfl 5 (by decide) (hts _ wT1_37) (fun _ h9 => h9) rfl dX1_beginOf_5 ?_
  refine lv_iadd hx hb dX1_beginOf_8 ?_
  refine lv_iload_n hx hb dX1_beginOf_9 rfl (lv_at hl 1 rfl) ?_
  refine lv_aload_n hx hb dX1_beginOf_10 rfl (lv_at hl 0 rfl) ?_
  refine va_get (D := D) (ci := 1) (v := .int (kS k 3 i)) (C := RX1) (T := TX1) (N := 8) hx hb hts iX1 hown hK hP (3 + i) (KW_S c5 a k hi) rfl 3 (by decide) (hts _ wT1_33) (fun _ h9 => h9) rfl dX1_beginOf_11 ?_
  refine lv_imul hx hb dX1_beginOf_14 ?_
  refine lv_iadd hx hb dX1_beginOf_15 ?_
  exact ro_iret hx hb hr hlocks dX1_beginOf_16 (Option.some.inj h)
set_option maxHeartbeats 4000000 in
set_option maxRecDepth 100000 in
theorem c_X1_placeAt (l : Launch) (D : va_G) (c5 : Nat → ClassId) (a : KAd) (k : KSt) (hI : KI a) (i : Nat) (hi : i < 12) (p1 : Int32) (r : Int32) (h : R_X1_placeAt k i p1 = some r) : Met l yX1_placeAt (ws_ yX1_placeAt cX1_placeAt 3 (some .int)) { frames := 0, cells := 0, slots := 0, locals := 0 } (va_Pc [.ref (aS a i), .int p1] (roB D (tyG c5) (KW c5 a k))) (vp_Si (fun x => x = r)) 0 0 (fun _ => False) := by
  refine Met.ofW (cc := cX1_placeAt) (maxL := 3) (ret := (some .int)) (by decide) rfl ?_
  intro p e s m args below meth c s₁ B hml hv
  obtain ⟨rfl, hP, hK⟩ := hv
  have hx := B.exec
  have hb := B.bytes
  have hr := B.returns
  have hts : ∀ w ∈ LA, w.before _ s = true := fun w hw => atoms_spec (ws := ws_ yX1_placeAt cX1_placeAt 3 (some .int)) B.pre w (List.mem_cons_of_mem _ hw)
  have hown : s.vm.findClass RX1 = some m.cls := findClass_of_methodNamed B.named
  have hlocks := B.notSynchronized
  have hl := lv_entry ([.ref (aS a i), .int p1] : List Value) (n := 3) (Nat.le_of_ble_eq_true rfl)
  rw [lg_entry_eq]
  generalize (lg_sl ([.ref (aS a i), .int p1] : List Value) ++ List.replicate (3 - (lg_sl ([.ref (aS a i), .int p1] : List Value)).length) Slot.unset).toArray = ls at hl ⊢
  have hl : lv_has ls 3 [(0, .ref (aS a i)), (1, .int p1)] := hl
  unfold R_X1_placeAt at h
  refine lv_iload_n hx hb dX1_placeAt_0 rfl (lv_at hl 1 rfl) ?_
  refine lv_aload_n hx hb dX1_placeAt_1 rfl (lv_at hl 0 rfl) ?_
  refine va_get (D := D) (ci := 1) (v := .int (nI (24 * i))) (C := RX1) (T := TX1) (N := 8) hx hb hts iX1 hown hK hP (3 + i) (KW_S c5 a k hi) rfl 0 (by decide) (hts _ wT1_28) (fun _ h9 => h9) rfl dX1_placeAt_2 ?_
  refine lv_isub hx hb dX1_placeAt_5 ?_
  refine lv_aload_n hx hb dX1_placeAt_6 rfl (lv_at hl 0 rfl) ?_
  refine va_get (D := D) (ci := 1) (v := .int (kS k 5 i)) (C := RX1) (T := TX1) (N := 8) hx hb hts iX1 hown hK hP (3 + i) (KW_S c5 a k hi) rfl 5 (by decide) (hts _ wT1_37) (fun _ h9 => h9) rfl dX1_placeAt_7 ?_
  refine lv_isub hx hb dX1_placeAt_10 ?_
  refine lv_istore_n (i := 2) (lv' := [(2, .int ((p1 - (nI (24 * i))) - (kS k 5 i))), (0, .ref (aS a i)), (1, .int p1)]) hx hb dX1_placeAt_11 rfl hl (by decide) rfl (fun ls hl => ?_)
  refine lv_aload_n hx hb dX1_placeAt_12 rfl (lv_at hl 1 rfl) ?_
  refine va_get (D := D) (ci := 1) (v := .int (kS k 3 i)) (C := RX1) (T := TX1) (N := 8) hx hb hts iX1 hown hK hP (3 + i) (KW_S c5 a k hi) rfl 3 (by decide) (hts _ wT1_33) (fun _ h9 => h9) rfl dX1_placeAt_13 ?_
  refine lv_iconst (v := (1 : Int32)) hx hb dX1_placeAt_16 (by decide) ?_
  refine lv_icmp_lt (tgt := 37) hx hb dX1_placeAt_17 (by decide) (fun q => ?_) (fun q => ?_)
  · have h := o_t h q
    refine lv_iconst (v := (-1 : Int32)) hx hb dX1_placeAt_37 (by decide) ?_
    exact ro_iret hx hb hr hlocks dX1_placeAt_38 (Option.some.inj h)
  · have h := o_f h q
    refine lv_iload_n hx hb dX1_placeAt_20 rfl (lv_at hl 0 rfl) ?_
    refine lv_if_lt (tgt := 37) hx hb dX1_placeAt_21 (by decide) (fun q => ?_) (fun q => ?_)
    · have h := o_t h q
      refine lv_iconst (v := (-1 : Int32)) hx hb dX1_placeAt_37 (by decide) ?_
      exact ro_iret hx hb hr hlocks dX1_placeAt_38 (Option.some.inj h)
    · have h := o_f h q
      refine lv_iload_n hx hb dX1_placeAt_24 rfl (lv_at hl 0 rfl) ?_
      refine lv_aload_n hx hb dX1_placeAt_25 rfl (lv_at hl 1 rfl) ?_
      refine va_get (D := D) (ci := 1) (v := .int (kS k 4 i)) (C := RX1) (T := TX1) (N := 8) hx hb hts iX1 hown hK hP (3 + i) (KW_S c5 a k hi) rfl 4 (by decide) (hts _ wT1_35) (fun _ h9 => h9) rfl dX1_placeAt_26 ?_
      refine lv_aload_n hx hb dX1_placeAt_29 rfl (lv_at hl 1 rfl) ?_
      refine va_get (D := D) (ci := 1) (v := .int (kS k 3 i)) (C := RX1) (T := TX1) (N := 8) hx hb hts iX1 hown hK hP (3 + i) (KW_S c5 a k hi) rfl 3 (by decide) (hts _ wT1_33) (fun _ h9 => h9) rfl dX1_placeAt_30 ?_
      refine lv_imul hx hb dX1_placeAt_33 ?_
      refine lv_icmp_lt (tgt := 39) hx hb dX1_placeAt_34 (by decide) (fun q => ?_) (fun q => ?_)
      · have h := o_t h q
        refine lv_iload_n hx hb dX1_placeAt_39 rfl (lv_at hl 0 rfl) ?_
        refine lv_aload_n hx hb dX1_placeAt_40 rfl (lv_at hl 1 rfl) ?_
        refine va_get (D := D) (ci := 1) (v := .int (kS k 3 i)) (C := RX1) (T := TX1) (N := 8) hx hb hts iX1 hown hK hP (3 + i) (KW_S c5 a k hi) rfl 3 (by decide) (hts _ wT1_33) (fun _ h9 => h9) rfl dX1_placeAt_41 ?_
        obtain ⟨g44, h⟩ := o_if h
        refine lv_idiv hx hb dX1_placeAt_44 g44 ?_
        exact ro_iret hx hb hr hlocks dX1_placeAt_45 (Option.some.inj h)
      · have h := o_f h q
        refine lv_iconst (v := (-1 : Int32)) hx hb dX1_placeAt_37 (by decide) ?_
        exact ro_iret hx hb hr hlocks dX1_placeAt_38 (Option.some.inj h)
