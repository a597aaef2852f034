theorem st_perm (X Y : va_W) (z : Nat × va_E) : ((X ++ Y) ++ [z]).Perm ((X ++ [z]) ++ Y) := by
  rw [List.append_assoc, List.append_assoc]
  exact List.Perm.append_left _ List.perm_append_comm
theorem iB_blind {D : va_G} {tys : List (ClassId × FieldType)} {ws : va_W} {sz : Nat} {As : List Value} : FrameBlind (va_Pc As (fun U => U.heap.size = sz ∧ va_P D vwCl ws U.heap ∧ va_K D vwCl tys U ∧ va_D (fun _ => True) ws ∧ va_AO RX1 U ∧ va_AO RX0 U)) := fun a U g mk q => ⟨q.1, q.2.1, q.2.2.1, va_K.moved (u := U) (U := U.calling g mk a) (Vm.Alike.refl U.vm) q.2.2.2.1, q.2.2.2.2.1, va_AO.moved (u := U) (U := U.calling g mk a) (Vm.Alike.refl U.vm) q.2.2.2.2.2.1, va_AO.moved (u := U) (U := U.calling g mk a) (Vm.Alike.refl U.vm) q.2.2.2.2.2.2⟩
theorem ha_X2i : yX2_init.cls ≠ "java/lang/invoke/MethodHandle" ∧ yX2_init.cls ≠ "java/lang/invoke/VarHandle" ∧ (parseMethodDescriptor yX2_init.desc).map (fun d => d.parameters.length) = some 0 := by decide +kernel
theorem ha_X3i : yX3_init.cls ≠ "java/lang/invoke/MethodHandle" ∧ yX3_init.cls ≠ "java/lang/invoke/VarHandle" ∧ (parseMethodDescriptor yX3_init.desc).map (fun d => d.parameters.length) = some 0 := by decide +kernel
theorem st_K {s : State} {args : Array Value} (hts : ∀ w ∈ LA, w.before args s = true) (h1 : (Cond.arrayOver (.object RX1)).before args s = true) (h0 : (Cond.arrayOver (.object RX0)).before args s = true) : ∃ (D : va_G) (c5 : Nat → ClassId), va_K D vwCl (tyG c5) s := by
  obtain ⟨k0, i0, q0⟩ := u_known (C := RX0) (T := TX0) (N := 6) (n := 6) hts iX0 (hts _ wT2_83)
  obtain ⟨k1, i1, q1⟩ := u_known (C := RX1) (T := TX1) (N := 8) (n := 8) hts iX1 (hts _ wT1_26)
  obtain ⟨k2, i2, q2⟩ := u_known (C := RX2) (T := TX2) (N := 7) (n := 7) hts iX2 (hts _ wT1_15)
  obtain ⟨k3, i3, q3⟩ := u_known (C := RX3) (T := TX3) (N := 14) (n := 14) hts iX3 (hts _ wT3_23)
  obtain ⟨pS, cS, kS, a1, a2, a3, a4, a5⟩ := Cond.arrayOver_spec h1
  obtain ⟨pK, cK, kK, b1, b2, b3, b4, b5⟩ := Cond.arrayOver_spec h0
  obtain ⟨cZ, kZ, pZ, z1, z2, z3⟩ := Cond.arrayClass_spec (hts _ wT1_62)
  obtain ⟨cI, kI, pI, y1, y2, y3⟩ := Cond.arrayClass_spec (hts _ wT3_71)
  obtain ⟨cJ, kJ, pJ, x1, x2, x3⟩ := Cond.arrayClass_spec (hts _ wT4_60)
  refine ⟨(fun n => match n with | 0 => k0 | 1 => k1 | 2 => k2 | _ => k3, fun n => match n with | 0 => i0 | 1 => i1 | 2 => i2 | _ => i3), (fun n => match n with | 0 => cS | 1 => cK | 2 => cZ | 3 => cI | _ => cJ), ?_, ?_⟩
  · intro c q hq
    match c, hq with
    | 0, hq => cases hq; exact q0
    | 1, hq => cases hq; exact q1
    | 2, hq => cases hq; exact q2
    | 3, hq => cases hq; exact q3
  · intro k q hq
    match k, hq with
    | 0, hq => cases hq; exact ⟨fun n z => ⟨(fun k h => by cases h), kS, a3, pS, a4⟩, kS, pS, a3, a4, a1, a5⟩
    | 1, hq => cases hq; exact ⟨fun n z => ⟨(fun k h => by cases h), kK, b3, pK, b4⟩, kK, pK, b3, b4, b1, b5⟩
    | 2, hq => cases hq; exact ⟨fun n z => ⟨(fun k h => by cases h), kZ, z2, pZ, z3⟩, z1⟩
    | 3, hq => cases hq; exact ⟨fun n z => ⟨(fun k h => by cases h), kI, y2, pI, y3⟩, y1⟩
    | 4, hq => cases hq; exact ⟨fun n z => ⟨(fun k h => by cases h), kJ, x2, pJ, x3⟩, x1⟩
theorem st_s {s : State} {args : Array Value} {k : Nat} {tx : String} (h1 : (Cond.stringRef RX2 k tx).before args s = true) (h2 : (Cond.exactly (Term.string "SlabKitchen" k) "java/lang/String").before args s = true) : ∃ a, vk_R RX2 k tx a s := by
  obtain ⟨a, c, cA, kA, q1, -⟩ := Cond.exactly_spec (args := args) (first := s) (o := none) (s := s) (idx := []) (t := Term.string "SlabKitchen" k) (cls := "java/lang/String") h2
  exact ⟨a, vk_R.of h1 q1⟩
theorem st_X {s : State} {b : Addr} (hts0 : ∀ w ∈ lw_tbl, w.before #[Value.ref b] s = true) (hts : ∀ w ∈ LA, w.before #[Value.ref b] s = true) (hgv : (Jvm.Cond.and given_1 narrow_1).before #[Value.ref b] s = true) : ∃ sx, exL (fun q => s.heap.size ≤ q) sx s := by
  have hs := flat_of_before _ hgv
  have hA : ∀ a : Nat, a < s.heap.size → ¬ (fun q => s.heap.size ≤ q) a := fun a h => Nat.not_le.mpr h
  obtain ⟨a42, h42⟩ := st_s (k := 42) (tx := "a size is 2 to 12") (hts0 _ (lt_2 60 rfl)) (hs _ (by decide +kernel))
  obtain ⟨a49, h49⟩ := st_s (k := 49) (tx := "there are 5 kinds") (hts0 _ (lt_2 76 rfl)) (hs _ (by decide +kernel))
  obtain ⟨a57, h57⟩ := st_s (k := 57) (tx := "a way is 0 to 2") (hts0 _ (lt_2 125 rfl)) (hs _ (by decide +kernel))
  obtain ⟨a68, h68⟩ := st_s (k := 68) (tx := "there is neither a place nor a free shelf") (hts0 _ (lt_2 138 rfl)) (hs _ (by decide +kernel))
  obtain ⟨a99, h99⟩ := st_s (k := 99) (tx := "no bowl's place begins there") (hts0 _ (lt_2 167 rfl)) (hs _ (by decide +kernel))
  obtain ⟨a107, h107⟩ := st_s (k := 107) (tx := "an age is 0 to 99") (hts0 _ (lt_2 179 rfl)) (hs _ (by decide +kernel))
  obtain ⟨a119, h119⟩ := st_s (k := 119) (tx := "a shelf is 0 to 11") (hts0 _ (lt_2 210 rfl)) (hs _ (by decide +kernel))
  obtain ⟨a159, h159⟩ := st_s (k := 159) (tx := "many is 1 to 150") (hts0 _ (lt_3 14 rfl)) (hs _ (by decide +kernel))
  obtain ⟨a187, h187⟩ := st_s (k := 187) (tx := "there is no such kind") (hts0 _ (lt_2 137 rfl)) (hs _ (by decide +kernel))
  obtain ⟨a189, h189⟩ := st_s (k := 189) (tx := "a spot is 0 to 287") (hts0 _ (lt_2 162 rfl)) (hs _ (by decide +kernel))
  obtain ⟨a191, h191⟩ := st_s (k := 191) (tx := "nothing is told under this number") (hts0 _ (lt_1 174 rfl)) (hs _ (by decide +kernel))
  refine ⟨fun n => match n with | 42 => a42 | 49 => a49 | 57 => a57 | 68 => a68 | 99 => a99 | 107 => a107 | 119 => a119 | 159 => a159 | 187 => a187 | 189 => a189 | 191 => a191 | _ => 0, vx_Zqof (hts0 _ (lt_1 160 rfl)) (hts _ wT1_4) (hs _ (by decide +kernel)) hA, vx_Zqof (hts0 _ (lt_1 162 rfl)) (hts _ wT1_4) (hs _ (by decide +kernel)) hA, ?_, ?_, ?_, ?_⟩
  · intro q hq
    simp only [strL, List.mem_cons, List.not_mem_nil, or_false] at hq
    rcases hq with rfl | rfl | rfl | rfl | rfl | rfl | rfl | rfl | rfl | rfl | rfl
    · exact h42
    · exact h49
    · exact h57
    · exact h68
    · exact h99
    · exact h107
    · exact h119
    · exact h159
    · exact h187
    · exact h189
    · exact h191
  · intro E hE
    simp only [List.mem_cons, List.not_mem_nil, or_false] at hE
    rcases hE with rfl | rfl | rfl
    · exact va_Nw.of rfl (hts0 _ (lt_2 53 rfl))
    · exact va_Nw.of rfl (hts0 _ (lt_2 69 rfl))
    · exact va_Nw.of rfl (hts0 _ (lt_1 135 rfl))
  · intro C hC
    simp only [exSup, List.mem_cons, List.not_mem_nil, or_false] at hC
    rcases hC with rfl | rfl | rfl
    · exact va_Nw.of rfl (hts0 _ (lt_1 137 rfl))
    · exact va_Nw.of rfl (hts0 _ (lt_1 139 rfl))
    · exact va_Nw.of rfl (hts0 _ (lt_1 141 rfl))
  · intro q hq
    simp only [exPr, List.mem_cons, List.not_mem_nil, or_false] at hq
    rcases hq with rfl | rfl | rfl | rfl | rfl | rfl
    · exact va_Nc.of (hs _ (by decide +kernel))
    · exact va_Nc.of (hs _ (by decide +kernel))
    · exact va_Nc.of (hs _ (by decide +kernel))
    · exact va_Nc.of (hs _ (by decide +kernel))
    · exact va_Nc.of (hs _ (by decide +kernel))
    · exact va_Nc.of (hs _ (by decide +kernel))
set_option maxHeartbeats 8000000 in
set_option maxRecDepth 100000 in
theorem law_start {Rel : Nat → KSt → MSt → Prop} (hy : Sync Rel) (hR1 : ∀ n k m, n < 512 → Rel n k m → Rel (n + 1) k m) (hR0 : Rel 0 k0 (m0 12)) {p : Program} {e : Env} {s : State} {m : MethodId} {below : List Frame} {meth : Method} {c : Code} (l : Launch) (hflags : l.flags = flags0) {b L : Nat} {xs : Nat → Int32} (hL : L ≤ 1536) (C0 : lw_At p s m meth c b L xs) : W p l e room_1 s m #[Value.ref b] below meth c s.heap [] 0 0 (lw_Z below #[Value.ref b] s) (entryFrame m ([Value.ref b] : List Value).toArray 9) := by
  obtain ⟨hx, hb, hr, hml, hown, hts0, hXs, hbl, hlocks, hgv⟩ := id C0
  have hts : ∀ w ∈ LA, w.before #[Value.ref b] s = true := fun w h => hts0 w (List.mem_filter.mp h).1
  have hA : ∀ q : Nat, s.heap.size ≤ q → (fun q : Nat => s.heap.size ≤ q) q := fun _ h => h
  have hO1 : (Cond.arrayOver (.object RX1)).before #[Value.ref b] s = true := hts0 _ (lt_1 23 rfl)
  have hO0 : (Cond.arrayOver (.object RX0)).before #[Value.ref b] s = true := hts0 _ (lt_1 25 rfl)
  obtain ⟨D, c5, hK⟩ := st_K hts hO1 hO0
  obtain ⟨sx, hX⟩ := st_X hts0 hts hgv
  have hS : va_S (fun q : Nat => s.heap.size ≤ q) s.heap s.heap [] := va_S.rf
  have hP : va_P D vwCl [] s.heap := fun k q h => by simp at h
  have hD : va_D (fun q : Nat => s.heap.size ≤ q) [] := ⟨fun i j p q h => by simp at h, fun k q h => by simp at h⟩
  have hl := lv_entry ([.ref b]) (n := 9) (Nat.le_of_ble_eq_true rfl)
  rw [lg_entry_eq]
  generalize (lg_sl ([.ref b]) ++ List.replicate (9 - (lg_sl ([.ref b])).length) Slot.unset).toArray = ls at hl ⊢
  have hl : lv_has ls 9 [(0, .ref b)] := hl
  refine va_new (ci := 2) (fs := [.null, .null, .int 0, .int 0, .int 0, .int 0, .int 0]) (C := RX2) (T := TX2) (N := 7) hx hb hts iX2 tyX2 tyX2_ok hown (hts _ wT1_14) (hts _ wT1_15) (hts _ wT1_1) hK hP hD hS hA rfl (by intro j hj; match j, hj with | 0, _ => rfl | 1, _ => rfl | 2, _ => rfl | 3, _ => rfl | 4, _ => rfl | 5, _ => rfl | 6, _ => rfl) (Nat.le_of_ble_eq_true rfl) (Nat.le_of_ble_eq_true rfl) dL_law_0 (fun h0 H hP hD hS => ?_)
  refine lv_dup hx hb dL_law_3 rfl ?_
  refine fr_callv (wc := [(h0, .inr (2, [.null, .null, .int 0, .int 0, .int 0, .int 0, .int 0]))]) (X := []) (Y := []) (va_runI (As := []) (rest := [.ref h0]) ⟨hx, hb, hml, hown, hts⟩ (c_X2_init l D c5 h0 H.size) (cwI 0 hts (la_sub wT1_18) rfl rfl rfl (hts _ wT1_1) (hts _ wT1_16) (hts _ wT1_17) rfl ha_X2i ⟨Nat.le_of_ble_eq_true rfl, Nat.le_of_ble_eq_true rfl⟩) ⟨iB_blind, fun U hU hW => ⟨rfl, by rw [hU], by rw [hU]; exact hP, va_K.moved hW.alike hK, hD.weaken (fun _ _ _ _ => trivial), va_AO.moved hW.alike (va_AO.of hO1), va_AO.moved hW.alike (va_AO.of hO0)⟩⟩ rfl rfl hl.1 rfl (lv_room (Nat.le_of_ble_eq_true rfl)) dL_law_4 ⟨Nat.le_of_ble_eq_true rfl, Nat.le_of_ble_eq_true rfl⟩) hP hD hS hA (fun a H locs ha hP hD hS => ?_)
  rw [← ha]
  refine lv_astore_n (i := 1) (lv' := [(1, .ref (aO a 0)), (0, .ref b)]) hx hb dL_law_7 rfl hl (by decide) rfl (fun ls hl => ?_)
  refine va_new (ci := 3) (fs := [.int 0, .int 0, .int 0, .int 0, .int 0, .int 0, .null, .null, .null, .null, .null, .null, .null, .null]) (C := RX3) (T := TX3) (N := 14) hx hb hts iX3 tyX3 tyX3_ok hown (hts _ wT3_22) (hts _ wT3_23) (hts _ wT1_3) hK hP hD hS hA rfl (by intro j hj; match j, hj with | 0, _ => rfl | 1, _ => rfl | 2, _ => rfl | 3, _ => rfl | 4, _ => rfl | 5, _ => rfl | 6, _ => rfl | 7, _ => rfl | 8, _ => rfl | 9, _ => rfl | 10, _ => rfl | 11, _ => rfl | 12, _ => rfl | 13, _ => rfl) (Nat.le_of_ble_eq_true rfl) (Nat.le_of_ble_eq_true rfl) dL_law_8 (fun b0 H hP hD hS => ?_)
  refine lv_dup hx hb dL_law_11 rfl ?_
  have hP : va_P D vwCl (KW c5 a k0 ++ ([(b0, .inr (3, [.int 0, .int 0, .int 0, .int 0, .int 0, .int 0, .null, .null, .null, .null, .null, .null, .null, .null]))] ++ [])) H := wP (by simp) hP
  have hD : va_D (fun q : Nat => s.heap.size ≤ q) (KW c5 a k0 ++ ([(b0, .inr (3, [.int 0, .int 0, .int 0, .int 0, .int 0, .int 0, .null, .null, .null, .null, .null, .null, .null, .null]))] ++ [])) := wD (by simp) hD
  refine fr_callv (wc := [(b0, .inr (3, [.int 0, .int 0, .int 0, .int 0, .int 0, .int 0, .null, .null, .null, .null, .null, .null, .null, .null]))]) (X := KW c5 a k0) (Y := []) (rw_runI (As := []) (rest := [.ref b0]) ⟨hx, hb, hml, hown, hts⟩ (fr_P (X := KW c5 a k0) (Y := []) hP) hK (fr_D (X := KW c5 a k0) (Y := []) hD) (c_X3_init l D c5 b0 H.size) wT3_26 wT1_3 wT3_24 wT3_25 rfl ha_X3i ⟨Nat.le_of_ble_eq_true rfl, Nat.le_of_ble_eq_true rfl⟩ ⟨rfl, rfl⟩ hl.1 (Nat.le_of_ble_eq_true rfl) dL_law_12 ⟨Nat.le_of_ble_eq_true rfl, Nat.le_of_ble_eq_true rfl⟩ rfl) hP hD hS hA (fun bm H locs hbm hP hD hS => ?_)
  rw [← hbm]
  refine lv_astore_n (i := 2) (lv' := [(2, .ref (bm 0)), (1, .ref (aO a 0)), (0, .ref b)]) hx hb dL_law_15 rfl hl (by decide) rfl (fun ls hl => ?_)
  refine lv_iconst (v := (1 : Int32)) hx hb dL_law_16 (by decide) ?_
  have hP := wM hP
  have hD := dM hD
  refine va_newa (atype := .long) (a0 := (1, .inr (.inl (fun _ => (0 : Int64))))) (N' := 1) hx hb (hts _ wT4_60) rfl hK hP hD hS hA (fun _ => rfl) (by decide) (by decide) (by decide) (Nat.le_of_ble_eq_true rfl) (Nat.le_of_ble_eq_true rfl) dL_law_17 (fun o cA H hK9 hP hD hS => ?_)
  obtain rfl : cA = c5 4 := ca_eq (i := 5) (j := 4) hK9 rfl rfl
  have hP : va_P D vwCl (LW c5 a k0 o (fun _ => 0) ++ MW c5 bm (m0 12)) H := va_P.perm (st_perm _ _ _) hP
  have hD : va_D (fun q : Nat => s.heap.size ≤ q) (LW c5 a k0 o (fun _ => 0) ++ MW c5 bm (m0 12)) := va_D.perm (st_perm _ _ _) hD
  refine lv_astore_n (i := 3) (lv' := [(3, .ref o), (2, .ref (bm 0)), (1, .ref (aO a 0)), (0, .ref b)]) hx hb dL_law_19 rfl hl (by decide) rfl (fun ls hl => ?_)
  refine lv_iconst (v := (0 : Int32)) hx hb dL_law_20 (by decide) ?_
  refine lv_istore (i := 4) (lv' := [(4, .int (0 : Int32)), (3, .ref o), (2, .ref (bm 0)), (1, .ref (aO a 0)), (0, .ref b)]) hx hb dL_law_21 hl (by decide) rfl (fun ls hl => ?_)
  exact lw_loop hy hR1 ⟨hx, hb, hml, hown, hts, hXs, hbl, hK, hX, hflags, hL⟩ hr hlocks 512 0 _ _ a k0 (m0 12) _ H _ ls rfl (Nat.le_of_ble_eq_true rfl) (Nat.le_of_ble_eq_true rfl) rfl hR0 (lv_sub hl [4, 3, 2, 1, 0] rfl) hP hD hS
