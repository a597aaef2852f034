/-! the start, the law's walk, the end -/
theorem iB_blind {D : va_G} {tys : List (ClassId × FieldType)} {ws : va_W} {sz : Nat} {As : List Value} : FrameBlind (va_Pc As (fun U => U.heap.size = sz ∧ va_P D vwCl ws U.heap ∧ va_K D vwCl tys U ∧ va_D (fun _ => True) ws ∧ va_AO RX1 U ∧ va_AO RX0 U)) := fun a U g mk q => ⟨q.1, q.2.1, q.2.2.1, va_K.moved (u := U) (U := U.calling g mk a) (Vm.Alike.refl U.vm) q.2.2.2.1, q.2.2.2.2.1, va_AO.moved (u := U) (U := U.calling g mk a) (Vm.Alike.refl U.vm) q.2.2.2.2.2.1, va_AO.moved (u := U) (U := U.calling g mk a) (Vm.Alike.refl U.vm) q.2.2.2.2.2.2⟩
theorem ha_X2i : yX2_init.cls ≠ "java/lang/invoke/MethodHandle" ∧ yX2_init.cls ≠ "java/lang/invoke/VarHandle" ∧ (parseMethodDescriptor yX2_init.desc).map (fun d => d.parameters.length) = some 0 := by decide +kernel
theorem hd_L_build : yL_build.cls ≠ "java/lang/invoke/MethodHandle" ∧ yL_build.cls ≠ "java/lang/invoke/VarHandle" ∧ (parseMethodDescriptor yL_build.desc).map (fun d => d.parameters.length) = some 2 := by decide +kernel
theorem gG_RL_82 : GoodIn LA (va_wsS RL 82 yL_build (ws_ yL_build cL_build 8 (some (.object "SlabKitchenLaw$Sim")))) := la_S wT2_237 wT2_238 wT1_0 wT2_239
theorem st_K {s : State} {args : Array Value} (hts : ∀ w ∈ LA, w.before args s = true) (h1 : (Cond.arrayOver (.object RX1)).before args s = true) (h0 : (Cond.arrayOver (.object RX0)).before args s = true) (h4 : (Cond.arrayOver (.array .int)).before args s = true) (h5 : (Cond.arrayOver (.array .boolean)).before args s = true) : ∃ (D : va_G) (c5 : Nat → ClassId), va_K D vwCl (tyG c5) s := by
  obtain ⟨k0, i0, q0⟩ := u_known (C := RX0) (T := TX0) (N := 6) (n := 6) hts iX0 (hts _ wT3_45)
  obtain ⟨k1, i1, q1⟩ := u_known (C := RX1) (T := TX1) (N := 8) (n := 8) hts iX1 (hts _ wT1_23)
  obtain ⟨k2, i2, q2⟩ := u_known (C := RX2) (T := TX2) (N := 7) (n := 7) hts iX2 (hts _ wT1_12)
  obtain ⟨k3, i3, q3⟩ := u_known (C := RX3) (T := TX3) (N := 7) (n := 7) hts iX3 (hts _ wT3_1)
  obtain ⟨pS, cS, kS, a1, a2, a3, a4, a5⟩ := Cond.arrayOver_spec h1
  obtain ⟨pK, cK, kK, b1, b2, b3, b4, b5⟩ := Cond.arrayOver_spec h0
  obtain ⟨cZ, kZ, pZ, z1, z2, z3⟩ := Cond.arrayClass_spec (hts _ wT1_59)
  obtain ⟨cI, kI, pI, y1, y2, y3⟩ := Cond.arrayClass_spec (hts _ wT2_184)
  obtain ⟨pQ, cQ, kQ, d1, d2, d3, d4, d5⟩ := Jvm.Stand.arrayOver_specB h4
  obtain ⟨pR, cR, kR, e1, e2, e3, e4, e5⟩ := Jvm.Stand.arrayOver_specB h5
  refine ⟨(fun n => match n with | 0 => k0 | 1 => k1 | 2 => k2 | _ => k3, fun n => match n with | 0 => i0 | 1 => i1 | 2 => i2 | _ => i3), (fun n => match n with | 0 => cS | 1 => cK | 2 => cZ | 3 => cI | 4 => cQ | _ => cR), ?_, ?_⟩
  · intro c q hq
    match c, hq with
    | 0, hq => cases hq; exact q0
    | 1, hq => cases hq; exact q1
    | 2, hq => cases hq; exact q2
    | 3, hq => cases hq; exact q3
  · intro k q hq
    match k, hq with
    | 0, hq => cases hq; exact ⟨fun n z => ⟨(fun k h => by cases h), kS, a3, pS, a4⟩, kS, pS, a3, a4, a1, a5⟩
    | 1, hq => cases hq; exact ⟨fun n z => ⟨(fun k h => by cases h), kK, b3, pK, b4⟩, kK, pK, b3, b4, b1, b5⟩
    | 2, hq => cases hq; exact ⟨fun n z => ⟨(fun k h => by cases h), kZ, z2, pZ, z3⟩, z1⟩
    | 3, hq => cases hq; exact ⟨fun n z => ⟨(fun k h => by cases h), kI, y2, pI, y3⟩, y1⟩
    | 4, hq => cases hq; exact ⟨fun n z => ⟨(fun k h => by cases h), kQ, d3, pQ, d4⟩, d5⟩
    | 5, hq => cases hq; exact ⟨fun n z => ⟨(fun k h => by cases h), kR, e3, pR, e4⟩, e5⟩
theorem st_s {s : State} {args : Array Value} {k : Nat} {tx : String} (h1 : (Cond.stringRef RX2 k tx).before args s = true) (h2 : (Cond.exactly (Term.string "SlabKitchen" k) "java/lang/String").before args s = true) : ∃ a, vk_R RX2 k tx a s := by
  obtain ⟨a, c, cA, kA, q1, -⟩ := Cond.exactly_spec (args := args) (first := s) (o := none) (s := s) (idx := []) (t := Term.string "SlabKitchen" k) (cls := "java/lang/String") h2
  exact ⟨a, vk_R.of h1 q1⟩
theorem st_X {s : State} {b : Addr} (hts0 : ∀ w ∈ lw_tbl, w.before #[Value.ref b] s = true) (hts : ∀ w ∈ LA, w.before #[Value.ref b] s = true) (hgv : (Jvm.Cond.and given_1 narrow_1).before #[Value.ref b] s = true) : ∃ sx, exL (lwA s) sx s := by
  have hs := flat_of_before _ hgv
  have hA : ∀ a : Nat, a < s.heap.size → ¬ (lwA s) a := fun a h => Nat.not_le.mpr h
  obtain ⟨a42, h42⟩ := st_s (k := 42) (tx := "a size is 2 to 12") (hts0 _ (lt_3 43 rfl)) (hs _ (by decide +kernel))
  obtain ⟨a49, h49⟩ := st_s (k := 49) (tx := "there are 5 kinds") (hts0 _ (lt_3 44 rfl)) (hs _ (by decide +kernel))
  obtain ⟨a57, h57⟩ := st_s (k := 57) (tx := "a way is 0 to 2") (hts0 _ (lt_2 234 rfl)) (hs _ (by decide +kernel))
  obtain ⟨a68, h68⟩ := st_s (k := 68) (tx := "there is neither a place nor a free shelf") (hts0 _ (lt_1 199 rfl)) (hs _ (by decide +kernel))
  obtain ⟨a99, h99⟩ := st_s (k := 99) (tx := "no bowl's place begins there") (hts0 _ (lt_2 13 rfl)) (hs _ (by decide +kernel))
  obtain ⟨a107, h107⟩ := st_s (k := 107) (tx := "an age is 0 to 99") (hts0 _ (lt_2 28 rfl)) (hs _ (by decide +kernel))
  obtain ⟨a119, h119⟩ := st_s (k := 119) (tx := "a shelf is 0 to 11") (hts0 _ (lt_2 205 rfl)) (hs _ (by decide +kernel))
  obtain ⟨a159, h159⟩ := st_s (k := 159) (tx := "many is 1 to 150") (hts0 _ (lt_2 121 rfl)) (hs _ (by decide +kernel))
  obtain ⟨a187, h187⟩ := st_s (k := 187) (tx := "there is no such kind") (hts0 _ (lt_1 131 rfl)) (hs _ (by decide +kernel))
  obtain ⟨a189, h189⟩ := st_s (k := 189) (tx := "a spot is 0 to 287") (hts0 _ (lt_1 238 rfl)) (hs _ (by decide +kernel))
  obtain ⟨a191, h191⟩ := st_s (k := 191) (tx := "nothing is told under this number") (hts0 _ (lt_2 56 rfl)) (hs _ (by decide +kernel))
  refine ⟨fun n => match n with | 42 => a42 | 49 => a49 | 57 => a57 | 68 => a68 | 99 => a99 | 107 => a107 | 119 => a119 | 159 => a159 | 187 => a187 | 189 => a189 | 191 => a191 | _ => 0, vx_Zqof (hts0 _ (lt_1 117 rfl)) (hts _ wT1_4) (hs _ (by decide +kernel)) hA, vx_Zqof (hts0 _ (lt_1 119 rfl)) (hts _ wT1_4) (hs _ (by decide +kernel)) hA, ?_, ?_, ?_⟩
  · intro q hq
    simp only [strL, List.mem_cons, List.not_mem_nil, or_false] at hq
    rcases hq with rfl | rfl | rfl | rfl | rfl | rfl | rfl | rfl | rfl | rfl | rfl
    · exact h42
    · exact h49
    · exact h57
    · exact h68
    · exact h99
    · exact h107
    · exact h119
    · exact h159
    · exact h187
    · exact h189
    · exact h191
  · intro E hE
    simp only [List.mem_cons, List.not_mem_nil, or_false] at hE
    rcases hE with rfl | rfl | rfl
    · exact va_Nw.of rfl (hts0 _ (lt_2 6 rfl))
    · exact va_Nw.of rfl (hts0 _ (lt_1 192 rfl))
    · exact va_Nw.of rfl (hts0 _ (lt_1 92 rfl))
  · intro C hC
    simp only [exSup, List.mem_cons, List.not_mem_nil, or_false] at hC
    rcases hC with rfl | rfl | rfl
    · exact va_Nw.of rfl (hts0 _ (lt_1 94 rfl))
    · exact va_Nw.of rfl (hts0 _ (lt_1 96 rfl))
    · exact va_Nw.of rfl (hts0 _ (lt_1 98 rfl))
set_option maxHeartbeats 8000000 in
set_option maxRecDepth 100000 in
theorem whole_start {p : Program} {e : Env} {s : State} {m : MethodId} {below : List Frame} {meth : Method} {c : Code} (l : Launch) (hflags : l.flags = flags0) {b L : Nat} {xs : Nat → Int32} (hL : L ≤ 260) (C0 : lw_At p s m meth c b L xs) : W p l e room_1 s m #[Value.ref b] below meth c s.heap [] 0 0 (lw_Z below #[Value.ref b] s) (entryFrame m ([Value.ref b] : List Value).toArray 24) := by
  obtain ⟨hx, hb, hr, hml, hown, hts0, hXs, hbl, hlocks, hgv⟩ := id C0
  have hts : ∀ w ∈ LA, w.before #[Value.ref b] s = true := fun w h => hts0 w (List.mem_filter.mp h).1
  have hA : ∀ q : Nat, s.heap.size ≤ q → lwA s q := fun _ h => h
  have hO1 : (Cond.arrayOver (.object RX1)).before #[Value.ref b] s = true := hts0 _ (lt_1 20 rfl)
  have hO0 : (Cond.arrayOver (.object RX0)).before #[Value.ref b] s = true := hts0 _ (lt_1 22 rfl)
  have hO4 : (Cond.arrayOver (.array .int)).before #[Value.ref b] s = true := hts0 _ (lt_3 7 rfl)
  have hO5 : (Cond.arrayOver (.array .boolean)).before #[Value.ref b] s = true := hts0 _ (lt_3 10 rfl)
  have hOI : va_AOA .int s := va_AOA.of hO4
  have hOZ : va_AOA .boolean s := va_AOA.of hO5
  obtain ⟨D, c5, hK⟩ := st_K hts hO1 hO0 hO4 hO5
  obtain ⟨sx, hX⟩ := st_X hts0 hts hgv
  have hS : va_S (lwA s) s.heap s.heap [] := va_S.rf
  have hP : va_P D vwCl [] s.heap := fun k q h => by simp at h
  have hD : va_D (lwA s) [] := ⟨fun i j p q h => by simp at h, fun k q h => by simp at h⟩
  have hl := lv_entry ([.ref b]) (n := 24) (Nat.le_of_ble_eq_true rfl)
  rw [lg_entry_eq]
  generalize (lg_sl ([.ref b]) ++ List.replicate (24 - (lg_sl ([.ref b])).length) Slot.unset).toArray = ls at hl ⊢
  have hl : lv_has ls 24 [(0, .ref b)] := hl
  refine va_new (ci := 2) (fs := [.null, .null, .int 0, .int 0, .int 0, .int 0, .int 0]) (C := RX2) (T := TX2) (N := 7) hx hb hts iX2 tyX2 tyX2_ok hown (hts _ wT1_11) (hts _ wT1_12) (hts _ wT1_1) hK hP hD hS hA rfl (by intro j hj; match j, hj with | 0, _ => rfl | 1, _ => rfl | 2, _ => rfl | 3, _ => rfl | 4, _ => rfl | 5, _ => rfl | 6, _ => rfl) (Nat.le_of_ble_eq_true rfl) (Nat.le_of_ble_eq_true rfl) dL_law_0 (fun h0 H hP hD hS => ?_)
  refine lv_dup hx hb dL_law_3 rfl ?_
  refine fr_callv (wc := [(h0, .inr (2, [.null, .null, .int 0, .int 0, .int 0, .int 0, .int 0]))]) (X := []) (Y := []) (va_runI (As := []) (rest := [.ref h0]) ⟨hx, hb, hml, hown, hts⟩ (c_X2_init l D c5 h0 H.size) (cwI 0 hts (la_sub wT1_15) rfl rfl rfl (hts _ wT1_1) (hts _ wT1_13) (hts _ wT1_14) rfl ha_X2i ⟨Nat.le_of_ble_eq_true rfl, Nat.le_of_ble_eq_true rfl⟩) ⟨iB_blind, fun U hU hW => ⟨rfl, by rw [hU], by rw [hU]; exact hP, va_K.moved hW.alike hK, hD.weaken (fun _ _ _ _ => trivial), va_AO.moved hW.alike (va_AO.of hO1), va_AO.moved hW.alike (va_AO.of hO0)⟩⟩ rfl rfl hl.1 rfl (lv_room (Nat.le_of_ble_eq_true rfl)) dL_law_4 ⟨Nat.le_of_ble_eq_true rfl, Nat.le_of_ble_eq_true rfl⟩) hP hD hS hA (fun a H locs ha hP hD hS => ?_)
  rw [← ha]
  refine lv_astore_n (i := 1) (lv' := [(1, .ref (aO a 0)), (0, .ref b)]) hx hb dL_law_7 rfl hl (by decide) rfl (fun ls hl => ?_)
  refine lv_aload_n hx hb dL_law_8 rfl (lv_at hl 0 rfl) ?_
  refine lv_aload_n hx hb dL_law_9 rfl (lv_at hl 1 rfl) ?_
  have hP := wM hP
  have hD := dM hD
  obtain ⟨k', z', A', eb, hR, hpos⟩ := w_build hL xs
  have hbA : ¬ lwA s b := Nat.not_le.mpr hbl
  have hf := rw_free hD hS hA
  refine va_callr (bd_runS (As := [.ref (aO a 0), .ref b]) (rest := []) ⟨hx, hb, hml, hown, hts⟩ hP hK hD hOI hOZ hXs hbl hbA hS hA (c_L_build l D c5 a k0 b L xs H.size (k', z') eb) gG_RL_82 hd_L_build ⟨Nat.le_of_ble_eq_true rfl, Nat.le_of_ble_eq_true rfl⟩ ⟨rfl, rfl⟩ hl.1 (Nat.le_of_ble_eq_true rfl) dL_law_10 ⟨Nat.le_of_ble_eq_true rfl, Nat.le_of_ble_eq_true rfl⟩ rfl) hS (fun q _ h => hf q h) hf (fun u ra t H1 locs1 ht hvm hu hB hz hk hS => ?_)
  obtain ⟨ar, k1, bo, bv, z1⟩ := u
  obtain ⟨hu1, hu2⟩ := hu
  have hu1 : k1 = k' := hu1
  have hu2 : z1 = z' := hu2
  subst hu1 hu2
  obtain ⟨hq, hP1, -, hD1⟩ := hB
  have hq : ra = bo 0 := hq
  rw [hq]
  rw [ht] at hP1
  have hP2 : va_P D vwCl (KW c5 (a.1, ar) k1 ++ SW c5 bo bv z1) H1 := hP1
  have hD2 : va_D (va_A (KW c5 a k0) H.size) (KW c5 (a.1, ar) k1 ++ SW c5 bo bv z1) := hD1
  have hPl : va_P D vwCl (KW c5 (a.1, ar) k1 ++ (SW c5 bo bv z1 ++ ([] : va_W))) H1 := by rw [List.append_nil]; exact hP2
  have hDl : va_D (lwA s) (KW c5 (a.1, ar) k1 ++ (SW c5 bo bv z1 ++ ([] : va_W))) := by
    rw [List.append_nil]
    rw [va_D_iff] at hD2 ⊢
    exact ⟨hD2.1, fun q hq => hf q.1 (hD2.2 q hq)⟩
  refine lv_astore_n (i := 2) (lv' := [(2, .ref (bo 0)), (1, .ref (aO a 0)), (0, .ref b)]) hx hb dL_law_13 rfl hl (by decide) rfl (fun ls hl => ?_)
  refine lv_aload_n hx hb dL_law_14 rfl (lv_at hl 0 rfl) ?_
  refine lv_ifnonnull (tgt := 20) hx hb dL_law_15 (by decide) ?_
  refine W.widen (k := 4000) (n := 40000) (by omega) (by omega) ?_
  exact law_walk (a := (a.1, ar)) l hflags hx hb hr hml hown hts hlocks hXs hbl hK hOI hOZ hX () (w_law hL xs (n := 60) (by omega) hR hpos) (lv_sub hl [1, 0, 2] rfl) hPl hDl hS
-- ===== YOUR PART ENDS =====
set_option maxHeartbeats 4000000 in
theorem lw_walk (l : Launch) (hflags : l.flags = flags0) (b : Addr) (xs : List Int32) : MetFree l x (headSpec (Jvm.Cond.code x code maxLocals ret :: tables_1) room_1) (lw_P b xs) (fun _ _ _ _ _ => True) lw_Q := by
  refine MetFree.of_bodyS (code := code) (maxLocals := maxLocals) (ret := ret) (by decide) ?_ ?_
  · intro args s m h hn
    obtain ⟨meth, c, h1, h2, h3, h4, h5, h6, -, -⟩ := Cond.code_spec hn (atoms_spec (ws := Jvm.Cond.code x code maxLocals ret :: tables_1) h _ List.mem_cons_self)
    exact ⟨meth, c, h1, h2, h3, h4, h5, h6⟩
  · intro p e s m args below meth c s₁ B hml0 hP _
    obtain ⟨rfl, hx, hbd, hgv⟩ := hP
    obtain ⟨scr, harrAt, hlist, hof, hsmall⟩ := hx
    obtain ⟨hcb, hkn, -, -⟩ := State.arrayAt?_spec harrAt
    have hown : s.vm.findClass R_law = some m.cls := findClass_of_methodNamed B.named
    have hts0 : ∀ c ∈ (Jvm.Cond.code x code maxLocals ret :: tables_1), c.before #[Value.ref b] s = true := atoms_spec (ws := Jvm.Cond.code x code maxLocals ret :: tables_1) B.pre
    have hts : ∀ w ∈ lw_tbl, w.before #[Value.ref b] s = true := k2_hts_sels lw_privs (fun w hw => hts0 w (List.mem_cons_of_mem _ hw)) lw_privs_ok
    have hml : c.maxLocals = 24 := B.maxLocals_eq (hts0 _ List.mem_cons_self)
    have X₀ : Stand p l e room_1 s m #[Value.ref b] below meth c s₁ [] 0 0 := Stand.of_body B
    have hh0 : s₁.heap = s.heap := by rw [B.state]; rfl
    have hsz : scr.slots.size = xs.length := by rw [← Array.length_toList, hlist, List.length_map]
    have hval : ∀ j : Nat, j < xs.length → scr.slots[j]? = some (.int (xs.getD j 0)) := fun j hj => by
      rw [← Array.getElem?_toList, hlist]
      simp [hj]
    have hbl : b < s.heap.size := (Array.getElem?_eq_some_iff.mp hcb).1
    have hX : va_X b xs.length (fun j => xs.getD j 0) s s.heap := ⟨scr, hcb, hof, hkn, hsz, hval⟩
    have K : W p l e room_1 s m #[Value.ref b] below meth c s₁.heap [] 0 0 (lw_Z below #[Value.ref b] s) (entryFrame m ([Value.ref b] : List Value).toArray 24) := by
      rw [hh0]
      exact whole_start l hflags hbd ⟨B.exec, B.bytes, B.returns, hml, hown, hts, hX, hbl, B.notSynchronized, hgv⟩
    obtain ⟨t, a1, o, b1, b2, b3⟩ := K s₁ rfl X₀
    exact ⟨t, o, a1, b1, b2, b3⟩
theorem lw_pre_spec {args : Array Value} {s : State} (h : (Jvm.Cond.and given_1 narrow_1).before args s = true) (hr : rest_1_c.before args s = true) : ∃ (b : Addr) (xs : List Int32), lw_P b xs args s := by
  have hs := flat_of_before _ h
  have hq := flat_of_before _ hr
  have hc : (Cond.count 1).before args s = true := hs _ (by decide +kernel)
  have harr : (Cond.arrayOf (.arg 0) .int).before args s = true := hs _ (by decide +kernel)
  have hle : (Cond.le (.length (.arg 0)) (.int 260)).before args s = true := hs _ (by decide +kernel)
  have hlen : (Cond.isInt (.length (.arg 0))).before args s = true := hq _ (by decide +kernel)
  have hall : (Cond.all (.arg 0) (.isInt (.elem (.arg 0) (.index 0)))).before args s = true := hq _ (by decide +kernel)
  obtain ⟨b, xs, hb, hx⟩ := State.ints_of_pre rfl harr hlen hall
  have hsm : xs.length < 2 ^ 31 := hx.choose_spec.2.2.2
  have hev : (Term.length (.arg 0)).eval args s none [] s = some (.int xs.length.toInt32) := hx.length_eval hb
  have hv := Cond.le_ints hev (show (Term.int 260).eval args s none [] s = some (.int 260) from rfl)
  have hd : xs.length.toInt32 ≤ 260 := by
    simpa [Cond.before, Cond.holds, hv] using hle
  have hN : xs.length ≤ 260 := (Int32.ofNat_le_ofNat hsm (by decide)).mp (show Int32.ofNat xs.length ≤ Int32.ofNat 260 from hd)
  exact ⟨b, xs, Cond.one_arg hc (show args[0]? = some (.ref b) from hb), hx, hN, h⟩
theorem lw_comes (l : Launch) (hflags : l.flags = flags0) : Comes l x (Jvm.Cond.code x code maxLocals ret :: tables_1) room_1 (fun tb e args s => Calls_1 tb e args s ∧ rest_1 tb e args s ∧ Pre_1 tb e args s)
    (fun _ _ args s o t => lw_Q args s o t) := by
  intro p e ha hc hk s m args below hf hfit hheap happ hpre
  obtain ⟨b, xs, hP⟩ := lw_pre_spec hpre.2.2 hpre.2.1
  obtain ⟨k, o, h1, h2, h3, hQ⟩ := lw_walk l hflags b xs p e ha hc hk s m args below hf ((Spec.applies_iff_loose hf).mp happ).1 hP trivial
  exact ⟨k, o, h1, h2, h3, hQ⟩
theorem lw_frame {s t : State} {o : Outcome} {args : Array Value} (h : State.butDraws s t lw_cs (fun t1 => Framed s o t1 [] 881861 6455599)) :
    State.butDraws s t [Jvm.Choice.named "NaN.bits"] (fun t1 => Framed s o t1 (fieldLocs frame_1_writes args s ++ arrayLocs frame_1_arrays args s ++ staticLocs frame_1_statics s) 881861 6455599) := h
theorem lw_limb (L : Cond) (hL : ∀ (args : Array Value) (s t : State), L.after args s (.returned (some (.int 1))) t = true) :
    ArmFor flags0 classFile x code maxLocals ret World_1 tables_1 room_1 Calls_1 rest_1 Pre_1
      (fun tb e a s o t => postC L tb e a s o t ∧ State.butDraws s t [Jvm.Choice.named "NaN.bits"] (fun t1 => Framed s o t1 (fieldLocs frame_1_writes a s ++ arrayLocs frame_1_arrays a s ++ staticLocs frame_1_statics s) 881861 6455599)) := by
  intro l hflags _ _ p e ha hc hk s m args below hf hfit hheap happ hpre
  obtain ⟨k, o, h1, h2, h3, rfl, hF⟩ := lw_comes l hflags p e ha hc hk s m args below hf hfit hheap happ hpre
  exact ⟨k, _, h1, h2, h3, hL args s _, lw_frame hF⟩
theorem i_vc : Claimed_1_1 ∧ Claimed_1_2 := ⟨lw_limb limb_1_1 (fun args s t => by simp [limb_1_1, Cond.after, Cond.holds, Cond.value]), lw_limb limb_1_2 (fun args s t => Cond.after_iff.mpr (by
  first | (rw [show limb_1_2 = Cond.eq .result (.int 1) from rfl, Cond.eq_ints (x := 1) (y := 1) rfl rfl]; simp; done) | (simp [limb_1_2, Cond.value, Term.eval]; done)))⟩
