def k0 : KSt := (fun _ => 0, 0, (fun f _ => if f = 2 ∨ f = 7 then -1 else 0), (fun _ _ => 0), (fun _ _ => 0))
abbrev iwA (c5 : Nat → ClassId) (sS : Nat → Nat) (i : Nat) : va_E := .inl (c5 0, 12, .inr (.inr (.inr (.inr (fun j => if j < i then some (sS j) else none)))))
abbrev iwC (c5 : Nat → ClassId) : va_E := .inl (c5 1, 5, .inr (.inr (.inr (.inr (fun _ => none)))))
abbrev iwO (qa qc : Nat) : va_E := .inr (2, [.ref qa, .ref qc, .int 0, .int 0, .int 0, .int 0, .int 0])
/-- the world of the constructor's loop: i shelves have been made -/
def IW (c5 : Nat → ClassId) (h0 qa qc : Nat) (sS sB : Nat → Nat) (i : Nat) : va_W := [(h0, iwO qa qc), (qa, iwA c5 sS i), (qc, iwC c5)] ++ ((List.range i).map (fun j => (sS j, .inr (1, fX1 (nI (24 * j)) (sB j)))) ++ (List.range i).map (fun j => (sB j, rZ c5)))
theorem IW_step (c5 : Nat → ClassId) (h0 qa qc : Nat) (sS sB : Nat → Nat) (i q q2 : Nat) : ([(h0, iwO qa qc), (qa, (.inl (c5 0, 12, .inr (.inr (.inr (.inr (va_up (fun j => if j < i then some (sS j) else none) i (some q)))))) : va_E)), (qc, iwC c5)] ++ (((List.range i).map (fun j => (sS j, (.inr (1, fX1 (nI (24 * j)) (sB j)) : va_E))) ++ (List.range i).map (fun j => (sB j, rZ c5))) ++ [(q, .inr (1, fX1 (nI (24 * i)) q2)), (q2, rZ c5)])).Perm (IW c5 h0 qa qc (va_up sS i q) (va_up sB i q2) (i + 1)) := by
  unfold IW
  have e1 : (va_up (fun j => if j < i then some (sS j) else none) i (some q)) = (fun j => if j < i + 1 then some (va_up sS i q j) else none) := by
    funext j
    unfold va_up
    by_cases h : j = i
    · subst h; simp
    · have e : (j < i + 1) ↔ j < i := by omega
      simp [h, e]
  have e2 : (List.range (i + 1)).map (fun j => (va_up sS i q j, (.inr (1, fX1 (nI (24 * j)) (va_up sB i q2 j)) : va_E))) = (List.range i).map (fun j => (sS j, (.inr (1, fX1 (nI (24 * j)) (sB j)) : va_E))) ++ [(q, .inr (1, fX1 (nI (24 * i)) q2))] := by
    rw [List.range_succ, List.map_append]
    congr 1
    · apply List.map_congr_left
      intro j hj
      have : j ≠ i := by have := List.mem_range.mp hj; omega
      simp [va_up, this]
    · simp [va_up]
  have e3 : (List.range (i + 1)).map (fun j => (va_up sB i q2 j, rZ c5)) = (List.range i).map (fun j => (sB j, rZ c5)) ++ [(q2, rZ c5)] := by
    rw [List.range_succ, List.map_append]
    congr 1
    · apply List.map_congr_left
      intro j hj
      have : j ≠ i := by have := List.mem_range.mp hj; omega
      simp [va_up, this]
    · simp [va_up]
  rw [e1, e2, e3]
  refine List.Perm.append_left _ ?_
  rw [List.append_assoc, List.append_assoc]
  refine List.Perm.append_left _ ?_
  exact List.perm_middle
abbrev iAd (h0 qa qc : Nat) (sS sB : Nat → Nat) : KAd := ((fun n => match n with | 0 => h0 | 1 => qa | _ => qc), sS, sB, fun _ => 0)
theorem arr_congr {cA : ClassId} {n : Nat} {f g : Nat → Value} (h : ∀ j, j < n → f j = g j) : arrV cA n f = arrV cA n g := by
  unfold arrV
  congr 1
  exact congrArg Array.ofFn (funext fun j => h j.val j.isLt)
theorem IW_set (c5 : Nat → ClassId) (h0 qa qc : Nat) (sS sB : Nat → Nat) : KW c5 (iAd h0 qa qc sS sB) k0 = (IW c5 h0 qa qc sS sB 12).set 1 (qa, .inl (c5 0, 12, .inr (.inr (.inr (.inr (fun i => some (sS i))))))) := by
  unfold KW IW
  rfl
theorem IW_P {D : va_G} {H : Heap} {c5 : Nat → ClassId} {h0 qa qc : Nat} {sS sB : Nat → Nat} (h : va_P D vwCl (IW c5 h0 qa qc sS sB 12) H) : va_P D vwCl (KW c5 (iAd h0 qa qc sS sB) k0) H := by
  rw [IW_set]
  intro k q hk
  by_cases e : k = 1
  · subst e
    have h1 := h 1 _ rfl
    rw [List.getElem?_set_self (by simp [IW])] at hk
    obtain rfl := Option.some.inj hk
    have h1 : H[qa]? = some (vp_cell (c5 0) (12, .inr (.inr (.inr (.inr (fun j => if j < 12 then some (sS j) else none)))))) := h1
    show H[qa]? = some (vp_cell (c5 0) (12, .inr (.inr (.inr (.inr (fun i => some (sS i)))))))
    rw [h1]
    refine congrArg some ?_
    show arrV (c5 0) 12 (fun j => va_rf (if j < 12 then some (sS j) else none)) = arrV (c5 0) 12 (fun i => va_rf (some (sS i)))
    refine arr_congr (fun j hj => ?_)
    rw [if_pos hj]
  · rw [List.getElem?_set_ne (Ne.symm e)] at hk
    exact h k q hk
theorem IW_D {A : Nat → Prop} {c5 : Nat → ClassId} {h0 qa qc : Nat} {sS sB : Nat → Nat} (h : va_D A (IW c5 h0 qa qc sS sB 12)) : va_D A (KW c5 (iAd h0 qa qc sS sB) k0) := by
  rw [IW_set]
  exact h.set rfl
set_option maxHeartbeats 4000000 in
set_option maxRecDepth 100000 in
theorem c_X2_init (l : Launch) (D : va_G) (c5 : Nat → ClassId) (h0 : Nat) (sz : Nat) : Met l yX2_init (ws_ yX2_init cX2_init 2 none) { frames := 2, cells := 26, slots := 257, locals := 33 } (va_Pc [.ref h0] (fun U => U.heap.size = sz ∧ va_P D vwCl [(h0, .inr (2, [.null, .null, .int 0, .int 0, .int 0, .int 0, .int 0]))] U.heap ∧ va_K D vwCl (tyG c5) U ∧ va_D (fun _ => True) [(h0, .inr (2, [.null, .null, .int 0, .int 0, .int 0, .int 0, .int 0]))] ∧ va_AO RX1 U ∧ va_AO RX0 U)) (va_Qv (fun a : KAd => aO a 0 = h0) (rwE D (tyG c5) (va_A [(h0, .inr (2, [.null, .null, .int 0, .int 0, .int 0, .int 0, .int 0]))] sz) (fun a => KW c5 a k0)) (va_A [(h0, .inr (2, [.null, .null, .int 0, .int 0, .int 0, .int 0, .int 0]))] sz)) 26 257 (va_A [(h0, .inr (2, [.null, .null, .int 0, .int 0, .int 0, .int 0, .int 0]))] sz) := by
  refine Met.ofW (cc := cX2_init) (maxL := 2) (ret := none) (by decide) rfl ?_
  intro p e s m args below meth c s₁ B hml hv
  obtain ⟨rfl, hsz, hP, hK, hD0, hO1, hO0⟩ := hv
  have hx := B.exec
  have hb := B.bytes
  have hr := B.returns
  have hts : ∀ w ∈ LA, w.before _ s = true := fun w hw => atoms_spec (ws := ws_ yX2_init cX2_init 2 none) B.pre w (List.mem_cons_of_mem _ hw)
  have hown : s.vm.findClass RX2 = some m.cls := findClass_of_methodNamed B.named
  have hlocks := B.notSynchronized
  have hin : meth.name = "<init>" := (name_of_methodNamed B.named B.method).1
  subst hsz
  have hD := hD0.self (sz := s.heap.size)
  generalize hAe : va_A [(h0, .inr (2, [.null, .null, .int 0, .int 0, .int 0, .int 0, .int 0]))] s.heap.size = A at hD ⊢
  have hA : ∀ q : Nat, s.heap.size ≤ q → A q := fun q h => by rw [← hAe]; exact Or.inr h
  have hS : va_S A s.heap s.heap [] := va_S.rf
  have hl := lv_entry ([.ref h0] : List Value) (n := 2) (Nat.le_of_ble_eq_true rfl)
  rw [lg_entry_eq]
  generalize (lg_sl ([.ref h0] : List Value) ++ List.replicate (2 - (lg_sl ([.ref h0] : List Value)).length) Slot.unset).toArray = ls at hl ⊢
  have hl : lv_has ls 2 [(0, .ref h0)] := hl
  refine lv_aload_n hx hb dX2_init_0 rfl (lv_at hl 0 rfl) ?_
  refine W.objInit hx hb hown (hts _ wT1_16) (hts _ wT1_17) (hts _ wT1_18) rfl (by rw [hml]; exact hl.1) rfl dX2_init_1 (Nat.le_of_ble_eq_true rfl) (Nat.le_of_ble_eq_true rfl) ?_
  refine W.eq (g2 := F0 m 4 ls []) rfl ?_
  refine lv_aload_n hx hb dX2_init_4 rfl (lv_at hl 0 rfl) ?_
  refine lv_bipush (v := (12 : Int32)) hx hb dX2_init_5 (by decide) ?_
  refine va_newq (C := RX1) (N' := 12) hx hb hown (hts _ wT1_19) hO1 hK hP hD hS hA (by decide) (by decide) (by decide) (Nat.le_of_ble_eq_true rfl) (Nat.le_of_ble_eq_true rfl) dX2_init_7 (fun qa cA H hK9 hP hD hS => ?_)
  obtain rfl : cA = c5 0 := ca_eq (i := 6) (j := 0) hK9 rfl rfl
  refine va_putF (D := D) (ci := 2) (v := .ref qa) (ty := (.array (.object RX1))) (C := RX2) (T := TX2) (N := 7) hx hb hts iX2 tyX2 tyX2_ok nmX2 hown hK hP hD hS 0 rfl rfl 0 (by decide) (hts _ wT1_60) (fun _ h9 => h9) rfl hin rfl (by decide +kernel) rfl rfl (Nat.le_of_ble_eq_true rfl) dX2_init_10 (fun H locs hP hD hS => ?_)
  refine lv_aload_n hx hb dX2_init_13 rfl (lv_at hl 0 rfl) ?_
  refine lv_iconst (v := (5 : Int32)) hx hb dX2_init_14 (by decide) ?_
  refine va_newq (C := RX0) (N' := 5) hx hb hown (hts _ wT1_21) hO0 hK hP hD hS hA (by decide) (by decide) (by decide) (Nat.le_of_ble_eq_true rfl) (Nat.le_of_ble_eq_true rfl) dX2_init_15 (fun qc cA H hK9 hP hD hS => ?_)
  obtain rfl : cA = c5 1 := ca_eq (i := 6) (j := 1) hK9 rfl rfl
  refine va_putF (D := D) (ci := 2) (v := .ref qc) (ty := (.array (.object RX0))) (C := RX2) (T := TX2) (N := 7) hx hb hts iX2 tyX2 tyX2_ok nmX2 hown hK hP hD hS 0 rfl rfl 1 (by decide) (hts _ wT1_61) (fun _ h9 => h9) rfl hin rfl (by decide +kernel) rfl rfl (Nat.le_of_ble_eq_true rfl) dX2_init_18 (fun H locs hP hD hS => ?_)
  refine lv_aload_n hx hb dX2_init_21 rfl (lv_at hl 0 rfl) ?_
  refine lv_iconst (v := (0 : Int32)) hx hb dX2_init_22 (by decide) ?_
  refine va_put (D := D) (ci := 2) (v := .int (0 : Int32)) (ty := .int) (C := RX2) (T := TX2) (N := 7) hx hb hts iX2 tyX2 tyX2_ok nmX2 hown hK hP hD hS 0 rfl rfl 2 (by decide) (hts _ wT1_62) (fun _ h9 => h9) rfl (by decide +kernel) rfl rfl (Nat.le_of_ble_eq_true rfl) dX2_init_23 (fun H locs hP hD hS => ?_)
  refine lv_aload_n hx hb dX2_init_26 rfl (lv_at hl 0 rfl) ?_
  refine lv_iconst (v := (0 : Int32)) hx hb dX2_init_27 (by decide) ?_
  refine va_put (D := D) (ci := 2) (v := .int (0 : Int32)) (ty := .int) (C := RX2) (T := TX2) (N := 7) hx hb hts iX2 tyX2 tyX2_ok nmX2 hown hK hP hD hS 0 rfl rfl 3 (by decide) (hts _ wT1_63) (fun _ h9 => h9) rfl (by decide +kernel) rfl rfl (Nat.le_of_ble_eq_true rfl) dX2_init_28 (fun H locs hP hD hS => ?_)
  refine lv_aload_n hx hb dX2_init_31 rfl (lv_at hl 0 rfl) ?_
  refine lv_iconst (v := (0 : Int32)) hx hb dX2_init_32 (by decide) ?_
  refine va_put (D := D) (ci := 2) (v := .int (0 : Int32)) (ty := .int) (C := RX2) (T := TX2) (N := 7) hx hb hts iX2 tyX2 tyX2_ok nmX2 hown hK hP hD hS 0 rfl rfl 4 (by decide) (hts _ wT1_64) (fun _ h9 => h9) rfl (by decide +kernel) rfl rfl (Nat.le_of_ble_eq_true rfl) dX2_init_33 (fun H locs hP hD hS => ?_)
  refine lv_aload_n hx hb dX2_init_36 rfl (lv_at hl 0 rfl) ?_
  refine lv_iconst (v := (0 : Int32)) hx hb dX2_init_37 (by decide) ?_
  refine va_put (D := D) (ci := 2) (v := .int (0 : Int32)) (ty := .int) (C := RX2) (T := TX2) (N := 7) hx hb hts iX2 tyX2 tyX2_ok nmX2 hown hK hP hD hS 0 rfl rfl 5 (by decide) (hts _ wT1_65) (fun _ h9 => h9) rfl (by decide +kernel) rfl rfl (Nat.le_of_ble_eq_true rfl) dX2_init_38 (fun H locs hP hD hS => ?_)
  refine lv_aload_n hx hb dX2_init_41 rfl (lv_at hl 0 rfl) ?_
  refine lv_iconst (v := (0 : Int32)) hx hb dX2_init_42 (by decide) ?_
  refine va_put (D := D) (ci := 2) (v := .int (0 : Int32)) (ty := .int) (C := RX2) (T := TX2) (N := 7) hx hb hts iX2 tyX2 tyX2_ok nmX2 hown hK hP hD hS 0 rfl rfl 6 (by decide) (hts _ wT1_66) (fun _ h9 => h9) rfl (by decide +kernel) rfl rfl (Nat.le_of_ble_eq_true rfl) dX2_init_43 (fun H locs hP hD hS => ?_)
  refine lv_iconst (v := (0 : Int32)) hx hb dX2_init_46 (by decide) ?_
  refine lv_istore_n (i := 1) (lv' := [(1, .int (0 : Int32)), (0, .ref h0)]) hx hb dX2_init_47 rfl hl (by decide) rfl (fun ls hl => ?_)
  have hP : va_P D vwCl (IW c5 h0 qa qc (fun _ => 0) (fun _ => 0) 0) H := hP
  have hD : va_D A (IW c5 h0 qa qc (fun _ => 0) (fun _ => 0) 0) := hD
  suffices LP : ∀ (d i cells slots : Nat) (sS sB : Nat → Nat) (H : Heap) (locs : List Loc) (ls : Array Slot), i + d = 12 → cells = 2 + 2 * i → slots = 17 + 20 * i → lv_has ls 2 [(0, .ref h0), (1, .int (nI i))] → va_P D vwCl (IW c5 h0 qa qc sS sB i) H → va_D A (IW c5 h0 qa qc sS sB i) → va_S A s.heap H locs → W p l e (headSpec (ws_ yX2_init cX2_init 2 none) { frames := 2, cells := 26, slots := 257, locals := 33 }).room s m ([.ref h0] : List Value).toArray below meth c H locs cells slots (MQ below (va_Qv (fun a : KAd => aO a 0 = h0) (rwE D (tyG c5) A (fun a => KW c5 a k0)) A) ([.ref h0] : List Value).toArray s 26 257 A) (F0 m 48 ls []) from LP 12 0 _ _ _ _ _ _ ls rfl rfl rfl (lv_sub hl [1, 0] rfl) hP hD hS
  intro d
  induction d with
  | zero =>
    intro i cells slots sS sB H locs ls hi hc1 hc2 hl hP hD hS
    obtain rfl : i = 12 := by omega
    subst hc1
    subst hc2
    refine lv_iload_n hx hb dX2_init_48 rfl (lv_at hl 1 rfl) ?_
    refine lv_aload_n hx hb dX2_init_49 rfl (lv_at hl 0 rfl) ?_
    refine va_get (D := D) (ci := 2) (v := .ref qa) (C := RX2) (T := TX2) (N := 7) hx hb hts iX2 hown hK hP 0 rfl rfl 0 (by decide) (hts _ wT1_60) (fun _ h9 => h9) rfl dX2_init_50 ?_
    refine va_alen (v := (12 : Int32)) hx hb hK hP 1 0 (ty := .object RX1) rfl rfl rfl dX2_init_53 ?_
    refine lv_icmp_ge (tgt := 80) hx hb dX2_init_54 (by decide) (fun _ => ?_) (fun q => absurd (by decide) q)
    exact W.vret hx hb hr (fun t ht hW => ⟨⟨iAd h0 qa qc sS sB, rfl, rfl, by rw [ht]; exact IW_P hP, va_K.moved hW.alike hK, IW_D hD⟩, hS.F ht⟩) hS.2.2 dX2_init_80 hlocks
  | succ d ih =>
    intro i cells slots sS sB H locs ls hi hc1 hc2 hl hP hD hS
    have hi12 : i < 12 := by omega
    refine lv_iload_n hx hb dX2_init_48 rfl (lv_at hl 1 rfl) ?_
    refine lv_aload_n hx hb dX2_init_49 rfl (lv_at hl 0 rfl) ?_
    refine va_get (D := D) (ci := 2) (v := .ref qa) (C := RX2) (T := TX2) (N := 7) hx hb hts iX2 hown hK hP 0 rfl rfl 0 (by decide) (hts _ wT1_60) (fun _ h9 => h9) rfl dX2_init_50 ?_
    refine va_alen (v := (12 : Int32)) hx hb hK hP 1 0 (ty := .object RX1) rfl rfl rfl dX2_init_53 ?_
    refine lv_icmp_ge (tgt := 80) hx hb dX2_init_54 (by decide) (fun q => absurd q (nI_nge hi12)) (fun _ => ?_)
    refine lv_aload_n hx hb dX2_init_57 rfl (lv_at hl 0 rfl) ?_
    refine va_get (D := D) (ci := 2) (v := .ref qa) (C := RX2) (T := TX2) (N := 7) hx hb hts iX2 hown hK hP 0 rfl rfl 0 (by decide) (hts _ wT1_60) (fun _ h9 => h9) rfl dX2_init_58 ?_
    refine lv_iload_n hx hb dX2_init_61 rfl (lv_at hl 1 rfl) ?_
    refine va_new (fs := [.int 0, .null, .int 0, .int 0, .int 0, .int 0, .int 0, .int 0]) (ci := 1) hx hb hts iX1 tyX1 tyX1_ok hown (hts _ wT1_19) (hts _ wT1_23) (hts _ wT1_2) hK hP hD hS hA rfl (by intro j hj; match j, hj with | 0, _ => rfl | 1, _ => rfl | 2, _ => rfl | 3, _ => rfl | 4, _ => rfl | 5, _ => rfl | 6, _ => rfl | 7, _ => rfl) (show cells + 1 ≤ 26 by omega) (show slots + 8 ≤ 257 by omega) dX2_init_62 (fun q H hP hD hS => ?_)
    refine lv_dup hx hb dX2_init_65 rfl ?_
    refine lv_iload_n hx hb dX2_init_66 rfl (lv_at hl 1 rfl) ?_
    refine lv_bipush (v := (24 : Int32)) hx hb dX2_init_67 (by decide) ?_
    refine lv_imul hx hb dX2_init_69 ?_
    rw [show nI i * 24 = nI (24 * i) from by rw [show (24 : Int32) = nI 24 from rfl, pk_mul, Nat.mul_comm]]
    refine fr_callv (wc := [(q, .inr (1, [.int 0, .null, .int 0, .int 0, .int 0, .int 0, .int 0, .int 0]))]) (X := IW c5 h0 qa qc sS sB i) (Y := []) (rw_runI (As := [.int (nI (24 * i))]) (rest := [.ref q, .int (nI i), .ref qa]) ⟨hx, hb, hml, hown, hts⟩ (fr_P (X := IW c5 h0 qa qc sS sB i) (Y := []) hP) hK (fr_D (X := IW c5 h0 qa qc sS sB i) (Y := []) hD) (c_X1_init l D c5 q (nI (24 * i)) H.size) wT1_26 wT1_2 wT1_24 wT1_25 rfl ha_X1i ⟨Nat.le_of_ble_eq_true rfl, Nat.le_of_ble_eq_true rfl⟩ ⟨rfl, rfl⟩ hl.1 (Nat.le_of_ble_eq_true rfl) dX2_init_70 ⟨show cells + 1 + 1 ≤ 26 by omega, show slots + 8 + 12 ≤ 257 by omega⟩ rfl) hP hD hS hA (fun q2 H locs _ hP hD hS => ?_)
    have hq : (IW c5 h0 qa qc sS sB i ++ ([(q, (.inr (1, fX1 (nI (24 * i)) q2) : va_E)), (q2, rZ c5)] ++ []))[(IW c5 h0 qa qc sS sB i).length]? = some (q, .inr (1, fX1 (nI (24 * i)) q2)) := by
      rw [List.getElem?_append_right (Nat.le_refl _), Nat.sub_self]; rfl
    refine va_astq hx hb hK hP hD hS 1 0 _ 1 (r := (RX1, TX1, 8)) rfl rfl hq rfl (inb_in (nI_inb hi12)) dX2_init_73 (fun H locs hP hD hS => ?_)
    rw [nI_cl hi12] at hP hD
    have hP := va_P.perm (IW_step c5 h0 qa qc sS sB i q q2) hP
    have hD := va_D.perm (IW_step c5 h0 qa qc sS sB i q q2) hD
    refine lv_iinc (v := nI (i + 1)) (lv' := [(1, .int (nI (i + 1))), (0, .ref h0)]) hx hb dX2_init_74 hl (k := 1) rfl (nI_s i) (by decide) rfl (fun ls hl => ?_)
    refine lv_goto (tgt := 48) hx hb dX2_init_77 (by decide) ?_
    exact ih (i + 1) _ _ _ _ H locs ls (by omega) (by omega) (by omega) (lv_sub hl [1, 0] rfl) hP hD hS
