/-- the kinds with one more -/
def mkK (k : KSt) (z : Int32) : KSt := (k.1, kN k + 1, k.2.2.1, k.2.2.2.1, fun f j => if j = kN k then (if f = 1 then z else if f = 2 then 24 / z else if f = 3 then 24 - 24 / z * z else 0) else kK k f j)
def R_X2_kind (k : KSt) (z : Int32) : Option (Except String (Int32 × KSt)) := if z < 2 then some (.error exIA) else if z ≤ 12 then (if kG k 0 < 5 then (if kG k 0 = nI (kN k) ∧ kN k < 5 then some (.ok (kG k 0, kGs (mkK k z) 0 (kG k 0 + 1))) else none) else some (.error exIS)) else some (.error exIA)
def aUp (a : KAd) (n q : Nat) : KAd := (a.1, a.2.1, a.2.2.1, va_up a.2.2.2 n q)
theorem KW_mk (c5 : Nat → ClassId) (a : KAd) (k : KSt) (z : Int32) (q : Nat) : ((KW c5 a k ++ [(q, (.inr (0, fX0 (nI (kN k)) z) : va_E))]).set 2 (aO a 2, .inl (c5 1, 5, .inr (.inr (.inr (.inr (va_up (fun j => (knd k j).map (aK a)) (kN k) (some q)))))))) = KW c5 (aUp a (kN k) q) (mkK k z) := by
  have e1 : va_up (fun j => (knd k j).map (aK a)) (kN k) (some q) = (fun j => (knd (mkK k z) j).map (aK (aUp a (kN k) q))) := by
    funext j
    unfold va_up knd
    show _ = Option.map _ (if j < kN k + 1 then some j else none)
    by_cases h : j = kN k
    · subst h; simp [aUp, aK, va_up]
    · have e : (j < kN k + 1) ↔ j < kN k := by omega
      simp only [h, if_false, e]
      by_cases h2 : j < kN k
      · simp [h2, aUp, aK, va_up, h]
      · simp [h2]
  have e2 : (List.range (kN k + 1)).map (ceK (aUp a (kN k) q) (mkK k z)) = (List.range (kN k)).map (ceK a k) ++ [(q, (.inr (0, fX0 (nI (kN k)) z) : va_E))] := by
    rw [List.range_succ, List.map_append]
    congr 1
    · apply List.map_congr_left
      intro j hj
      have : j ≠ kN k := by have := List.mem_range.mp hj; omega
      simp [ceK, aUp, aK, va_up, this, flK, mkK, kK]
    · simp [ceK, aUp, aK, va_up, flK, mkK, kK]
  rw [e1]
  show _ = [ceO (aUp a (kN k) q) (mkK k z), ceA c5 (aUp a (kN k) q), ceC c5 (aUp a (kN k) q) (mkK k z)] ++ ((List.range 12).map (ceS (aUp a (kN k) q) (mkK k z)) ++ ((List.range 12).map (ceB c5 (aUp a (kN k) q) (mkK k z)) ++ (List.range (kN k + 1)).map (ceK (aUp a (kN k) q) (mkK k z))))
  rw [e2]
  unfold KW
  simp only [List.append_assoc]
  rfl
set_option maxHeartbeats 4000000 in
set_option maxRecDepth 100000 in
theorem c_X2_kind (l : Launch) (D : va_G) (c5 : Nat → ClassId) (a : KAd) (k : KSt) (sz : Nat) (z : Int32) (r : Int32 × KSt) (h : R_X2_kind k z = some (.ok r)) : Met l yX2_kind (ws_ yX2_kind cX2_kind 3 (some .int)) { frames := 2, cells := 1, slots := 6, locals := 34 } (va_Pc [.ref (aO a 0), .int z] (rwB D (tyG c5) (KW c5 a k) sz)) (va_Qi (fun x (u : KAd × KSt) => x = r.1 ∧ u.2 = r.2 ∧ u.1.1 = a.1) (rwE D (tyG c5) (va_A (KW c5 a k) sz) (fun u => KW c5 u.1 u.2)) (va_A (KW c5 a k) sz)) 1 6 (va_A (KW c5 a k) sz) := by
  refine Met.ofW (cc := cX2_kind) (maxL := 3) (ret := (some .int)) (by decide) rfl ?_
  intro p e s m args below meth c s₁ B hml hv
  obtain ⟨rfl, hsz, hP, hK, hD0⟩ := hv
  have hx := B.exec
  have hb := B.bytes
  have hr := B.returns
  have hts : ∀ w ∈ LA, w.before _ s = true := fun w hw => atoms_spec (ws := ws_ yX2_kind cX2_kind 3 (some .int)) B.pre w (List.mem_cons_of_mem _ hw)
  have hown : s.vm.findClass RX2 = some m.cls := findClass_of_methodNamed B.named
  have hlocks := B.notSynchronized
  subst hsz
  have hD := hD0.self (sz := s.heap.size)
  generalize hAe : va_A (KW c5 a k) s.heap.size = A at hD ⊢
  have hA : ∀ q : Nat, s.heap.size ≤ q → A q := fun q h => by rw [← hAe]; exact Or.inr h
  have hS : va_S A s.heap s.heap [] := va_S.rf
  have hl := lv_entry ([.ref (aO a 0), .int z] : List Value) (n := 3) (Nat.le_of_ble_eq_true rfl)
  rw [lg_entry_eq]
  generalize (lg_sl ([.ref (aO a 0), .int z] : List Value) ++ List.replicate (3 - (lg_sl ([.ref (aO a 0), .int z] : List Value)).length) Slot.unset).toArray = ls at hl ⊢
  have hl : lv_has ls 3 [(0, .ref (aO a 0)), (1, .int z)] := hl
  unfold R_X2_kind at h
  refine lv_iload_n hx hb dX2_kind_0 rfl (lv_at hl 1 rfl) ?_
  refine lv_iconst (v := (2 : Int32)) hx hb dX2_kind_1 (by decide) ?_
  refine lv_icmp_lt (tgt := 11) hx hb dX2_kind_2 (by decide) (fun q => ?_) (fun q2 => ?_)
  · have h := o_t h q
    cases h
  have h := o_f h q2
  refine lv_iload_n hx hb dX2_kind_5 rfl (lv_at hl 1 rfl) ?_
  refine lv_bipush (v := (12 : Int32)) hx hb dX2_kind_6 (by decide) ?_
  refine lv_icmp_le (tgt := 21) hx hb dX2_kind_8 (by decide) (fun q => ?_) (fun q => ?_)
  rotate_left
  · have h := o_f h q
    cases h
  have h := o_t h q
  refine lv_aload_n hx hb dX2_kind_21 rfl (lv_at hl 0 rfl) ?_
  refine va_get (D := D) (ci := 2) (v := .int (kG k 0)) (C := RX2) (T := TX2) (N := 7) hx hb hts iX2 hown hK hP 0 (KW_0 c5 a k) rfl 2 (by decide) (hts _ wT1_62) (fun _ h9 => h9) rfl dX2_kind_22 ?_
  refine lv_istore_n (i := 2) (lv' := [(2, .int (kG k 0)), (0, .ref (aO a 0)), (1, .int z)]) hx hb dX2_kind_25 rfl hl (by decide) rfl (fun ls hl => ?_)
  refine lv_iload_n hx hb dX2_kind_26 rfl (lv_at hl 0 rfl) ?_
  refine lv_aload_n hx hb dX2_kind_27 rfl (lv_at hl 1 rfl) ?_
  refine va_get (D := D) (ci := 2) (v := .ref (aO a 2)) (C := RX2) (T := TX2) (N := 7) hx hb hts iX2 hown hK hP 0 (KW_0 c5 a k) rfl 1 (by decide) (hts _ wT1_61) (fun _ h9 => h9) rfl dX2_kind_28 ?_
  refine va_alen (v := (5 : Int32)) hx hb hK hP 2 1 (ty := .object RX0) (KW_2 c5 a k) rfl rfl dX2_kind_31 ?_
  refine lv_icmp_lt (tgt := 45) hx hb dX2_kind_32 (by decide) (fun q5 => ?_) (fun q5 => ?_)
  rotate_left
  · have h := o_f h q5
    cases h
  have h := o_t h q5
  obtain ⟨⟨hk0, hk5⟩, h⟩ := o_if h
  obtain rfl := Except.ok.inj (Option.some.inj h)
  refine lv_aload_n hx hb dX2_kind_45 rfl (lv_at hl 1 rfl) ?_
  refine va_get (D := D) (ci := 2) (v := .ref (aO a 2)) (C := RX2) (T := TX2) (N := 7) hx hb hts iX2 hown hK hP 0 (KW_0 c5 a k) rfl 1 (by decide) (hts _ wT1_61) (fun _ h9 => h9) rfl dX2_kind_46 ?_
  refine lv_iload_n hx hb dX2_kind_49 rfl (lv_at hl 0 rfl) ?_
  refine va_new (fs := [.int 0, .int 0, .int 0, .int 0, .int 0, .int 0]) (ci := 0) hx hb hts iX0 tyX0 tyX0_ok hown (hts _ wT1_21) (hts _ wT3_45) (hts _ wT1_9) hK hP hD hS hA rfl (by intro j hj; match j, hj with | 0, _ => rfl | 1, _ => rfl | 2, _ => rfl | 3, _ => rfl | 4, _ => rfl | 5, _ => rfl) (Nat.le_of_ble_eq_true rfl) (Nat.le_of_ble_eq_true rfl) dX2_kind_50 (fun qn H hP hD hS => ?_)
  refine lv_dup hx hb dX2_kind_53 rfl ?_
  refine lv_iload_n hx hb dX2_kind_54 rfl (lv_at hl 0 rfl) ?_
  refine lv_iload_n hx hb dX2_kind_55 rfl (lv_at hl 2 rfl) ?_
  refine fr_callv (wc := [(qn, .inr (0, [.int 0, .int 0, .int 0, .int 0, .int 0, .int 0]))]) (X := KW c5 a k) (Y := []) (rw_runI (As := [.int (kG k 0), .int z]) (rest := [.ref qn, .int (kG k 0), .ref (aO a 2)]) ⟨hx, hb, hml, hown, hts⟩ (fr_P (X := KW c5 a k) (Y := []) hP) hK (fr_D (X := KW c5 a k) (Y := []) hD) (c_X0_init l D (tyG c5) qn (kG k 0) z (z1 q2) (z0 q2) H.size) wT3_48 wT1_9 wT3_46 wT3_47 rfl ha_X0i ⟨Nat.le_of_ble_eq_true rfl, Nat.le_of_ble_eq_true rfl⟩ ⟨rfl, rfl⟩ hl.1 (Nat.le_of_ble_eq_true rfl) dX2_kind_56 ⟨Nat.le_of_ble_eq_true rfl, Nat.le_of_ble_eq_true rfl⟩ rfl) hP hD hS hA (fun _ H locs _ hP hD hS => ?_)
  have hq : (KW c5 a k ++ ([(qn, (.inr (0, fX0 (kG k 0) z) : va_E))] ++ []))[(KW c5 a k).length]? = some (qn, .inr (0, fX0 (kG k 0) z)) := by
    rw [List.getElem?_append_right (Nat.le_refl _), Nat.sub_self]; rfl
  refine va_astq hx hb hK hP hD hS 2 1 _ 0 (r := (RX0, TX0, 6)) (n := 5) (f := fun j => (knd k j).map (aK a)) rfl rfl hq rfl (inb_in (nI_inb5 hk0 hk5)) dX2_kind_59 (fun H locs hP hD hS => ?_)
  have hcl : (kG k 0).toNatClampNeg = kN k := by rw [hk0]; exact nI_clamp (by omega)
  rw [hcl] at hP hD
  have hP := wP (ws' := KW c5 (aUp a (kN k) qn) (mkK k z)) (by rw [hk0]; exact KW_mk c5 a k z qn) hP
  have hD := wD (ws' := KW c5 (aUp a (kN k) qn) (mkK k z)) (by rw [hk0]; exact KW_mk c5 a k z qn) hD
  refine lv_aload_n hx hb dX2_kind_60 rfl (lv_at hl 1 rfl) ?_
  refine lv_dup hx hb dX2_kind_61 rfl ?_
  refine va_get (D := D) (ci := 2) (v := .int (kG k 0)) (C := RX2) (T := TX2) (N := 7) hx hb hts iX2 hown hK hP 0 (KW_0 c5 (aUp a (kN k) qn) (mkK k z)) rfl 2 (by decide) (hts _ wT1_62) (fun _ h9 => h9) rfl dX2_kind_62 ?_
  refine lv_iconst (v := (1 : Int32)) hx hb dX2_kind_65 (by decide) ?_
  refine lv_iadd hx hb dX2_kind_66 ?_
  refine va_put (D := D) (ci := 2) (v := .int (kG k 0 + 1)) (ty := .int) (C := RX2) (T := TX2) (N := 7) hx hb hts iX2 tyX2 tyX2_ok nmX2 hown hK hP hD hS 0 (KW_0 c5 (aUp a (kN k) qn) (mkK k z)) rfl 2 (by decide) (hts _ wT1_62) (fun _ h9 => h9) rfl (by decide +kernel) rfl rfl (Nat.le_of_ble_eq_true rfl) dX2_kind_67 (fun H locs hP hD hS => ?_)
  have hP := wP (KW_set0 c5 (aUp a (kN k) qn) (mkK k z) 0 (by decide) _) hP
  have hD := wD (KW_set0 c5 (aUp a (kN k) qn) (mkK k z) 0 (by decide) _) hD
  refine lv_iload_n hx hb dX2_kind_70 rfl (lv_at hl 0 rfl) ?_
  exact W.iret hx hb hr (fun t ht hW => ⟨⟨_, (aUp a (kN k) qn, _), rfl, ⟨rfl, rfl, rfl⟩, by rw [ht]; exact hP, va_K.moved hW.alike hK, hD⟩, hS.F ht⟩) hS.2.2 dX2_kind_71 hlocks
set_option maxHeartbeats 4000000 in
set_option maxRecDepth 100000 in
theorem x_X2_kind (l : Launch) (D : va_G) (c5 : Nat → ClassId) (a : KAd) (k : KSt) (sx : Nat → Nat) (hflags : l.flags = flags0) (z : Int32) (E : String) (h : R_X2_kind k z = some (.error E)) : vx_Met l yX2_kind (ws_ yX2_kind cX2_kind 3 (some .int)) { frames := 6, cells := 1, slots := 6, locals := 90 } (va_Pc [.ref (aO a 0), .int z] (erB D (tyG c5) (KW c5 a k) sx)) ErrQ (ErrX E) 1 6 (fun _ => False) := by
  refine vx_ofW (cc := cX2_kind) (maxL := 3) (ret := (some .int)) (by decide) rfl ?_
  intro p e s m args below meth c s₁ B hml ht hv
  obtain ⟨rfl, hP, hK, hX⟩ := hv
  have hx := B.exec
  have hb := B.bytes
  have hr := B.returns
  have hts : ∀ w ∈ LA, w.before _ s = true := fun w hw => atoms_spec (ws := ws_ yX2_kind cX2_kind 3 (some .int)) B.pre w (List.mem_cons_of_mem _ hw)
  have hown : s.vm.findClass RX2 = some m.cls := findClass_of_methodNamed B.named
  have hlocks := B.notSynchronized
  have hs : va_S (fun _ => False) s.heap s.heap [] := va_S.rf
  have hl := lv_entry ([.ref (aO a 0), .int z] : List Value) (n := 3) (Nat.le_of_ble_eq_true rfl)
  rw [lg_entry_eq]
  generalize (lg_sl ([.ref (aO a 0), .int z] : List Value) ++ List.replicate (3 - (lg_sl ([.ref (aO a 0), .int z] : List Value)).length) Slot.unset).toArray = ls at hl ⊢
  have hl : lv_has ls 3 [(0, .ref (aO a 0)), (1, .int z)] := hl
  unfold R_X2_kind at h
  refine lv_iload_n hx hb dX2_kind_0 rfl (lv_at hl 1 rfl) ?_
  refine lv_iconst (v := (2 : Int32)) hx hb dX2_kind_1 (by decide) ?_
  refine lv_icmp_lt (tgt := 11) hx hb dX2_kind_2 (by decide) (fun q => ?_) (fun q => ?_)
  · have h := o_t h q
    obtain rfl := Except.error.inj (Option.some.inj h)
    exact err_throw (own := RX2) hx hb hflags hown hX (hts _ wT2_4) (hts _ wT1_7) (st_42 hX) (at_44 hts hX) gd_44 hs (hl.1.trans hml.symm) dX2_kind_11 dX2_kind_14 dX2_kind_15 dX2_kind_17 dX2_kind_20 ht hlocks (Nat.le_of_ble_eq_true rfl) (Nat.le_of_ble_eq_true rfl) ⟨Nat.le_of_ble_eq_true rfl, Nat.le_of_ble_eq_true rfl⟩ (by decide +kernel)
  have h := o_f h q
  refine lv_iload_n hx hb dX2_kind_5 rfl (lv_at hl 1 rfl) ?_
  refine lv_bipush (v := (12 : Int32)) hx hb dX2_kind_6 (by decide) ?_
  refine lv_icmp_le (tgt := 21) hx hb dX2_kind_8 (by decide) (fun q => ?_) (fun q => ?_)
  rotate_left
  · have h := o_f h q
    obtain rfl := Except.error.inj (Option.some.inj h)
    exact err_throw (own := RX2) hx hb hflags hown hX (hts _ wT2_4) (hts _ wT1_7) (st_42 hX) (at_44 hts hX) gd_44 hs (hl.1.trans hml.symm) dX2_kind_11 dX2_kind_14 dX2_kind_15 dX2_kind_17 dX2_kind_20 ht hlocks (Nat.le_of_ble_eq_true rfl) (Nat.le_of_ble_eq_true rfl) ⟨Nat.le_of_ble_eq_true rfl, Nat.le_of_ble_eq_true rfl⟩ (by decide +kernel)
  have h := o_t h q
  refine lv_aload_n hx hb dX2_kind_21 rfl (lv_at hl 0 rfl) ?_
  refine va_get (D := D) (ci := 2) (v := .int (kG k 0)) (C := RX2) (T := TX2) (N := 7) hx hb hts iX2 hown hK hP 0 (KW_0 c5 a k) rfl 2 (by decide) (hts _ wT1_62) (fun _ h9 => h9) rfl dX2_kind_22 ?_
  refine lv_istore_n (i := 2) (lv' := [(2, .int (kG k 0)), (0, .ref (aO a 0)), (1, .int z)]) hx hb dX2_kind_25 rfl hl (by decide) rfl (fun ls hl => ?_)
  refine lv_iload_n hx hb dX2_kind_26 rfl (lv_at hl 0 rfl) ?_
  refine lv_aload_n hx hb dX2_kind_27 rfl (lv_at hl 1 rfl) ?_
  refine va_get (D := D) (ci := 2) (v := .ref (aO a 2)) (C := RX2) (T := TX2) (N := 7) hx hb hts iX2 hown hK hP 0 (KW_0 c5 a k) rfl 1 (by decide) (hts _ wT1_61) (fun _ h9 => h9) rfl dX2_kind_28 ?_
  refine va_alen (v := (5 : Int32)) hx hb hK hP 2 1 (ty := .object RX0) (KW_2 c5 a k) rfl rfl dX2_kind_31 ?_
  refine lv_icmp_lt (tgt := 45) hx hb dX2_kind_32 (by decide) (fun q5 => ?_) (fun q5 => ?_)
  · have h := o_t h q5
    obtain ⟨-, h⟩ := o_if h
    cases h
  have h := o_f h q5
  obtain rfl := Except.error.inj (Option.some.inj h)
  exact err_throw (own := RX2) hx hb hflags hown hX (hts _ wT1_190) (hts _ wT1_8) (st_49 hX) (at_51 hts hX) gd_51 hs (hl.1.trans hml.symm) dX2_kind_35 dX2_kind_38 dX2_kind_39 dX2_kind_41 dX2_kind_44 ht hlocks (Nat.le_of_ble_eq_true rfl) (Nat.le_of_ble_eq_true rfl) ⟨Nat.le_of_ble_eq_true rfl, Nat.le_of_ble_eq_true rfl⟩ (by decide +kernel)
