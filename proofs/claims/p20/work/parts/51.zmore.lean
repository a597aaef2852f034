/-- the kinds so far, then the new one -/
def mf (v : BV) (i : Nat) : Nat → Option Nat := fun j => if j < i then some (bK v j) else none
theorem mf_up (v : BV) (i : Nat) : va_up (mf v i) i (some (bK v i)) = mf v (i + 1) := by
  funext j
  unfold va_up mf
  by_cases h : j = i
  · subst h; simp
  · have e : (j < i + 1) ↔ j < i := by omega
    simp [h, e]
theorem mf_q (v : BV) (N q j : Nat) (hj : j < N + 1) : va_up (mf v N) N (some q) j = some (if j < N then bK v j else q) := by
  unfold va_up mf
  by_cases h9 : j = N
  · subst h9; simp
  · have h8 : j < N := by omega
    simp [h9, h8]
set_option maxHeartbeats 4000000 in
set_option maxRecDepth 100000 in
theorem c_X3_more (l : Launch) (D : va_G) (c5 : Nat → ClassId) (bo : Nat → Nat) (v : BV) (z : SSt) (q : Nat) (g : Nat → Int32) (hN : zN z < 5) (sz : Nat) : Met l yX3_more (ws_ yX3_more cX3_more 4 (some (.array (.array .int)))) { frames := 0, cells := 1, slots := 6, locals := 0 } (va_Pc [.ref (bo 1), .ref q] (swB D c5 (SW c5 bo v z ++ [(q, (.inl (c5 3, 2, .inl g) : va_E))]) sz)) (va_Qr (fun _ : Unit => True) (fun _ qm t => va_P D vwCl ((SW c5 bo v z ++ [(q, (.inl (c5 3, 2, .inl g) : va_E))]) ++ [(qm, (.inl (c5 4, zN z + 1, rfs (fun j => some (if j < zN z then bK v j else q)))))]) t.heap ∧ va_K D vwCl (tyG c5) t ∧ va_D (va_A (SW c5 bo v z ++ [(q, (.inl (c5 3, 2, .inl g) : va_E))]) sz) ((SW c5 bo v z ++ [(q, (.inl (c5 3, 2, .inl g) : va_E))]) ++ [(qm, (.inl (c5 4, zN z + 1, rfs (fun j => some (if j < zN z then bK v j else q)))))])) (va_A (SW c5 bo v z ++ [(q, (.inl (c5 3, 2, .inl g) : va_E))]) sz)) 1 6 (va_A (SW c5 bo v z ++ [(q, (.inl (c5 3, 2, .inl g) : va_E))]) sz) := by
  refine Met.ofW (cc := cX3_more) (maxL := 4) (ret := (some (.array (.array .int)))) (by decide) rfl ?_
  intro p e s m args below meth c s₁ B hml hv
  obtain ⟨rfl, hsz, hP, hK, hD0, hOI, hOZ⟩ := hv
  have hx := B.exec
  have hb := B.bytes
  have hr := B.returns
  have hts : ∀ w ∈ LA, w.before _ s = true := fun w hw => atoms_spec (ws := ws_ yX3_more cX3_more 4 (some (.array (.array .int)))) B.pre w (List.mem_cons_of_mem _ hw)
  have hown : s.vm.findClass RX3 = some m.cls := findClass_of_methodNamed B.named
  have hlocks := B.notSynchronized
  subst hsz
  have hD := hD0.self (sz := s.heap.size)
  generalize hAe : va_A (SW c5 bo v z ++ [(q, (.inl (c5 3, 2, .inl g) : va_E))]) s.heap.size = A at hD ⊢
  have hA : ∀ q : Nat, s.heap.size ≤ q → A q := fun q h => by rw [← hAe]; exact Or.inr h
  have hS : va_S A s.heap s.heap [] := va_S.rf
  have hl := lv_entry ([.ref (bo 1), .ref q] : List Value) (n := 4) (Nat.le_of_ble_eq_true rfl)
  rw [lg_entry_eq]
  generalize (lg_sl ([.ref (bo 1), .ref q] : List Value) ++ List.replicate (4 - (lg_sl ([.ref (bo 1), .ref q] : List Value)).length) Slot.unset).toArray = ls at hl ⊢
  have hl : lv_has ls 4 [(0, .ref (bo 1)), (1, .ref q)] := hl
  refine lv_aload_n hx hb dX3_more_0 rfl (lv_at hl 0 rfl) ?_
  refine va_alen (v := nI (zN z)) hx hb hK hP 1 4 (ap_l (SW_1 c5 bo v z)) rfl rfl dX3_more_1 ?_
  refine lv_iconst (v := (1 : Int32)) hx hb dX3_more_2 (by decide) ?_
  refine lv_iadd hx hb dX3_more_3 ?_
  rw [nI_1]
  refine ar_new (ty := .int) (N' := zN z + 1) hx hb hown (by rw [sI]; exact hts _ wT3_6) hOI hK hP hD hS hA (nI_pos (by omega)) (cl (by omega)) (by omega) (show 0 + 1 ≤ 1 by omega) (show 0 + (zN z + 1) ≤ 6 by omega) 4 rfl dX3_more_4 (fun qm H hP hD hS => ?_)
  refine W.widen (k := 1) (n := 6) (by omega) (by omega) ?_
  refine lv_astore_n (i := 2) (lv' := [(2, .ref qm), (0, .ref (bo 1)), (1, .ref q)]) hx hb dX3_more_7 rfl hl (by decide) rfl (fun ls hl => ?_)
  refine lv_iconst (v := (0 : Int32)) hx hb dX3_more_8 (by decide) ?_
  refine lv_istore_n (i := 3) (lv' := [(3, .int (0 : Int32)), (2, .ref qm), (0, .ref (bo 1)), (1, .ref q)]) hx hb dX3_more_9 rfl hl (by decide) rfl (fun ls hl => ?_)
  have e0 : (fun _ => none : Nat → Option Nat) = mf v 0 := by funext j; simp [mf]
  rw [e0] at hP hD
  suffices LP : ∀ (d i : Nat) (H : Heap) (locs : List Loc) (ls : Array Slot), i + d = zN z → lv_has ls 4 [(3, .int (nI i)), (2, .ref qm), (0, .ref (bo 1)), (1, .ref q)] → va_P D vwCl ((SW c5 bo v z ++ [(q, (.inl (c5 3, 2, .inl g) : va_E))]) ++ [(qm, (.inl (c5 4, zN z + 1, rfs (mf v i)) : va_E))]) H → va_D A ((SW c5 bo v z ++ [(q, (.inl (c5 3, 2, .inl g) : va_E))]) ++ [(qm, (.inl (c5 4, zN z + 1, rfs (mf v i)) : va_E))]) → va_S A s.heap H locs → W p l e (headSpec (ws_ yX3_more cX3_more 4 (some (.array (.array .int)))) { frames := 0, cells := 1, slots := 6, locals := 0 }).room s m ([.ref (bo 1), .ref q] : List Value).toArray below meth c H locs 1 6 (MQ below (va_Qr (fun _ : Unit => True) (fun _ qm t => va_P D vwCl ((SW c5 bo v z ++ [(q, (.inl (c5 3, 2, .inl g) : va_E))]) ++ [(qm, (.inl (c5 4, zN z + 1, rfs (fun j => some (if j < zN z then bK v j else q)))))]) t.heap ∧ va_K D vwCl (tyG c5) t ∧ va_D A ((SW c5 bo v z ++ [(q, (.inl (c5 3, 2, .inl g) : va_E))]) ++ [(qm, (.inl (c5 4, zN z + 1, rfs (fun j => some (if j < zN z then bK v j else q)))))])) A) ([.ref (bo 1), .ref q] : List Value).toArray s 1 6 A) (F0 m 10 ls []) from LP (zN z) 0 _ _ ls (Nat.zero_add _) hl hP hD hS
  intro d
  induction d with
  | zero =>
    intro i H locs ls hi hl hP hD hS
    obtain rfl : i = zN z := by omega
    refine lv_iload_n hx hb dX3_more_10 rfl (lv_at hl 0 rfl) ?_
    refine lv_aload_n hx hb dX3_more_11 rfl (lv_at hl 2 rfl) ?_
    refine va_alen (v := nI (zN z)) hx hb hK hP 1 4 (ap_l (ap_l (SW_1 c5 bo v z))) rfl rfl dX3_more_12 ?_
    refine lv_icmp_ge (tgt := 28) hx hb dX3_more_13 (by decide) (fun _ => ?_) (fun q9 => absurd (nI_le (Nat.le_refl _) (by omega)) q9)
    refine lv_aload_n hx hb dX3_more_28 rfl (lv_at hl 1 rfl) ?_
    refine lv_aload_n hx hb dX3_more_29 rfl (lv_at hl 2 rfl) ?_
    refine va_alen (v := nI (zN z)) hx hb hK hP 1 4 (ap_l (ap_l (SW_1 c5 bo v z))) rfl rfl dX3_more_30 ?_
    refine lv_aload_n hx hb dX3_more_31 rfl (lv_at hl 3 rfl) ?_
    refine ar_st hx hb hK hP hD hS (((SW c5 bo v z ++ [(q, (.inl (c5 3, 2, .inl g) : va_E))])).length + 0) 4 ((SW c5 bo v z).length + 0) 3 hOI (by intro C h9; cases h9) (ap_r (Y := [(qm, (.inl (c5 4, zN z + 1, rfs (mf v (zN z))) : va_E))]) rfl) rfl (ap_l (ap_r (Y := [(q, (.inl (c5 3, 2, .inl g) : va_E))]) rfl)) rfl (inb_in (inb_nI (by omega) (by omega))) dX3_more_32 (fun H locs hP hD hS => ?_)
    have hP := wP (ap_sr (Y := [(qm, (.inl (c5 4, zN z + 1, rfs (mf v (zN z))) : va_E))]) rfl) hP
    have hD := wD (ap_sr (Y := [(qm, (.inl (c5 4, zN z + 1, rfs (mf v (zN z))) : va_E))]) rfl) hD
    rw [cl (show zN z < 2 ^ 31 by omega)] at hP hD
    have hP := ar_congr (X := (SW c5 bo v z ++ [(q, (.inl (c5 3, 2, .inl g) : va_E))])) (Y := []) (cA := c5 4) (n := zN z + 1) (q := qm) (f := va_up (mf v (zN z)) (zN z) (some q)) (g := fun j => some (if j < zN z then bK v j else q)) hP (fun j hj => mf_q v (zN z) q j hj)
    have hD := ar_congrD (X := (SW c5 bo v z ++ [(q, (.inl (c5 3, 2, .inl g) : va_E))])) (Y := []) (q := qm) (e := .inl (c5 4, zN z + 1, rfs (va_up (mf v (zN z)) (zN z) (some q)))) (e' := .inl (c5 4, zN z + 1, rfs (fun j => some (if j < zN z then bK v j else q)))) hD
    refine lv_aload_n hx hb dX3_more_33 rfl (lv_at hl 1 rfl) ?_
    exact W.aret hx hb hr (Or.inr ⟨_, rfl⟩) (Or.inr ⟨_, rfl⟩) (fun t ht hW => ⟨⟨(), qm, rfl, trivial, by rw [ht]; exact hP, va_K.moved hW.alike hK, hD⟩, hS.F ht⟩) hS.2.2 dX3_more_34 hlocks
  | succ d ih =>
    intro i H locs ls hi hl hP hD hS
    have hiN : i < zN z := by omega
    refine lv_iload_n hx hb dX3_more_10 rfl (lv_at hl 0 rfl) ?_
    refine lv_aload_n hx hb dX3_more_11 rfl (lv_at hl 2 rfl) ?_
    refine va_alen (v := nI (zN z)) hx hb hK hP 1 4 (ap_l (ap_l (SW_1 c5 bo v z))) rfl rfl dX3_more_12 ?_
    refine lv_icmp_ge (tgt := 28) hx hb dX3_more_13 (by decide) (fun q9 => absurd q9 (nI_ge hiN (by omega))) (fun _ => ?_)
    refine lv_aload_n hx hb dX3_more_16 rfl (lv_at hl 1 rfl) ?_
    refine lv_iload_n hx hb dX3_more_17 rfl (lv_at hl 0 rfl) ?_
    refine lv_aload_n hx hb dX3_more_18 rfl (lv_at hl 2 rfl) ?_
    refine lv_iload_n hx hb dX3_more_19 rfl (lv_at hl 0 rfl) ?_
    refine ar_ld (y := bK v i) hx hb hK hP 1 4 (ap_l (ap_l (SW_1 c5 bo v z))) rfl (inb_in (inb_nI hiN (by omega))) (by rw [cl (by omega)]) dX3_more_20 ?_
    refine ar_st hx hb hK hP hD hS (((SW c5 bo v z ++ [(q, (.inl (c5 3, 2, .inl g) : va_E))])).length + 0) 4 (28 + i) 3 hOI (by intro C h9; cases h9) (ap_r (Y := [(qm, (.inl (c5 4, zN z + 1, rfs (mf v i)) : va_E))]) rfl) rfl (ap_l (ap_l (SW_K c5 bo v z hiN))) rfl (inb_in (inb_nI (by omega) (by omega))) dX3_more_21 (fun H locs hP hD hS => ?_)
    have hP := wP (ap_sr (Y := [(qm, (.inl (c5 4, zN z + 1, rfs (mf v i)) : va_E))]) rfl) hP
    have hD := wD (ap_sr (Y := [(qm, (.inl (c5 4, zN z + 1, rfs (mf v i)) : va_E))]) rfl) hD
    rw [cl (show i < 2 ^ 31 by omega), mf_up] at hP hD
    refine lv_iinc (v := nI (i + 1)) (lv' := [(3, .int (nI (i + 1))), (2, .ref qm), (0, .ref (bo 1)), (1, .ref q)]) hx hb dX3_more_22 hl (k := 0) rfl (nI_s i) (by decide) rfl (fun ls hl => ?_)
    refine lv_goto (tgt := 10) hx hb dX3_more_25 (by decide) ?_
    exact ih (i + 1) H locs ls (by omega) hl hP hD hS
theorem mk_perm {α : Type} (V R : List α) (o k0 sh st c1 c2 : α) : (V ++ ((o :: k0 :: sh :: st :: R) ++ [c1, c2])).Perm (k0 :: (V ++ ((o :: c2 :: sh :: st :: (R ++ [c1])) ++ []))) := by
  letI : DecidableEq α := fun x y => Classical.propDecidable (x = y)
  rw [List.perm_iff_count]
  intro a
  simp only [List.count_append, List.count_cons, List.count_nil, List.cons_append]
  omega
theorem SW_mk (c5 : Nat → ClassId) (bo : Nat → Nat) (v : BV) (z : SSt) (q qm : Nat) (g : Nat → Int32) : (bo 0, (.inr (3, (flZ bo z).set 4 (.ref qm)) : va_E)) :: (qm, .inl (c5 4, zN z + 1, rfs (fun j => some (bK (bKs v (zN z) q) j)))) :: (bo 2, .inl (c5 4, 12, rfs (fun i => some (bH v i)))) :: (bo 3, .inl (c5 5, 12, rfs (fun i => some (bB v i)))) :: (((List.range 12).map (ceZH c5 v z) ++ ((List.range 12).map (ceZB c5 v z) ++ (List.range (zN z)).map (ceZK c5 v z))) ++ [(q, .inl (c5 3, 2, .inl g))]) = SW c5 (va_up bo 1 qm) (bKs v (zN z) q) (zNs z g) := by
  have e2 : (List.range (zN z + 1)).map (ceZK c5 (bKs v (zN z) q) (zNs z g)) = (List.range (zN z)).map (ceZK c5 v z) ++ [(q, (.inl (c5 3, 2, .inl g) : va_E))] := by
    rw [List.range_succ, List.map_append]
    congr 1
    · apply List.map_congr_left
      intro j hj
      have : j ≠ zN z := by have := List.mem_range.mp hj; omega
      simp [ceZK, bK, bKs, va_up, zK, zNs, this]
    · simp [ceZK, bK, bKs, va_up, zK, zNs]
  show _ = [((va_up bo 1 qm) 0, (.inr (3, flZ (va_up bo 1 qm) (zNs z g)) : va_E)), ((va_up bo 1 qm) 1, .inl (c5 4, zN z + 1, rfs (fun j => some (bK (bKs v (zN z) q) j)))), ((va_up bo 1 qm) 2, .inl (c5 4, 12, rfs (fun i => some (bH (bKs v (zN z) q) i)))), ((va_up bo 1 qm) 3, .inl (c5 5, 12, rfs (fun i => some (bB (bKs v (zN z) q) i))))] ++ ((List.range 12).map (ceZH c5 (bKs v (zN z) q) (zNs z g)) ++ ((List.range 12).map (ceZB c5 (bKs v (zN z) q) (zNs z g)) ++ (List.range (zN z + 1)).map (ceZK c5 (bKs v (zN z) q) (zNs z g))))
  rw [e2]
  simp only [List.append_assoc]
  rfl
theorem mk_P {D : va_G} {H : Heap} {c5 : Nat → ClassId} {V : va_W} {bo : Nat → Nat} {v : BV} {z : SSt} {q qm : Nat} {g : Nat → Int32} (hP : va_P D vwCl (V ++ ((SW c5 bo v z).set 0 (bo 0, .inr (3, (flZ bo z).set 4 (.ref qm))) ++ [(q, .inl (c5 3, 2, .inl g)), (qm, .inl (c5 4, zN z + 1, rfs (fun j => some (if j < zN z then bK v j else q))))])) H) : va_P D vwCl (V ++ (SW c5 (va_up bo 1 qm) (bKs v (zN z) q) (zNs z g) ++ ([] : va_W))) H := by
  have h1 : va_P D vwCl ((V ++ [(bo 0, (.inr (3, (flZ bo z).set 4 (.ref qm)) : va_E))]) ++ ((qm, (.inl (c5 4, zN z + 1, rfs (fun j => some (if j < zN z then bK v j else q))) : va_E)) :: (bo 2, .inl (c5 4, 12, rfs (fun i => some (bH v i)))) :: (bo 3, .inl (c5 5, 12, rfs (fun i => some (bB v i)))) :: (((List.range 12).map (ceZH c5 v z) ++ ((List.range 12).map (ceZB c5 v z) ++ (List.range (zN z)).map (ceZK c5 v z))) ++ [(q, .inl (c5 3, 2, .inl g))]))) H := by
    have h0 := va_P.perm (mk_perm V ((List.range 12).map (ceZH c5 v z) ++ ((List.range 12).map (ceZB c5 v z) ++ (List.range (zN z)).map (ceZK c5 v z))) (bo 0, (.inr (3, (flZ bo z).set 4 (.ref qm)) : va_E)) (bo 1, (.inl (c5 4, zN z, rfs (fun j => some (bK v j))) : va_E)) (bo 2, (.inl (c5 4, 12, rfs (fun i => some (bH v i))) : va_E)) (bo 3, (.inl (c5 5, 12, rfs (fun i => some (bB v i))) : va_E)) (q, (.inl (c5 3, 2, .inl g) : va_E)) (qm, (.inl (c5 4, zN z + 1, rfs (fun j => some (if j < zN z then bK v j else q))) : va_E))) hP
    have h9 := wd_P h0 (fun x hx => List.mem_cons_of_mem _ hx)
    rw [List.append_nil] at h9
    rw [List.append_assoc]
    exact h9
  have h2 := ar_congr (cA := c5 4) (n := zN z + 1) (q := qm) (f := fun j => some (if j < zN z then bK v j else q)) (g := fun j => some (bK (bKs v (zN z) q) j)) h1 (fun j hj => by
    simp only [bK, bKs, va_up]
    by_cases h : j = zN z
    · subst h; simp
    · have : j < zN z := by omega
      simp [h, this])
  rw [List.append_assoc] at h2
  rw [List.append_nil, ← SW_mk]
  exact h2
theorem mk_D {A : Nat → Prop} {c5 : Nat → ClassId} {V : va_W} {bo : Nat → Nat} {v : BV} {z : SSt} {q qm : Nat} {g : Nat → Int32} (hD : va_D A (V ++ ((SW c5 bo v z).set 0 (bo 0, .inr (3, (flZ bo z).set 4 (.ref qm))) ++ [(q, .inl (c5 3, 2, .inl g)), (qm, .inl (c5 4, zN z + 1, rfs (fun j => some (if j < zN z then bK v j else q))))]))) : va_D A (V ++ (SW c5 (va_up bo 1 qm) (bKs v (zN z) q) (zNs z g) ++ ([] : va_W))) := by
  have h1 : va_D A ((V ++ [(bo 0, (.inr (3, (flZ bo z).set 4 (.ref qm)) : va_E))]) ++ ((qm, (.inl (c5 4, zN z + 1, rfs (fun j => some (if j < zN z then bK v j else q))) : va_E)) :: (bo 2, .inl (c5 4, 12, rfs (fun i => some (bH v i)))) :: (bo 3, .inl (c5 5, 12, rfs (fun i => some (bB v i)))) :: (((List.range 12).map (ceZH c5 v z) ++ ((List.range 12).map (ceZB c5 v z) ++ (List.range (zN z)).map (ceZK c5 v z))) ++ [(q, .inl (c5 3, 2, .inl g))]))) := by
    have h0 := va_D.perm (mk_perm V ((List.range 12).map (ceZH c5 v z) ++ ((List.range 12).map (ceZB c5 v z) ++ (List.range (zN z)).map (ceZK c5 v z))) (bo 0, (.inr (3, (flZ bo z).set 4 (.ref qm)) : va_E)) (bo 1, (.inl (c5 4, zN z, rfs (fun j => some (bK v j))) : va_E)) (bo 2, (.inl (c5 4, 12, rfs (fun i => some (bH v i))) : va_E)) (bo 3, (.inl (c5 5, 12, rfs (fun i => some (bB v i))) : va_E)) (q, (.inl (c5 3, 2, .inl g) : va_E)) (qm, (.inl (c5 4, zN z + 1, rfs (fun j => some (if j < zN z then bK v j else q))) : va_E))) hD
    have h9 := wd_D h0 (List.sublist_cons_self _ _)
    rw [List.append_nil] at h9
    rw [List.append_assoc]
    exact h9
  have h2 := ar_congrD (e' := .inl (c5 4, zN z + 1, rfs (fun j => some (bK (bKs v (zN z) q) j)))) h1
  rw [List.append_assoc] at h2
  rw [List.append_nil, ← SW_mk]
  exact h2
