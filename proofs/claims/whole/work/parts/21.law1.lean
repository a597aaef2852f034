section LLOOP
variable {p : Program} {l : Launch} {e : Env} {s : State} {m : MethodId} {below : List Frame} {meth : Method} {c : Code}
/-- the law's frame, behind its first steps -/
def lwF (p : Program) (l : Launch) (s : State) (m : MethodId) (meth : Method) (c : Code) (D : va_G) (c5 : Nat → ClassId) (sx : Nat → Nat) (b L : Nat) (xs : Nat → Int32) : Prop :=
  p.tables.exec = Jvm.exec ∧ c.code = code ∧ c.maxLocals = 9 ∧ s.vm.findClass RL = some m.cls ∧ (∀ w ∈ LA, w.before #[Value.ref b] s = true) ∧ va_X b L xs s s.heap ∧ b < s.heap.size ∧ va_K D vwCl (tyG c5) s ∧ exL (fun q => s.heap.size ≤ q) sx s ∧ l.flags = flags0 ∧ L ≤ 1536
theorem wN {D : va_G} {X w : va_W} {H : Heap} (h : va_P D vwCl (X ++ w) H) : va_P D vwCl (X ++ (w ++ [])) H := by rw [List.append_nil]; exact h
theorem dN {A : Nat → Prop} {X w : va_W} (h : va_D A (X ++ w)) : va_D A (X ++ (w ++ [])) := by rw [List.append_nil]; exact h
theorem wM {D : va_G} {X w : va_W} {H : Heap} (h : va_P D vwCl (X ++ (w ++ [])) H) : va_P D vwCl (X ++ w) H := by rw [List.append_nil] at h; exact h
theorem dM {A : Nat → Prop} {X w : va_W} (h : va_D A (X ++ (w ++ []))) : va_D A (X ++ w) := by rw [List.append_nil] at h; exact h
theorem lg_eq0 {x y : Int64} (h : x = y) : lg_cmp x y = 0 := by
  subst h
  simp [lg_cmp]
/-- how the law goes on behind a call -/
def lwK (p : Program) (l : Launch) (e : Env) (s : State) (m : MethodId) (below : List Frame) (meth : Method) (c : Code) (Rel : Nat → KSt → MSt → Prop) (D : va_G) (c5 : Nat → ClassId) (b x0 o : Nat) (bm : Nat → Nat) (n : Nat) : Prop :=
  ∀ (cells slots : Nat) (a : KAd) (k : KSt) (mm : MSt) (g : Nat → Int64) (H : Heap) (locs : List Loc) (ls : Array Slot), cells ≤ 37 + (n + 1) → slots ≤ 361 + 6 * (n + 1) → aO a 0 = x0 → Rel (n + 1) k mm → lv_has ls 9 [(0, .ref b), (1, .ref x0), (2, .ref (bm 0)), (3, .ref o), (4, .int (nI (3 * n)))] → va_P D vwCl (LW c5 a k o g ++ MW c5 bm mm) H → va_D (fun q => s.heap.size ≤ q) (LW c5 a k o g ++ MW c5 bm mm) → va_S (fun q => s.heap.size ≤ q) s.heap H locs →
    W p l e room_1 s m #[Value.ref b] below meth c H locs cells slots (lw_Z below #[Value.ref b] s) (F0 m 1020 ls [])
set_option maxHeartbeats 8000000 in
set_option maxRecDepth 100000 in
theorem lw_kind {Rel : Nat → KSt → MSt → Prop} {D : va_G} {c5 : Nat → ClassId} {sx : Nat → Nat} {b L x0 o n : Nat} {bm : Nat → Nat} {xs : Nat → Int32} {a : KAd} {k : KSt} {mm : MSt} {g : Nat → Int64} {H : Heap} {locs : List Loc} {cells slots : Nat} {ls : Array Slot} (F : lwF p l s m meth c D c5 sx b L xs) (KE : lwK p l e s m below meth c Rel D c5 b x0 o bm n) (hy_kind : ∀ p : Int32, Agree Rel n k cdIAIS [exIA, exIS] (R_X2_kind k p) (R_X3_kind mm p)) (hn : n < 512) (h3 : 3 * n + 3 ≤ L) (hc1 : cells ≤ 37 + n) (hc2 : slots ≤ 361 + 6 * n) (hx0 : aO a 0 = x0) (hl : lv_has ls 9 [(0, .ref b), (1, .ref x0), (2, .ref (bm 0)), (3, .ref o), (4, .int (nI (3 * n)))]) (hP : va_P D vwCl (LW c5 a k o g ++ MW c5 bm mm) H) (hD : va_D (fun q => s.heap.size ≤ q) (LW c5 a k o g ++ MW c5 bm mm)) (hS : va_S (fun q => s.heap.size ≤ q) s.heap H locs) :
    W p l e room_1 s m #[Value.ref b] below meth c H locs cells slots (lw_Z below #[Value.ref b] s) (F0 m 120 ls []) := by
  obtain ⟨hx, hb, hml, hown, hts, hXs, hbl, hK, hX, hflags, hL⟩ := F
  have hA : ∀ q : Nat, s.heap.size ≤ q → (fun q : Nat => s.heap.size ≤ q) q := fun _ h => h
  have hbA : ¬ (fun q : Nat => s.heap.size ≤ q) b := Nat.not_le.mpr hbl
  have hi1 : nI (3 * n) + 1 = nI (3 * n + 1) := nI_add (3 * n) 1
  have hi2 : nI (3 * n) + 2 = nI (3 * n + 2) := nI_add (3 * n) 2
  obtain ⟨res, rb, m', e1, e2, hE, hm⟩ := hy_kind (xs (3 * n + 1))
  refine lv_aload_n hx hb dL_law_120 rfl (lv_at hl 1 rfl) ?_
  refine lv_aload_n hx hb dL_law_121 rfl (lv_at hl 0 rfl) ?_
  refine lv_iload hx hb dL_law_122 (lv_at hl 4 rfl) ?_
  refine lv_iconst (v := (1 : Int32)) hx hb dL_law_124 (by decide) ?_
  refine lv_iadd hx hb dL_law_125 ?_
  rw [hi1]
  refine va_sld hx hb hXs hbl hbA hS (inb_in (lw_i hL (j := 1) (by omega))) dL_law_126 ?_
  rw [lw_cl (j := 1) (by omega)]
  refine lv_aload_n hx hb dL_law_127 rfl (lv_at hl 3 rfl) ?_
  refine wr_call (As := [.ref x0, .int (xs (3 * n + 1)), .ref o]) (rest := []) ⟨hx, hb, hml, hown, hts⟩ hP hK hD hS hA hX (hx0 ▸ c_L_kind l D c5 a k o g sx hflags H.size (xs (3 * n + 1)) res e1 hE) gG_RL_63 hd_L_kind ⟨Nat.le_of_ble_eq_true rfl, Nat.le_of_ble_eq_true rfl⟩ ⟨rfl, rfl⟩ hl.1 (Nat.le_of_ble_eq_true rfl) dL_law_128 ⟨show _ ≤ 669600 by omega, show _ ≤ 7087305 by omega⟩ rfl (fun x u H locs hq hP hD hS => ?_)
  obtain ⟨f1, f2, f3, f4⟩ := ag_rw hm hq
  obtain ⟨ua, uk, ug⟩ := u
  have hxu : aO ua 0 = x0 := by rw [← hx0]; exact congrFun f4 0
  refine lv_istore (i := 5) (lv' := [(5, .int x), (0, .ref b), (1, .ref x0), (2, .ref (bm 0)), (3, .ref o), (4, .int (nI (3 * n)))]) hx hb dL_law_131 hl (by decide) rfl (fun ls hl => ?_)
  refine lv_aload_n hx hb dL_law_133 rfl (lv_at hl 3 rfl) ?_
  refine lv_aload_n hx hb dL_law_134 rfl (lv_at hl 1 rfl) ?_
  refine lv_iload hx hb dL_law_135 (lv_at hl 5 rfl) ?_
  refine lv_iconst (v := (1 : Int32)) hx hb dL_law_137 (by decide) ?_
  refine lv_iadd hx hb dL_law_138 ?_
  rw [hi1]
  refine va_sld hx hb hXs hbl hbA hS (inb_in (lw_i hL (j := 1) (by omega))) dL_law_139 ?_
  rw [lw_cl (j := 1) (by omega)]
  refine fr_calli (wc := MW c5 bm mm) (X := LW c5 ua uk o ug) (Y := []) (rw_runV (As := [.int (xs (3 * n + 1))]) (rest := []) ⟨hx, hb, hml, hown, hts⟩ (fr_P (X := LW c5 ua uk o ug) (Y := []) (wN hP)) hK (fr_D (X := LW c5 ua uk o ug) (Y := []) (dN hD)) (c_X3_kind l D c5 bm mm H.size (xs (3 * n + 1)) (rb, m') e2) gG_RL_68 (va_recv hK (fr_P (X := LW c5 ua uk o ug) (Y := []) (wN hP)) (ci := 3) (q0 := 0) rfl rfl) hd_X3_kind ⟨Nat.le_of_ble_eq_true rfl, Nat.le_of_ble_eq_true rfl⟩ ⟨rfl, rfl⟩ hl.1 (Nat.le_of_ble_eq_true rfl) dL_law_140 ⟨show _ ≤ 669600 by omega, show _ ≤ 7087305 by omega⟩ rfl) (wN hP) (dN hD) hS hA (fun x3 u3 H locs hpost hP hD hS => ?_)
  obtain rfl : rb = x3 := hpost.1.symm
  obtain rfl : m' = u3 := hpost.2.symm
  have hP := wM hP
  have hD := dM hD
  refine lv_istore (i := 6) (lv' := [(6, .int rb), (5, .int x), (0, .ref b), (1, .ref x0), (2, .ref (bm 0)), (3, .ref o), (4, .int (nI (3 * n)))]) hx hb dL_law_143 hl (by decide) rfl (fun ls hl => ?_)
  refine lv_aload_n hx hb dL_law_145 rfl (lv_at hl 4 rfl) ?_
  refine ro_calli (ro_runV (As := []) (rest := []) ⟨hx, hb, hml, hown, hts⟩ (fr_P (X := LW c5 ua uk o ug) (Y := []) (wN hP)) hK (c_X3_thrown l D c5 bm m' (mF m' 0) rfl) gG_RL_69 (va_recv hK (fr_P (X := LW c5 ua uk o ug) (Y := []) (wN hP)) (ci := 3) (q0 := 0) rfl rfl) hd_X3_thrown ⟨Nat.le_of_ble_eq_true rfl, Nat.le_of_ble_eq_true rfl⟩ ⟨rfl, rfl⟩ hl.1 (Nat.le_of_ble_eq_true rfl) dL_law_146 ⟨show _ ≤ 669600 by omega, show _ ≤ 7087305 by omega⟩ rfl) ?_
  refine lv_iload hx hb dL_law_149 (lv_at hl 1 rfl) ?_
  refine lv_icmp_eq (tgt := 156) hx hb dL_law_151 (by decide) (fun _ => ?_) (fun q => absurd f1 q)
  refine lv_iload hx hb dL_law_156 (lv_at hl 1 rfl) ?_
  have kend : ∀ ls : Array Slot, lv_has ls 9 [(6, .int rb), (5, .int x), (0, .ref b), (1, .ref x0), (2, .ref (bm 0)), (3, .ref o), (4, .int (nI (3 * n)))] → W p l e room_1 s m #[Value.ref b] below meth c H locs (cells + 1 + 0) (slots + 6 + 0) (lw_Z below #[Value.ref b] s) (F0 m 173 ls []) := fun ls hl => by
    refine lv_goto (tgt := 1020) hx hb dL_law_173 (by decide) ?_
    exact KE _ _ ua uk m' ug H locs ls (by omega) (by omega) hxu f3 (lv_sub hl [2, 3, 4, 5, 6] rfl) hP hD hS
  refine lv_if_ne (tgt := 173) hx hb dL_law_158 (by decide) (fun _ => kend ls hl) (fun q0 => ?_)
  refine lv_aload_n hx hb dL_law_161 rfl (lv_at hl 5 rfl) ?_
  refine lv_iconst (v := (0 : Int32)) hx hb dL_law_162 (by decide) ?_
  refine va_lald hx hb hK hP (KW c5 ua uk).length 4 (TW_o c5 ua uk o ug _) rfl (inb_in (i := 0) (n := 1) rfl) dL_law_163 ?_
  refine lv_iload hx hb dL_law_164 (lv_at hl 0 rfl) ?_
  refine lv_i2l (v := rb.toInt64) hx hb dL_law_166 rfl ?_
  refine W.lcmp hx hb dL_law_167 ?_
  refine lv_if_eq (tgt := 173) hx hb dL_law_168 (by decide) (fun _ => kend ls hl) (fun q => absurd (lg_eq0 (f2 q0)) q)
set_option maxHeartbeats 8000000 in
set_option maxRecDepth 100000 in
theorem lw_setWay {Rel : Nat → KSt → MSt → Prop} {D : va_G} {c5 : Nat → ClassId} {sx : Nat → Nat} {b L x0 o n : Nat} {bm : Nat → Nat} {xs : Nat → Int32} {a : KAd} {k : KSt} {mm : MSt} {g : Nat → Int64} {H : Heap} {locs : List Loc} {cells slots : Nat} {ls : Array Slot} (F : lwF p l s m meth c D c5 sx b L xs) (KE : lwK p l e s m below meth c Rel D c5 b x0 o bm n) (hy_setWay : ∀ p : Int32, Agree Rel n k cdIO [exIO] (R_X2_setWay k p) (R_X3_setWay mm p)) (hn : n < 512) (h3 : 3 * n + 3 ≤ L) (hc1 : cells ≤ 37 + n) (hc2 : slots ≤ 361 + 6 * n) (hx0 : aO a 0 = x0) (hl : lv_has ls 9 [(0, .ref b), (1, .ref x0), (2, .ref (bm 0)), (3, .ref o), (4, .int (nI (3 * n)))]) (hP : va_P D vwCl (LW c5 a k o g ++ MW c5 bm mm) H) (hD : va_D (fun q => s.heap.size ≤ q) (LW c5 a k o g ++ MW c5 bm mm)) (hS : va_S (fun q => s.heap.size ≤ q) s.heap H locs) :
    W p l e room_1 s m #[Value.ref b] below meth c H locs cells slots (lw_Z below #[Value.ref b] s) (F0 m 176 ls []) := by
  obtain ⟨hx, hb, hml, hown, hts, hXs, hbl, hK, hX, hflags, hL⟩ := F
  have hA : ∀ q : Nat, s.heap.size ≤ q → (fun q : Nat => s.heap.size ≤ q) q := fun _ h => h
  have hbA : ¬ (fun q : Nat => s.heap.size ≤ q) b := Nat.not_le.mpr hbl
  have hi1 : nI (3 * n) + 1 = nI (3 * n + 1) := nI_add (3 * n) 1
  have hi2 : nI (3 * n) + 2 = nI (3 * n + 2) := nI_add (3 * n) 2
  obtain ⟨res, rb, m', e1, e2, hE, hm⟩ := hy_setWay (xs (3 * n + 1))
  refine lv_aload_n hx hb dL_law_176 rfl (lv_at hl 1 rfl) ?_
  refine lv_aload_n hx hb dL_law_177 rfl (lv_at hl 0 rfl) ?_
  refine lv_iload hx hb dL_law_178 (lv_at hl 4 rfl) ?_
  refine lv_iconst (v := (1 : Int32)) hx hb dL_law_180 (by decide) ?_
  refine lv_iadd hx hb dL_law_181 ?_
  rw [hi1]
  refine va_sld hx hb hXs hbl hbA hS (inb_in (lw_i hL (j := 1) (by omega))) dL_law_182 ?_
  rw [lw_cl (j := 1) (by omega)]
  refine lv_aload_n hx hb dL_law_183 rfl (lv_at hl 3 rfl) ?_
  refine wr_call (As := [.ref x0, .int (xs (3 * n + 1)), .ref o]) (rest := []) ⟨hx, hb, hml, hown, hts⟩ hP hK hD hS hA hX (hx0 ▸ c_L_setWay l D c5 a k o g sx hflags H.size (xs (3 * n + 1)) res e1 hE) gG_RL_73 hd_L_setWay ⟨Nat.le_of_ble_eq_true rfl, Nat.le_of_ble_eq_true rfl⟩ ⟨rfl, rfl⟩ hl.1 (Nat.le_of_ble_eq_true rfl) dL_law_184 ⟨show _ ≤ 669600 by omega, show _ ≤ 7087305 by omega⟩ rfl (fun x u H locs hq hP hD hS => ?_)
  obtain ⟨f1, f2, f3, f4⟩ := ag_rw hm hq
  obtain ⟨ua, uk, ug⟩ := u
  have hxu : aO ua 0 = x0 := by rw [← hx0]; exact congrFun f4 0
  refine lv_istore (i := 5) (lv' := [(5, .int x), (0, .ref b), (1, .ref x0), (2, .ref (bm 0)), (3, .ref o), (4, .int (nI (3 * n)))]) hx hb dL_law_187 hl (by decide) rfl (fun ls hl => ?_)
  refine lv_aload_n hx hb dL_law_189 rfl (lv_at hl 3 rfl) ?_
  refine lv_aload_n hx hb dL_law_190 rfl (lv_at hl 1 rfl) ?_
  refine lv_iload hx hb dL_law_191 (lv_at hl 5 rfl) ?_
  refine lv_iconst (v := (1 : Int32)) hx hb dL_law_193 (by decide) ?_
  refine lv_iadd hx hb dL_law_194 ?_
  rw [hi1]
  refine va_sld hx hb hXs hbl hbA hS (inb_in (lw_i hL (j := 1) (by omega))) dL_law_195 ?_
  rw [lw_cl (j := 1) (by omega)]
  refine fr_calli (wc := MW c5 bm mm) (X := LW c5 ua uk o ug) (Y := []) (rw_runV (As := [.int (xs (3 * n + 1))]) (rest := []) ⟨hx, hb, hml, hown, hts⟩ (fr_P (X := LW c5 ua uk o ug) (Y := []) (wN hP)) hK (fr_D (X := LW c5 ua uk o ug) (Y := []) (dN hD)) (c_X3_setWay l D c5 bm mm H.size (xs (3 * n + 1)) (rb, m') e2) gG_RL_75 (va_recv hK (fr_P (X := LW c5 ua uk o ug) (Y := []) (wN hP)) (ci := 3) (q0 := 0) rfl rfl) hd_X3_setWay ⟨Nat.le_of_ble_eq_true rfl, Nat.le_of_ble_eq_true rfl⟩ ⟨rfl, rfl⟩ hl.1 (Nat.le_of_ble_eq_true rfl) dL_law_196 ⟨show _ ≤ 669600 by omega, show _ ≤ 7087305 by omega⟩ rfl) (wN hP) (dN hD) hS hA (fun x3 u3 H locs hpost hP hD hS => ?_)
  obtain rfl : rb = x3 := hpost.1.symm
  obtain rfl : m' = u3 := hpost.2.symm
  have hP := wM hP
  have hD := dM hD
  refine lv_istore (i := 6) (lv' := [(6, .int rb), (5, .int x), (0, .ref b), (1, .ref x0), (2, .ref (bm 0)), (3, .ref o), (4, .int (nI (3 * n)))]) hx hb dL_law_199 hl (by decide) rfl (fun ls hl => ?_)
  refine lv_aload_n hx hb dL_law_201 rfl (lv_at hl 4 rfl) ?_
  refine ro_calli (ro_runV (As := []) (rest := []) ⟨hx, hb, hml, hown, hts⟩ (fr_P (X := LW c5 ua uk o ug) (Y := []) (wN hP)) hK (c_X3_thrown l D c5 bm m' (mF m' 0) rfl) gG_RL_69 (va_recv hK (fr_P (X := LW c5 ua uk o ug) (Y := []) (wN hP)) (ci := 3) (q0 := 0) rfl rfl) hd_X3_thrown ⟨Nat.le_of_ble_eq_true rfl, Nat.le_of_ble_eq_true rfl⟩ ⟨rfl, rfl⟩ hl.1 (Nat.le_of_ble_eq_true rfl) dL_law_202 ⟨show _ ≤ 669600 by omega, show _ ≤ 7087305 by omega⟩ rfl) ?_
  refine lv_iload hx hb dL_law_205 (lv_at hl 1 rfl) ?_
  refine lv_icmp_eq (tgt := 212) hx hb dL_law_207 (by decide) (fun _ => ?_) (fun q => absurd f1 q)
  refine lv_iload hx hb dL_law_212 (lv_at hl 1 rfl) ?_
  have kend : ∀ ls : Array Slot, lv_has ls 9 [(6, .int rb), (5, .int x), (0, .ref b), (1, .ref x0), (2, .ref (bm 0)), (3, .ref o), (4, .int (nI (3 * n)))] → W p l e room_1 s m #[Value.ref b] below meth c H locs (cells + 1 + 0) (slots + 6 + 0) (lw_Z below #[Value.ref b] s) (F0 m 229 ls []) := fun ls hl => by
    refine lv_goto (tgt := 1020) hx hb dL_law_229 (by decide) ?_
    exact KE _ _ ua uk m' ug H locs ls (by omega) (by omega) hxu f3 (lv_sub hl [2, 3, 4, 5, 6] rfl) hP hD hS
  refine lv_if_ne (tgt := 229) hx hb dL_law_214 (by decide) (fun _ => kend ls hl) (fun q0 => ?_)
  refine lv_aload_n hx hb dL_law_217 rfl (lv_at hl 5 rfl) ?_
  refine lv_iconst (v := (0 : Int32)) hx hb dL_law_218 (by decide) ?_
  refine va_lald hx hb hK hP (KW c5 ua uk).length 4 (TW_o c5 ua uk o ug _) rfl (inb_in (i := 0) (n := 1) rfl) dL_law_219 ?_
  refine lv_iload hx hb dL_law_220 (lv_at hl 0 rfl) ?_
  refine lv_i2l (v := rb.toInt64) hx hb dL_law_222 rfl ?_
  refine W.lcmp hx hb dL_law_223 ?_
  refine lv_if_eq (tgt := 229) hx hb dL_law_224 (by decide) (fun _ => kend ls hl) (fun q => absurd (lg_eq0 (f2 q0)) q)
set_option maxHeartbeats 8000000 in
set_option maxRecDepth 100000 in
theorem lw_put {Rel : Nat → KSt → MSt → Prop} {D : va_G} {c5 : Nat → ClassId} {sx : Nat → Nat} {b L x0 o n : Nat} {bm : Nat → Nat} {xs : Nat → Int32} {a : KAd} {k : KSt} {mm : MSt} {g : Nat → Int64} {H : Heap} {locs : List Loc} {cells slots : Nat} {ls : Array Slot} (F : lwF p l s m meth c D c5 sx b L xs) (KE : lwK p l e s m below meth c Rel D c5 b x0 o bm n) (hy_put : ∀ p : Int32, Agree Rel n k cdIOIS [exIO, exIS] (R_X2_put k p) (R_X3_put mm p)) (hn : n < 512) (h3 : 3 * n + 3 ≤ L) (hc1 : cells ≤ 37 + n) (hc2 : slots ≤ 361 + 6 * n) (hx0 : aO a 0 = x0) (hl : lv_has ls 9 [(0, .ref b), (1, .ref x0), (2, .ref (bm 0)), (3, .ref o), (4, .int (nI (3 * n)))]) (hP : va_P D vwCl (LW c5 a k o g ++ MW c5 bm mm) H) (hD : va_D (fun q => s.heap.size ≤ q) (LW c5 a k o g ++ MW c5 bm mm)) (hS : va_S (fun q => s.heap.size ≤ q) s.heap H locs) :
    W p l e room_1 s m #[Value.ref b] below meth c H locs cells slots (lw_Z below #[Value.ref b] s) (F0 m 232 ls []) := by
  obtain ⟨hx, hb, hml, hown, hts, hXs, hbl, hK, hX, hflags, hL⟩ := F
  have hA : ∀ q : Nat, s.heap.size ≤ q → (fun q : Nat => s.heap.size ≤ q) q := fun _ h => h
  have hbA : ¬ (fun q : Nat => s.heap.size ≤ q) b := Nat.not_le.mpr hbl
  have hi1 : nI (3 * n) + 1 = nI (3 * n + 1) := nI_add (3 * n) 1
  have hi2 : nI (3 * n) + 2 = nI (3 * n + 2) := nI_add (3 * n) 2
  obtain ⟨res, rb, m', e1, e2, hE, hm⟩ := hy_put (xs (3 * n + 1))
  refine lv_aload_n hx hb dL_law_232 rfl (lv_at hl 1 rfl) ?_
  refine lv_aload_n hx hb dL_law_233 rfl (lv_at hl 0 rfl) ?_
  refine lv_iload hx hb dL_law_234 (lv_at hl 4 rfl) ?_
  refine lv_iconst (v := (1 : Int32)) hx hb dL_law_236 (by decide) ?_
  refine lv_iadd hx hb dL_law_237 ?_
  rw [hi1]
  refine va_sld hx hb hXs hbl hbA hS (inb_in (lw_i hL (j := 1) (by omega))) dL_law_238 ?_
  rw [lw_cl (j := 1) (by omega)]
  refine lv_aload_n hx hb dL_law_239 rfl (lv_at hl 3 rfl) ?_
  refine wr_call (As := [.ref x0, .int (xs (3 * n + 1)), .ref o]) (rest := []) ⟨hx, hb, hml, hown, hts⟩ hP hK hD hS hA hX (hx0 ▸ c_L_put l D c5 a k o g sx hflags H.size (xs (3 * n + 1)) res e1 hE) gG_RL_76 hd_L_put ⟨Nat.le_of_ble_eq_true rfl, Nat.le_of_ble_eq_true rfl⟩ ⟨rfl, rfl⟩ hl.1 (Nat.le_of_ble_eq_true rfl) dL_law_240 ⟨show _ ≤ 669600 by omega, show _ ≤ 7087305 by omega⟩ rfl (fun x u H locs hq hP hD hS => ?_)
  obtain ⟨f1, f2, f3, f4⟩ := ag_rw hm hq
  obtain ⟨ua, uk, ug⟩ := u
  have hxu : aO ua 0 = x0 := by rw [← hx0]; exact congrFun f4 0
  refine lv_istore (i := 5) (lv' := [(5, .int x), (0, .ref b), (1, .ref x0), (2, .ref (bm 0)), (3, .ref o), (4, .int (nI (3 * n)))]) hx hb dL_law_243 hl (by decide) rfl (fun ls hl => ?_)
  refine lv_aload_n hx hb dL_law_245 rfl (lv_at hl 3 rfl) ?_
  refine lv_aload_n hx hb dL_law_246 rfl (lv_at hl 1 rfl) ?_
  refine lv_iload hx hb dL_law_247 (lv_at hl 5 rfl) ?_
  refine lv_iconst (v := (1 : Int32)) hx hb dL_law_249 (by decide) ?_
  refine lv_iadd hx hb dL_law_250 ?_
  rw [hi1]
  refine va_sld hx hb hXs hbl hbA hS (inb_in (lw_i hL (j := 1) (by omega))) dL_law_251 ?_
  rw [lw_cl (j := 1) (by omega)]
  refine fr_calli (wc := MW c5 bm mm) (X := LW c5 ua uk o ug) (Y := []) (rw_runV (As := [.int (xs (3 * n + 1))]) (rest := []) ⟨hx, hb, hml, hown, hts⟩ (fr_P (X := LW c5 ua uk o ug) (Y := []) (wN hP)) hK (fr_D (X := LW c5 ua uk o ug) (Y := []) (dN hD)) (c_X3_put l D c5 bm mm H.size (xs (3 * n + 1)) (rb, m') e2) gG_RL_78 (va_recv hK (fr_P (X := LW c5 ua uk o ug) (Y := []) (wN hP)) (ci := 3) (q0 := 0) rfl rfl) hd_X3_put ⟨Nat.le_of_ble_eq_true rfl, Nat.le_of_ble_eq_true rfl⟩ ⟨rfl, rfl⟩ hl.1 (Nat.le_of_ble_eq_true rfl) dL_law_252 ⟨show _ ≤ 669600 by omega, show _ ≤ 7087305 by omega⟩ rfl) (wN hP) (dN hD) hS hA (fun x3 u3 H locs hpost hP hD hS => ?_)
  obtain rfl : rb = x3 := hpost.1.symm
  obtain rfl : m' = u3 := hpost.2.symm
  have hP := wM hP
  have hD := dM hD
  refine lv_istore (i := 6) (lv' := [(6, .int rb), (5, .int x), (0, .ref b), (1, .ref x0), (2, .ref (bm 0)), (3, .ref o), (4, .int (nI (3 * n)))]) hx hb dL_law_255 hl (by decide) rfl (fun ls hl => ?_)
  refine lv_aload_n hx hb dL_law_257 rfl (lv_at hl 4 rfl) ?_
  refine ro_calli (ro_runV (As := []) (rest := []) ⟨hx, hb, hml, hown, hts⟩ (fr_P (X := LW c5 ua uk o ug) (Y := []) (wN hP)) hK (c_X3_thrown l D c5 bm m' (mF m' 0) rfl) gG_RL_69 (va_recv hK (fr_P (X := LW c5 ua uk o ug) (Y := []) (wN hP)) (ci := 3) (q0 := 0) rfl rfl) hd_X3_thrown ⟨Nat.le_of_ble_eq_true rfl, Nat.le_of_ble_eq_true rfl⟩ ⟨rfl, rfl⟩ hl.1 (Nat.le_of_ble_eq_true rfl) dL_law_258 ⟨show _ ≤ 669600 by omega, show _ ≤ 7087305 by omega⟩ rfl) ?_
  refine lv_iload hx hb dL_law_261 (lv_at hl 1 rfl) ?_
  refine lv_icmp_eq (tgt := 268) hx hb dL_law_263 (by decide) (fun _ => ?_) (fun q => absurd f1 q)
  refine lv_iload hx hb dL_law_268 (lv_at hl 1 rfl) ?_
  have kend : ∀ ls : Array Slot, lv_has ls 9 [(6, .int rb), (5, .int x), (0, .ref b), (1, .ref x0), (2, .ref (bm 0)), (3, .ref o), (4, .int (nI (3 * n)))] → W p l e room_1 s m #[Value.ref b] below meth c H locs (cells + 1 + 0) (slots + 6 + 0) (lw_Z below #[Value.ref b] s) (F0 m 285 ls []) := fun ls hl => by
    refine lv_goto (tgt := 1020) hx hb dL_law_285 (by decide) ?_
    exact KE _ _ ua uk m' ug H locs ls (by omega) (by omega) hxu f3 (lv_sub hl [2, 3, 4, 5, 6] rfl) hP hD hS
  refine lv_if_ne (tgt := 285) hx hb dL_law_270 (by decide) (fun _ => kend ls hl) (fun q0 => ?_)
  refine lv_aload_n hx hb dL_law_273 rfl (lv_at hl 5 rfl) ?_
  refine lv_iconst (v := (0 : Int32)) hx hb dL_law_274 (by decide) ?_
  refine va_lald hx hb hK hP (KW c5 ua uk).length 4 (TW_o c5 ua uk o ug _) rfl (inb_in (i := 0) (n := 1) rfl) dL_law_275 ?_
  refine lv_iload hx hb dL_law_276 (lv_at hl 0 rfl) ?_
  refine lv_i2l (v := rb.toInt64) hx hb dL_law_278 rfl ?_
  refine W.lcmp hx hb dL_law_279 ?_
  refine lv_if_eq (tgt := 285) hx hb dL_law_280 (by decide) (fun _ => kend ls hl) (fun q => absurd (lg_eq0 (f2 q0)) q)
set_option maxHeartbeats 8000000 in
set_option maxRecDepth 100000 in
theorem lw_take {Rel : Nat → KSt → MSt → Prop} {D : va_G} {c5 : Nat → ClassId} {sx : Nat → Nat} {b L x0 o n : Nat} {bm : Nat → Nat} {xs : Nat → Int32} {a : KAd} {k : KSt} {mm : MSt} {g : Nat → Int64} {H : Heap} {locs : List Loc} {cells slots : Nat} {ls : Array Slot} (F : lwF p l s m meth c D c5 sx b L xs) (KE : lwK p l e s m below meth c Rel D c5 b x0 o bm n) (hy_take : ∀ p : Int32, Agree Rel n k cdIOIA [exIO, exIA] (R_X2_take k p) (R_X3_take mm p)) (hn : n < 512) (h3 : 3 * n + 3 ≤ L) (hc1 : cells ≤ 37 + n) (hc2 : slots ≤ 361 + 6 * n) (hx0 : aO a 0 = x0) (hl : lv_has ls 9 [(0, .ref b), (1, .ref x0), (2, .ref (bm 0)), (3, .ref o), (4, .int (nI (3 * n)))]) (hP : va_P D vwCl (LW c5 a k o g ++ MW c5 bm mm) H) (hD : va_D (fun q => s.heap.size ≤ q) (LW c5 a k o g ++ MW c5 bm mm)) (hS : va_S (fun q => s.heap.size ≤ q) s.heap H locs) :
    W p l e room_1 s m #[Value.ref b] below meth c H locs cells slots (lw_Z below #[Value.ref b] s) (F0 m 288 ls []) := by
  obtain ⟨hx, hb, hml, hown, hts, hXs, hbl, hK, hX, hflags, hL⟩ := F
  have hA : ∀ q : Nat, s.heap.size ≤ q → (fun q : Nat => s.heap.size ≤ q) q := fun _ h => h
  have hbA : ¬ (fun q : Nat => s.heap.size ≤ q) b := Nat.not_le.mpr hbl
  have hi1 : nI (3 * n) + 1 = nI (3 * n + 1) := nI_add (3 * n) 1
  have hi2 : nI (3 * n) + 2 = nI (3 * n + 2) := nI_add (3 * n) 2
  obtain ⟨res, rb, m', e1, e2, hE, hm⟩ := hy_take (xs (3 * n + 1))
  refine lv_aload_n hx hb dL_law_288 rfl (lv_at hl 1 rfl) ?_
  refine lv_aload_n hx hb dL_law_289 rfl (lv_at hl 0 rfl) ?_
  refine lv_iload hx hb dL_law_290 (lv_at hl 4 rfl) ?_
  refine lv_iconst (v := (1 : Int32)) hx hb dL_law_292 (by decide) ?_
  refine lv_iadd hx hb dL_law_293 ?_
  rw [hi1]
  refine va_sld hx hb hXs hbl hbA hS (inb_in (lw_i hL (j := 1) (by omega))) dL_law_294 ?_
  rw [lw_cl (j := 1) (by omega)]
  refine lv_aload_n hx hb dL_law_295 rfl (lv_at hl 3 rfl) ?_
  refine wr_call (As := [.ref x0, .int (xs (3 * n + 1)), .ref o]) (rest := []) ⟨hx, hb, hml, hown, hts⟩ hP hK hD hS hA hX (hx0 ▸ c_L_take l D c5 a k o g sx hflags H.size (xs (3 * n + 1)) res e1 hE) gG_RL_79 hd_L_take ⟨Nat.le_of_ble_eq_true rfl, Nat.le_of_ble_eq_true rfl⟩ ⟨rfl, rfl⟩ hl.1 (Nat.le_of_ble_eq_true rfl) dL_law_296 ⟨show _ ≤ 669600 by omega, show _ ≤ 7087305 by omega⟩ rfl (fun x u H locs hq hP hD hS => ?_)
  obtain ⟨f1, f2, f3, f4⟩ := ag_rw hm hq
  obtain ⟨ua, uk, ug⟩ := u
  have hxu : aO ua 0 = x0 := by rw [← hx0]; exact congrFun f4 0
  refine lv_istore (i := 5) (lv' := [(5, .int x), (0, .ref b), (1, .ref x0), (2, .ref (bm 0)), (3, .ref o), (4, .int (nI (3 * n)))]) hx hb dL_law_299 hl (by decide) rfl (fun ls hl => ?_)
  refine lv_aload_n hx hb dL_law_301 rfl (lv_at hl 3 rfl) ?_
  refine lv_aload_n hx hb dL_law_302 rfl (lv_at hl 1 rfl) ?_
  refine lv_iload hx hb dL_law_303 (lv_at hl 5 rfl) ?_
  refine lv_iconst (v := (1 : Int32)) hx hb dL_law_305 (by decide) ?_
  refine lv_iadd hx hb dL_law_306 ?_
  rw [hi1]
  refine va_sld hx hb hXs hbl hbA hS (inb_in (lw_i hL (j := 1) (by omega))) dL_law_307 ?_
  rw [lw_cl (j := 1) (by omega)]
  refine fr_calli (wc := MW c5 bm mm) (X := LW c5 ua uk o ug) (Y := []) (rw_runV (As := [.int (xs (3 * n + 1))]) (rest := []) ⟨hx, hb, hml, hown, hts⟩ (fr_P (X := LW c5 ua uk o ug) (Y := []) (wN hP)) hK (fr_D (X := LW c5 ua uk o ug) (Y := []) (dN hD)) (c_X3_take l D c5 bm mm H.size (xs (3 * n + 1)) (rb, m') e2) gG_RL_81 (va_recv hK (fr_P (X := LW c5 ua uk o ug) (Y := []) (wN hP)) (ci := 3) (q0 := 0) rfl rfl) hd_X3_take ⟨Nat.le_of_ble_eq_true rfl, Nat.le_of_ble_eq_true rfl⟩ ⟨rfl, rfl⟩ hl.1 (Nat.le_of_ble_eq_true rfl) dL_law_308 ⟨show _ ≤ 669600 by omega, show _ ≤ 7087305 by omega⟩ rfl) (wN hP) (dN hD) hS hA (fun x3 u3 H locs hpost hP hD hS => ?_)
  obtain rfl : rb = x3 := hpost.1.symm
  obtain rfl : m' = u3 := hpost.2.symm
  have hP := wM hP
  have hD := dM hD
  refine lv_istore (i := 6) (lv' := [(6, .int rb), (5, .int x), (0, .ref b), (1, .ref x0), (2, .ref (bm 0)), (3, .ref o), (4, .int (nI (3 * n)))]) hx hb dL_law_311 hl (by decide) rfl (fun ls hl => ?_)
  refine lv_aload_n hx hb dL_law_313 rfl (lv_at hl 4 rfl) ?_
  refine ro_calli (ro_runV (As := []) (rest := []) ⟨hx, hb, hml, hown, hts⟩ (fr_P (X := LW c5 ua uk o ug) (Y := []) (wN hP)) hK (c_X3_thrown l D c5 bm m' (mF m' 0) rfl) gG_RL_69 (va_recv hK (fr_P (X := LW c5 ua uk o ug) (Y := []) (wN hP)) (ci := 3) (q0 := 0) rfl rfl) hd_X3_thrown ⟨Nat.le_of_ble_eq_true rfl, Nat.le_of_ble_eq_true rfl⟩ ⟨rfl, rfl⟩ hl.1 (Nat.le_of_ble_eq_true rfl) dL_law_314 ⟨show _ ≤ 669600 by omega, show _ ≤ 7087305 by omega⟩ rfl) ?_
  refine lv_iload hx hb dL_law_317 (lv_at hl 1 rfl) ?_
  refine lv_icmp_eq (tgt := 324) hx hb dL_law_319 (by decide) (fun _ => ?_) (fun q => absurd f1 q)
  refine lv_iload hx hb dL_law_324 (lv_at hl 1 rfl) ?_
  have kend : ∀ ls : Array Slot, lv_has ls 9 [(6, .int rb), (5, .int x), (0, .ref b), (1, .ref x0), (2, .ref (bm 0)), (3, .ref o), (4, .int (nI (3 * n)))] → W p l e room_1 s m #[Value.ref b] below meth c H locs (cells + 1 + 0) (slots + 6 + 0) (lw_Z below #[Value.ref b] s) (F0 m 341 ls []) := fun ls hl => by
    refine lv_goto (tgt := 1020) hx hb dL_law_341 (by decide) ?_
    exact KE _ _ ua uk m' ug H locs ls (by omega) (by omega) hxu f3 (lv_sub hl [2, 3, 4, 5, 6] rfl) hP hD hS
  refine lv_if_ne (tgt := 341) hx hb dL_law_326 (by decide) (fun _ => kend ls hl) (fun q0 => ?_)
  refine lv_aload_n hx hb dL_law_329 rfl (lv_at hl 5 rfl) ?_
  refine lv_iconst (v := (0 : Int32)) hx hb dL_law_330 (by decide) ?_
  refine va_lald hx hb hK hP (KW c5 ua uk).length 4 (TW_o c5 ua uk o ug _) rfl (inb_in (i := 0) (n := 1) rfl) dL_law_331 ?_
  refine lv_iload hx hb dL_law_332 (lv_at hl 0 rfl) ?_
  refine lv_i2l (v := rb.toInt64) hx hb dL_law_334 rfl ?_
  refine W.lcmp hx hb dL_law_335 ?_
  refine lv_if_eq (tgt := 341) hx hb dL_law_336 (by decide) (fun _ => kend ls hl) (fun q => absurd (lg_eq0 (f2 q0)) q)
set_option maxHeartbeats 8000000 in
set_option maxRecDepth 100000 in
theorem lw_reap {Rel : Nat → KSt → MSt → Prop} {D : va_G} {c5 : Nat → ClassId} {sx : Nat → Nat} {b L x0 o n : Nat} {bm : Nat → Nat} {xs : Nat → Int32} {a : KAd} {k : KSt} {mm : MSt} {g : Nat → Int64} {H : Heap} {locs : List Loc} {cells slots : Nat} {ls : Array Slot} (F : lwF p l s m meth c D c5 sx b L xs) (KE : lwK p l e s m below meth c Rel D c5 b x0 o bm n) (hy_reap : ∀ p : Int32, Agree Rel n k cdIA [exIA] (R_X2_reap k p) (R_X3_reap mm p)) (hn : n < 512) (h3 : 3 * n + 3 ≤ L) (hc1 : cells ≤ 37 + n) (hc2 : slots ≤ 361 + 6 * n) (hx0 : aO a 0 = x0) (hl : lv_has ls 9 [(0, .ref b), (1, .ref x0), (2, .ref (bm 0)), (3, .ref o), (4, .int (nI (3 * n)))]) (hP : va_P D vwCl (LW c5 a k o g ++ MW c5 bm mm) H) (hD : va_D (fun q => s.heap.size ≤ q) (LW c5 a k o g ++ MW c5 bm mm)) (hS : va_S (fun q => s.heap.size ≤ q) s.heap H locs) :
    W p l e room_1 s m #[Value.ref b] below meth c H locs cells slots (lw_Z below #[Value.ref b] s) (F0 m 344 ls []) := by
  obtain ⟨hx, hb, hml, hown, hts, hXs, hbl, hK, hX, hflags, hL⟩ := F
  have hA : ∀ q : Nat, s.heap.size ≤ q → (fun q : Nat => s.heap.size ≤ q) q := fun _ h => h
  have hbA : ¬ (fun q : Nat => s.heap.size ≤ q) b := Nat.not_le.mpr hbl
  have hi1 : nI (3 * n) + 1 = nI (3 * n + 1) := nI_add (3 * n) 1
  have hi2 : nI (3 * n) + 2 = nI (3 * n + 2) := nI_add (3 * n) 2
  obtain ⟨res, rb, m', e1, e2, hE, hm⟩ := hy_reap (xs (3 * n + 1))
  refine lv_aload_n hx hb dL_law_344 rfl (lv_at hl 1 rfl) ?_
  refine lv_aload_n hx hb dL_law_345 rfl (lv_at hl 0 rfl) ?_
  refine lv_iload hx hb dL_law_346 (lv_at hl 4 rfl) ?_
  refine lv_iconst (v := (1 : Int32)) hx hb dL_law_348 (by decide) ?_
  refine lv_iadd hx hb dL_law_349 ?_
  rw [hi1]
  refine va_sld hx hb hXs hbl hbA hS (inb_in (lw_i hL (j := 1) (by omega))) dL_law_350 ?_
  rw [lw_cl (j := 1) (by omega)]
  refine lv_aload_n hx hb dL_law_351 rfl (lv_at hl 3 rfl) ?_
  refine wr_call (As := [.ref x0, .int (xs (3 * n + 1)), .ref o]) (rest := []) ⟨hx, hb, hml, hown, hts⟩ hP hK hD hS hA hX (hx0 ▸ c_L_reap l D c5 a k o g sx hflags H.size (xs (3 * n + 1)) res e1 hE) gG_RL_82 hd_L_reap ⟨Nat.le_of_ble_eq_true rfl, Nat.le_of_ble_eq_true rfl⟩ ⟨rfl, rfl⟩ hl.1 (Nat.le_of_ble_eq_true rfl) dL_law_352 ⟨show _ ≤ 669600 by omega, show _ ≤ 7087305 by omega⟩ rfl (fun x u H locs hq hP hD hS => ?_)
  obtain ⟨f1, f2, f3, f4⟩ := ag_rw hm hq
  obtain ⟨ua, uk, ug⟩ := u
  have hxu : aO ua 0 = x0 := by rw [← hx0]; exact congrFun f4 0
  refine lv_istore (i := 5) (lv' := [(5, .int x), (0, .ref b), (1, .ref x0), (2, .ref (bm 0)), (3, .ref o), (4, .int (nI (3 * n)))]) hx hb dL_law_355 hl (by decide) rfl (fun ls hl => ?_)
  refine lv_aload_n hx hb dL_law_357 rfl (lv_at hl 3 rfl) ?_
  refine lv_aload_n hx hb dL_law_358 rfl (lv_at hl 1 rfl) ?_
  refine lv_iload hx hb dL_law_359 (lv_at hl 5 rfl) ?_
  refine lv_iconst (v := (1 : Int32)) hx hb dL_law_361 (by decide) ?_
  refine lv_iadd hx hb dL_law_362 ?_
  rw [hi1]
  refine va_sld hx hb hXs hbl hbA hS (inb_in (lw_i hL (j := 1) (by omega))) dL_law_363 ?_
  rw [lw_cl (j := 1) (by omega)]
  refine fr_calli (wc := MW c5 bm mm) (X := LW c5 ua uk o ug) (Y := []) (rw_runV (As := [.int (xs (3 * n + 1))]) (rest := []) ⟨hx, hb, hml, hown, hts⟩ (fr_P (X := LW c5 ua uk o ug) (Y := []) (wN hP)) hK (fr_D (X := LW c5 ua uk o ug) (Y := []) (dN hD)) (c_X3_reap l D c5 bm mm H.size (xs (3 * n + 1)) (rb, m') e2) gG_RL_84 (va_recv hK (fr_P (X := LW c5 ua uk o ug) (Y := []) (wN hP)) (ci := 3) (q0 := 0) rfl rfl) hd_X3_reap ⟨Nat.le_of_ble_eq_true rfl, Nat.le_of_ble_eq_true rfl⟩ ⟨rfl, rfl⟩ hl.1 (Nat.le_of_ble_eq_true rfl) dL_law_364 ⟨show _ ≤ 669600 by omega, show _ ≤ 7087305 by omega⟩ rfl) (wN hP) (dN hD) hS hA (fun x3 u3 H locs hpost hP hD hS => ?_)
  obtain rfl : rb = x3 := hpost.1.symm
  obtain rfl : m' = u3 := hpost.2.symm
  have hP := wM hP
  have hD := dM hD
  refine lv_istore (i := 6) (lv' := [(6, .int rb), (5, .int x), (0, .ref b), (1, .ref x0), (2, .ref (bm 0)), (3, .ref o), (4, .int (nI (3 * n)))]) hx hb dL_law_367 hl (by decide) rfl (fun ls hl => ?_)
  refine lv_aload_n hx hb dL_law_369 rfl (lv_at hl 4 rfl) ?_
  refine ro_calli (ro_runV (As := []) (rest := []) ⟨hx, hb, hml, hown, hts⟩ (fr_P (X := LW c5 ua uk o ug) (Y := []) (wN hP)) hK (c_X3_thrown l D c5 bm m' (mF m' 0) rfl) gG_RL_69 (va_recv hK (fr_P (X := LW c5 ua uk o ug) (Y := []) (wN hP)) (ci := 3) (q0 := 0) rfl rfl) hd_X3_thrown ⟨Nat.le_of_ble_eq_true rfl, Nat.le_of_ble_eq_true rfl⟩ ⟨rfl, rfl⟩ hl.1 (Nat.le_of_ble_eq_true rfl) dL_law_370 ⟨show _ ≤ 669600 by omega, show _ ≤ 7087305 by omega⟩ rfl) ?_
  refine lv_iload hx hb dL_law_373 (lv_at hl 1 rfl) ?_
  refine lv_icmp_eq (tgt := 380) hx hb dL_law_375 (by decide) (fun _ => ?_) (fun q => absurd f1 q)
  refine lv_iload hx hb dL_law_380 (lv_at hl 1 rfl) ?_
  have kend : ∀ ls : Array Slot, lv_has ls 9 [(6, .int rb), (5, .int x), (0, .ref b), (1, .ref x0), (2, .ref (bm 0)), (3, .ref o), (4, .int (nI (3 * n)))] → W p l e room_1 s m #[Value.ref b] below meth c H locs (cells + 1 + 0) (slots + 6 + 0) (lw_Z below #[Value.ref b] s) (F0 m 397 ls []) := fun ls hl => by
    refine lv_goto (tgt := 1020) hx hb dL_law_397 (by decide) ?_
    exact KE _ _ ua uk m' ug H locs ls (by omega) (by omega) hxu f3 (lv_sub hl [2, 3, 4, 5, 6] rfl) hP hD hS
  refine lv_if_ne (tgt := 397) hx hb dL_law_382 (by decide) (fun _ => kend ls hl) (fun q0 => ?_)
  refine lv_aload_n hx hb dL_law_385 rfl (lv_at hl 5 rfl) ?_
  refine lv_iconst (v := (0 : Int32)) hx hb dL_law_386 (by decide) ?_
  refine va_lald hx hb hK hP (KW c5 ua uk).length 4 (TW_o c5 ua uk o ug _) rfl (inb_in (i := 0) (n := 1) rfl) dL_law_387 ?_
  refine lv_iload hx hb dL_law_388 (lv_at hl 0 rfl) ?_
  refine lv_i2l (v := rb.toInt64) hx hb dL_law_390 rfl ?_
  refine W.lcmp hx hb dL_law_391 ?_
  refine lv_if_eq (tgt := 397) hx hb dL_law_392 (by decide) (fun _ => kend ls hl) (fun q => absurd (lg_eq0 (f2 q0)) q)
set_option maxHeartbeats 8000000 in
set_option maxRecDepth 100000 in
theorem lw_pack {Rel : Nat → KSt → MSt → Prop} {D : va_G} {c5 : Nat → ClassId} {sx : Nat → Nat} {b L x0 o n : Nat} {bm : Nat → Nat} {xs : Nat → Int32} {a : KAd} {k : KSt} {mm : MSt} {g : Nat → Int64} {H : Heap} {locs : List Loc} {cells slots : Nat} {ls : Array Slot} (F : lwF p l s m meth c D c5 sx b L xs) (KE : lwK p l e s m below meth c Rel D c5 b x0 o bm n) (hy_pack : ∀ p : Int32, Agree Rel n k cdIO [exIO] (R_X2_pack k p) (R_X3_pack mm p)) (hn : n < 512) (h3 : 3 * n + 3 ≤ L) (hc1 : cells ≤ 37 + n) (hc2 : slots ≤ 361 + 6 * n) (hx0 : aO a 0 = x0) (hl : lv_has ls 9 [(0, .ref b), (1, .ref x0), (2, .ref (bm 0)), (3, .ref o), (4, .int (nI (3 * n)))]) (hP : va_P D vwCl (LW c5 a k o g ++ MW c5 bm mm) H) (hD : va_D (fun q => s.heap.size ≤ q) (LW c5 a k o g ++ MW c5 bm mm)) (hS : va_S (fun q => s.heap.size ≤ q) s.heap H locs) :
    W p l e room_1 s m #[Value.ref b] below meth c H locs cells slots (lw_Z below #[Value.ref b] s) (F0 m 400 ls []) := by
  obtain ⟨hx, hb, hml, hown, hts, hXs, hbl, hK, hX, hflags, hL⟩ := F
  have hA : ∀ q : Nat, s.heap.size ≤ q → (fun q : Nat => s.heap.size ≤ q) q := fun _ h => h
  have hbA : ¬ (fun q : Nat => s.heap.size ≤ q) b := Nat.not_le.mpr hbl
  have hi1 : nI (3 * n) + 1 = nI (3 * n + 1) := nI_add (3 * n) 1
  have hi2 : nI (3 * n) + 2 = nI (3 * n + 2) := nI_add (3 * n) 2
  obtain ⟨res, rb, m', e1, e2, hE, hm⟩ := hy_pack (xs (3 * n + 1))
  refine lv_aload_n hx hb dL_law_400 rfl (lv_at hl 1 rfl) ?_
  refine lv_aload_n hx hb dL_law_401 rfl (lv_at hl 0 rfl) ?_
  refine lv_iload hx hb dL_law_402 (lv_at hl 4 rfl) ?_
  refine lv_iconst (v := (1 : Int32)) hx hb dL_law_404 (by decide) ?_
  refine lv_iadd hx hb dL_law_405 ?_
  rw [hi1]
  refine va_sld hx hb hXs hbl hbA hS (inb_in (lw_i hL (j := 1) (by omega))) dL_law_406 ?_
  rw [lw_cl (j := 1) (by omega)]
  refine lv_aload_n hx hb dL_law_407 rfl (lv_at hl 3 rfl) ?_
  refine wr_call (As := [.ref x0, .int (xs (3 * n + 1)), .ref o]) (rest := []) ⟨hx, hb, hml, hown, hts⟩ hP hK hD hS hA hX (hx0 ▸ c_L_pack l D c5 a k o g sx hflags H.size (xs (3 * n + 1)) res e1 hE) gG_RL_85 hd_L_pack ⟨Nat.le_of_ble_eq_true rfl, Nat.le_of_ble_eq_true rfl⟩ ⟨rfl, rfl⟩ hl.1 (Nat.le_of_ble_eq_true rfl) dL_law_408 ⟨show _ ≤ 669600 by omega, show _ ≤ 7087305 by omega⟩ rfl (fun x u H locs hq hP hD hS => ?_)
  obtain ⟨f1, f2, f3, f4⟩ := ag_rw hm hq
  obtain ⟨ua, uk, ug⟩ := u
  have hxu : aO ua 0 = x0 := by rw [← hx0]; exact congrFun f4 0
  refine lv_istore (i := 5) (lv' := [(5, .int x), (0, .ref b), (1, .ref x0), (2, .ref (bm 0)), (3, .ref o), (4, .int (nI (3 * n)))]) hx hb dL_law_411 hl (by decide) rfl (fun ls hl => ?_)
  refine lv_aload_n hx hb dL_law_413 rfl (lv_at hl 3 rfl) ?_
  refine lv_aload_n hx hb dL_law_414 rfl (lv_at hl 1 rfl) ?_
  refine lv_iload hx hb dL_law_415 (lv_at hl 5 rfl) ?_
  refine lv_iconst (v := (1 : Int32)) hx hb dL_law_417 (by decide) ?_
  refine lv_iadd hx hb dL_law_418 ?_
  rw [hi1]
  refine va_sld hx hb hXs hbl hbA hS (inb_in (lw_i hL (j := 1) (by omega))) dL_law_419 ?_
  rw [lw_cl (j := 1) (by omega)]
  refine fr_calli (wc := MW c5 bm mm) (X := LW c5 ua uk o ug) (Y := []) (rw_runV (As := [.int (xs (3 * n + 1))]) (rest := []) ⟨hx, hb, hml, hown, hts⟩ (fr_P (X := LW c5 ua uk o ug) (Y := []) (wN hP)) hK (fr_D (X := LW c5 ua uk o ug) (Y := []) (dN hD)) (c_X3_pack l D c5 bm mm H.size (xs (3 * n + 1)) (rb, m') e2) gG_RL_87 (va_recv hK (fr_P (X := LW c5 ua uk o ug) (Y := []) (wN hP)) (ci := 3) (q0 := 0) rfl rfl) hd_X3_pack ⟨Nat.le_of_ble_eq_true rfl, Nat.le_of_ble_eq_true rfl⟩ ⟨rfl, rfl⟩ hl.1 (Nat.le_of_ble_eq_true rfl) dL_law_420 ⟨show _ ≤ 669600 by omega, show _ ≤ 7087305 by omega⟩ rfl) (wN hP) (dN hD) hS hA (fun x3 u3 H locs hpost hP hD hS => ?_)
  obtain rfl : rb = x3 := hpost.1.symm
  obtain rfl : m' = u3 := hpost.2.symm
  have hP := wM hP
  have hD := dM hD
  refine lv_istore (i := 6) (lv' := [(6, .int rb), (5, .int x), (0, .ref b), (1, .ref x0), (2, .ref (bm 0)), (3, .ref o), (4, .int (nI (3 * n)))]) hx hb dL_law_423 hl (by decide) rfl (fun ls hl => ?_)
  refine lv_aload_n hx hb dL_law_425 rfl (lv_at hl 4 rfl) ?_
  refine ro_calli (ro_runV (As := []) (rest := []) ⟨hx, hb, hml, hown, hts⟩ (fr_P (X := LW c5 ua uk o ug) (Y := []) (wN hP)) hK (c_X3_thrown l D c5 bm m' (mF m' 0) rfl) gG_RL_69 (va_recv hK (fr_P (X := LW c5 ua uk o ug) (Y := []) (wN hP)) (ci := 3) (q0 := 0) rfl rfl) hd_X3_thrown ⟨Nat.le_of_ble_eq_true rfl, Nat.le_of_ble_eq_true rfl⟩ ⟨rfl, rfl⟩ hl.1 (Nat.le_of_ble_eq_true rfl) dL_law_426 ⟨show _ ≤ 669600 by omega, show _ ≤ 7087305 by omega⟩ rfl) ?_
  refine lv_iload hx hb dL_law_429 (lv_at hl 1 rfl) ?_
  refine lv_icmp_eq (tgt := 436) hx hb dL_law_431 (by decide) (fun _ => ?_) (fun q => absurd f1 q)
  refine lv_iload hx hb dL_law_436 (lv_at hl 1 rfl) ?_
  have kend : ∀ ls : Array Slot, lv_has ls 9 [(6, .int rb), (5, .int x), (0, .ref b), (1, .ref x0), (2, .ref (bm 0)), (3, .ref o), (4, .int (nI (3 * n)))] → W p l e room_1 s m #[Value.ref b] below meth c H locs (cells + 1 + 0) (slots + 6 + 0) (lw_Z below #[Value.ref b] s) (F0 m 453 ls []) := fun ls hl => by
    refine lv_goto (tgt := 1020) hx hb dL_law_453 (by decide) ?_
    exact KE _ _ ua uk m' ug H locs ls (by omega) (by omega) hxu f3 (lv_sub hl [2, 3, 4, 5, 6] rfl) hP hD hS
  refine lv_if_ne (tgt := 453) hx hb dL_law_438 (by decide) (fun _ => kend ls hl) (fun q0 => ?_)
  refine lv_aload_n hx hb dL_law_441 rfl (lv_at hl 5 rfl) ?_
  refine lv_iconst (v := (0 : Int32)) hx hb dL_law_442 (by decide) ?_
  refine va_lald hx hb hK hP (KW c5 ua uk).length 4 (TW_o c5 ua uk o ug _) rfl (inb_in (i := 0) (n := 1) rfl) dL_law_443 ?_
  refine lv_iload hx hb dL_law_444 (lv_at hl 0 rfl) ?_
  refine lv_i2l (v := rb.toInt64) hx hb dL_law_446 rfl ?_
  refine W.lcmp hx hb dL_law_447 ?_
  refine lv_if_eq (tgt := 453) hx hb dL_law_448 (by decide) (fun _ => kend ls hl) (fun q => absurd (lg_eq0 (f2 q0)) q)
set_option maxHeartbeats 8000000 in
set_option maxRecDepth 100000 in
theorem lw_shelf {Rel : Nat → KSt → MSt → Prop} {D : va_G} {c5 : Nat → ClassId} {sx : Nat → Nat} {b L x0 o n : Nat} {bm : Nat → Nat} {xs : Nat → Int32} {a : KAd} {k : KSt} {mm : MSt} {g : Nat → Int64} {H : Heap} {locs : List Loc} {cells slots : Nat} {ls : Array Slot} (F : lwF p l s m meth c D c5 sx b L xs) (KE : lwK p l e s m below meth c Rel D c5 b x0 o bm n) (hy_shelf : ∀ p q : Int32, AgreeR Rel n k cdIO [exIO] (R_X2_shelf k p q) (R_X3_shelf mm p q)) (hn : n < 512) (h3 : 3 * n + 3 ≤ L) (hc1 : cells ≤ 37 + n) (hc2 : slots ≤ 361 + 6 * n) (hx0 : aO a 0 = x0) (hl : lv_has ls 9 [(0, .ref b), (1, .ref x0), (2, .ref (bm 0)), (3, .ref o), (4, .int (nI (3 * n)))]) (hP : va_P D vwCl (LW c5 a k o g ++ MW c5 bm mm) H) (hD : va_D (fun q => s.heap.size ≤ q) (LW c5 a k o g ++ MW c5 bm mm)) (hS : va_S (fun q => s.heap.size ≤ q) s.heap H locs) :
    W p l e room_1 s m #[Value.ref b] below meth c H locs cells slots (lw_Z below #[Value.ref b] s) (F0 m 456 ls []) := by
  obtain ⟨hx, hb, hml, hown, hts, hXs, hbl, hK, hX, hflags, hL⟩ := F
  have hA : ∀ q : Nat, s.heap.size ≤ q → (fun q : Nat => s.heap.size ≤ q) q := fun _ h => h
  have hbA : ¬ (fun q : Nat => s.heap.size ≤ q) b := Nat.not_le.mpr hbl
  have hi1 : nI (3 * n) + 1 = nI (3 * n + 1) := nI_add (3 * n) 1
  have hi2 : nI (3 * n) + 2 = nI (3 * n + 2) := nI_add (3 * n) 2
  obtain ⟨res, rb, m', e1, e2, hE, hm⟩ := hy_shelf (xs (3 * n + 1)) (xs (3 * n + 2))
  refine lv_aload_n hx hb dL_law_456 rfl (lv_at hl 1 rfl) ?_
  refine lv_aload_n hx hb dL_law_457 rfl (lv_at hl 0 rfl) ?_
  refine lv_iload hx hb dL_law_458 (lv_at hl 4 rfl) ?_
  refine lv_iconst (v := (1 : Int32)) hx hb dL_law_460 (by decide) ?_
  refine lv_iadd hx hb dL_law_461 ?_
  rw [hi1]
  refine va_sld hx hb hXs hbl hbA hS (inb_in (lw_i hL (j := 1) (by omega))) dL_law_462 ?_
  rw [lw_cl (j := 1) (by omega)]
  refine lv_aload_n hx hb dL_law_463 rfl (lv_at hl 0 rfl) ?_
  refine lv_iload hx hb dL_law_464 (lv_at hl 4 rfl) ?_
  refine lv_iconst (v := (2 : Int32)) hx hb dL_law_466 (by decide) ?_
  refine lv_iadd hx hb dL_law_467 ?_
  rw [hi2]
  refine va_sld hx hb hXs hbl hbA hS (inb_in (lw_i hL (j := 2) (by omega))) dL_law_468 ?_
  rw [lw_cl (j := 2) (by omega)]
  refine lv_aload_n hx hb dL_law_469 rfl (lv_at hl 3 rfl) ?_
  refine wr_call (As := [.ref x0, .int (xs (3 * n + 1)), .int (xs (3 * n + 2)), .ref o]) (rest := []) ⟨hx, hb, hml, hown, hts⟩ hP hK hD hS hA hX (hx0 ▸ c_L_shelf l D c5 a k o g sx hflags H.size (xs (3 * n + 1)) (xs (3 * n + 2)) res e1 hE) gG_RL_88 hd_L_shelf ⟨Nat.le_of_ble_eq_true rfl, Nat.le_of_ble_eq_true rfl⟩ ⟨rfl, rfl⟩ hl.1 (Nat.le_of_ble_eq_true rfl) dL_law_470 ⟨show _ ≤ 669600 by omega, show _ ≤ 7087305 by omega⟩ rfl (fun x u H locs hq hP hD hS => ?_)
  obtain ⟨f1, f2, f3, f4⟩ := ag_ro hm hq
  obtain ⟨ua, uk, ug⟩ := u
  have hxu : aO ua 0 = x0 := by rw [← hx0]; exact congrFun f4 0
  refine lv_istore (i := 5) (lv' := [(5, .int x), (0, .ref b), (1, .ref x0), (2, .ref (bm 0)), (3, .ref o), (4, .int (nI (3 * n)))]) hx hb dL_law_473 hl (by decide) rfl (fun ls hl => ?_)
  refine lv_aload_n hx hb dL_law_475 rfl (lv_at hl 3 rfl) ?_
  refine lv_aload_n hx hb dL_law_476 rfl (lv_at hl 1 rfl) ?_
  refine lv_iload hx hb dL_law_477 (lv_at hl 5 rfl) ?_
  refine lv_iconst (v := (1 : Int32)) hx hb dL_law_479 (by decide) ?_
  refine lv_iadd hx hb dL_law_480 ?_
  rw [hi1]
  refine va_sld hx hb hXs hbl hbA hS (inb_in (lw_i hL (j := 1) (by omega))) dL_law_481 ?_
  rw [lw_cl (j := 1) (by omega)]
  refine lv_aload_n hx hb dL_law_482 rfl (lv_at hl 1 rfl) ?_
  refine lv_iload hx hb dL_law_483 (lv_at hl 5 rfl) ?_
  refine lv_iconst (v := (2 : Int32)) hx hb dL_law_485 (by decide) ?_
  refine lv_iadd hx hb dL_law_486 ?_
  rw [hi2]
  refine va_sld hx hb hXs hbl hbA hS (inb_in (lw_i hL (j := 2) (by omega))) dL_law_487 ?_
  rw [lw_cl (j := 2) (by omega)]
  refine fr_calli (wc := MW c5 bm mm) (X := LW c5 ua uk o ug) (Y := []) (rw_runV (As := [.int (xs (3 * n + 1)), .int (xs (3 * n + 2))]) (rest := []) ⟨hx, hb, hml, hown, hts⟩ (fr_P (X := LW c5 ua uk o ug) (Y := []) (wN hP)) hK (fr_D (X := LW c5 ua uk o ug) (Y := []) (dN hD)) (c_X3_shelf l D c5 bm mm H.size (xs (3 * n + 1)) (xs (3 * n + 2)) (rb, m') e2) gG_RL_91 (va_recv hK (fr_P (X := LW c5 ua uk o ug) (Y := []) (wN hP)) (ci := 3) (q0 := 0) rfl rfl) hd_X3_shelf ⟨Nat.le_of_ble_eq_true rfl, Nat.le_of_ble_eq_true rfl⟩ ⟨rfl, rfl⟩ hl.1 (Nat.le_of_ble_eq_true rfl) dL_law_488 ⟨show _ ≤ 669600 by omega, show _ ≤ 7087305 by omega⟩ rfl) (wN hP) (dN hD) hS hA (fun x3 u3 H locs hpost hP hD hS => ?_)
  obtain rfl : rb = x3 := hpost.1.symm
  obtain rfl : m' = u3 := hpost.2.symm
  have hP := wM hP
  have hD := dM hD
  refine lv_istore (i := 6) (lv' := [(6, .int rb), (5, .int x), (0, .ref b), (1, .ref x0), (2, .ref (bm 0)), (3, .ref o), (4, .int (nI (3 * n)))]) hx hb dL_law_491 hl (by decide) rfl (fun ls hl => ?_)
  refine lv_aload_n hx hb dL_law_493 rfl (lv_at hl 4 rfl) ?_
  refine ro_calli (ro_runV (As := []) (rest := []) ⟨hx, hb, hml, hown, hts⟩ (fr_P (X := LW c5 ua uk o ug) (Y := []) (wN hP)) hK (c_X3_thrown l D c5 bm m' (mF m' 0) rfl) gG_RL_69 (va_recv hK (fr_P (X := LW c5 ua uk o ug) (Y := []) (wN hP)) (ci := 3) (q0 := 0) rfl rfl) hd_X3_thrown ⟨Nat.le_of_ble_eq_true rfl, Nat.le_of_ble_eq_true rfl⟩ ⟨rfl, rfl⟩ hl.1 (Nat.le_of_ble_eq_true rfl) dL_law_494 ⟨show _ ≤ 669600 by omega, show _ ≤ 7087305 by omega⟩ rfl) ?_
  refine lv_iload hx hb dL_law_497 (lv_at hl 1 rfl) ?_
  refine lv_icmp_eq (tgt := 504) hx hb dL_law_499 (by decide) (fun _ => ?_) (fun q => absurd f1 q)
  refine lv_iload hx hb dL_law_504 (lv_at hl 1 rfl) ?_
  have kend : ∀ ls : Array Slot, lv_has ls 9 [(6, .int rb), (5, .int x), (0, .ref b), (1, .ref x0), (2, .ref (bm 0)), (3, .ref o), (4, .int (nI (3 * n)))] → W p l e room_1 s m #[Value.ref b] below meth c H locs (cells + 1 + 0) (slots + 6 + 0) (lw_Z below #[Value.ref b] s) (F0 m 521 ls []) := fun ls hl => by
    refine lv_goto (tgt := 1020) hx hb dL_law_521 (by decide) ?_
    exact KE _ _ ua uk m' ug H locs ls (by omega) (by omega) hxu f3 (lv_sub hl [2, 3, 4, 5, 6] rfl) hP hD hS
  refine lv_if_ne (tgt := 521) hx hb dL_law_506 (by decide) (fun _ => kend ls hl) (fun q0 => ?_)
  refine lv_aload_n hx hb dL_law_509 rfl (lv_at hl 5 rfl) ?_
  refine lv_iconst (v := (0 : Int32)) hx hb dL_law_510 (by decide) ?_
  refine va_lald hx hb hK hP (KW c5 ua uk).length 4 (TW_o c5 ua uk o ug _) rfl (inb_in (i := 0) (n := 1) rfl) dL_law_511 ?_
  refine lv_iload hx hb dL_law_512 (lv_at hl 0 rfl) ?_
  refine lv_i2l (v := rb.toInt64) hx hb dL_law_514 rfl ?_
  refine W.lcmp hx hb dL_law_515 ?_
  refine lv_if_eq (tgt := 521) hx hb dL_law_516 (by decide) (fun _ => kend ls hl) (fun q => absurd (lg_eq0 (f2 q0)) q)
set_option maxHeartbeats 8000000 in
set_option maxRecDepth 100000 in
theorem lw_about {Rel : Nat → KSt → MSt → Prop} {D : va_G} {c5 : Nat → ClassId} {sx : Nat → Nat} {b L x0 o n : Nat} {bm : Nat → Nat} {xs : Nat → Int32} {a : KAd} {k : KSt} {mm : MSt} {g : Nat → Int64} {H : Heap} {locs : List Loc} {cells slots : Nat} {ls : Array Slot} (F : lwF p l s m meth c D c5 sx b L xs) (KE : lwK p l e s m below meth c Rel D c5 b x0 o bm n) (hy_about : ∀ p q : Int32, AgreeR Rel n k cdIO [exIO] (R_X2_about k p q) (R_X3_about mm p q)) (hn : n < 512) (h3 : 3 * n + 3 ≤ L) (hc1 : cells ≤ 37 + n) (hc2 : slots ≤ 361 + 6 * n) (hx0 : aO a 0 = x0) (hl : lv_has ls 9 [(0, .ref b), (1, .ref x0), (2, .ref (bm 0)), (3, .ref o), (4, .int (nI (3 * n)))]) (hP : va_P D vwCl (LW c5 a k o g ++ MW c5 bm mm) H) (hD : va_D (fun q => s.heap.size ≤ q) (LW c5 a k o g ++ MW c5 bm mm)) (hS : va_S (fun q => s.heap.size ≤ q) s.heap H locs) :
    W p l e room_1 s m #[Value.ref b] below meth c H locs cells slots (lw_Z below #[Value.ref b] s) (F0 m 524 ls []) := by
  obtain ⟨hx, hb, hml, hown, hts, hXs, hbl, hK, hX, hflags, hL⟩ := F
  have hA : ∀ q : Nat, s.heap.size ≤ q → (fun q : Nat => s.heap.size ≤ q) q := fun _ h => h
  have hbA : ¬ (fun q : Nat => s.heap.size ≤ q) b := Nat.not_le.mpr hbl
  have hi1 : nI (3 * n) + 1 = nI (3 * n + 1) := nI_add (3 * n) 1
  have hi2 : nI (3 * n) + 2 = nI (3 * n + 2) := nI_add (3 * n) 2
  obtain ⟨res, rb, m', e1, e2, hE, hm⟩ := hy_about (xs (3 * n + 1)) (xs (3 * n + 2))
  refine lv_aload_n hx hb dL_law_524 rfl (lv_at hl 1 rfl) ?_
  refine lv_aload_n hx hb dL_law_525 rfl (lv_at hl 0 rfl) ?_
  refine lv_iload hx hb dL_law_526 (lv_at hl 4 rfl) ?_
  refine lv_iconst (v := (1 : Int32)) hx hb dL_law_528 (by decide) ?_
  refine lv_iadd hx hb dL_law_529 ?_
  rw [hi1]
  refine va_sld hx hb hXs hbl hbA hS (inb_in (lw_i hL (j := 1) (by omega))) dL_law_530 ?_
  rw [lw_cl (j := 1) (by omega)]
  refine lv_aload_n hx hb dL_law_531 rfl (lv_at hl 0 rfl) ?_
  refine lv_iload hx hb dL_law_532 (lv_at hl 4 rfl) ?_
  refine lv_iconst (v := (2 : Int32)) hx hb dL_law_534 (by decide) ?_
  refine lv_iadd hx hb dL_law_535 ?_
  rw [hi2]
  refine va_sld hx hb hXs hbl hbA hS (inb_in (lw_i hL (j := 2) (by omega))) dL_law_536 ?_
  rw [lw_cl (j := 2) (by omega)]
  refine lv_aload_n hx hb dL_law_537 rfl (lv_at hl 3 rfl) ?_
  refine wr_call (As := [.ref x0, .int (xs (3 * n + 1)), .int (xs (3 * n + 2)), .ref o]) (rest := []) ⟨hx, hb, hml, hown, hts⟩ hP hK hD hS hA hX (hx0 ▸ c_L_about l D c5 a k o g sx hflags H.size (xs (3 * n + 1)) (xs (3 * n + 2)) res e1 hE) gG_RL_92 hd_L_about ⟨Nat.le_of_ble_eq_true rfl, Nat.le_of_ble_eq_true rfl⟩ ⟨rfl, rfl⟩ hl.1 (Nat.le_of_ble_eq_true rfl) dL_law_538 ⟨show _ ≤ 669600 by omega, show _ ≤ 7087305 by omega⟩ rfl (fun x u H locs hq hP hD hS => ?_)
  obtain ⟨f1, f2, f3, f4⟩ := ag_ro hm hq
  obtain ⟨ua, uk, ug⟩ := u
  have hxu : aO ua 0 = x0 := by rw [← hx0]; exact congrFun f4 0
  refine lv_istore (i := 5) (lv' := [(5, .int x), (0, .ref b), (1, .ref x0), (2, .ref (bm 0)), (3, .ref o), (4, .int (nI (3 * n)))]) hx hb dL_law_541 hl (by decide) rfl (fun ls hl => ?_)
  refine lv_aload_n hx hb dL_law_543 rfl (lv_at hl 3 rfl) ?_
  refine lv_aload_n hx hb dL_law_544 rfl (lv_at hl 1 rfl) ?_
  refine lv_iload hx hb dL_law_545 (lv_at hl 5 rfl) ?_
  refine lv_iconst (v := (1 : Int32)) hx hb dL_law_547 (by decide) ?_
  refine lv_iadd hx hb dL_law_548 ?_
  rw [hi1]
  refine va_sld hx hb hXs hbl hbA hS (inb_in (lw_i hL (j := 1) (by omega))) dL_law_549 ?_
  rw [lw_cl (j := 1) (by omega)]
  refine lv_aload_n hx hb dL_law_550 rfl (lv_at hl 1 rfl) ?_
  refine lv_iload hx hb dL_law_551 (lv_at hl 5 rfl) ?_
  refine lv_iconst (v := (2 : Int32)) hx hb dL_law_553 (by decide) ?_
  refine lv_iadd hx hb dL_law_554 ?_
  rw [hi2]
  refine va_sld hx hb hXs hbl hbA hS (inb_in (lw_i hL (j := 2) (by omega))) dL_law_555 ?_
  rw [lw_cl (j := 2) (by omega)]
  refine fr_calli (wc := MW c5 bm mm) (X := LW c5 ua uk o ug) (Y := []) (rw_runV (As := [.int (xs (3 * n + 1)), .int (xs (3 * n + 2))]) (rest := []) ⟨hx, hb, hml, hown, hts⟩ (fr_P (X := LW c5 ua uk o ug) (Y := []) (wN hP)) hK (fr_D (X := LW c5 ua uk o ug) (Y := []) (dN hD)) (c_X3_about l D c5 bm mm H.size (xs (3 * n + 1)) (xs (3 * n + 2)) (rb, m') e2) gG_RL_94 (va_recv hK (fr_P (X := LW c5 ua uk o ug) (Y := []) (wN hP)) (ci := 3) (q0 := 0) rfl rfl) hd_X3_about ⟨Nat.le_of_ble_eq_true rfl, Nat.le_of_ble_eq_true rfl⟩ ⟨rfl, rfl⟩ hl.1 (Nat.le_of_ble_eq_true rfl) dL_law_556 ⟨show _ ≤ 669600 by omega, show _ ≤ 7087305 by omega⟩ rfl) (wN hP) (dN hD) hS hA (fun x3 u3 H locs hpost hP hD hS => ?_)
  obtain rfl : rb = x3 := hpost.1.symm
  obtain rfl : m' = u3 := hpost.2.symm
  have hP := wM hP
  have hD := dM hD
  refine lv_istore (i := 6) (lv' := [(6, .int rb), (5, .int x), (0, .ref b), (1, .ref x0), (2, .ref (bm 0)), (3, .ref o), (4, .int (nI (3 * n)))]) hx hb dL_law_559 hl (by decide) rfl (fun ls hl => ?_)
  refine lv_aload_n hx hb dL_law_561 rfl (lv_at hl 4 rfl) ?_
  refine ro_calli (ro_runV (As := []) (rest := []) ⟨hx, hb, hml, hown, hts⟩ (fr_P (X := LW c5 ua uk o ug) (Y := []) (wN hP)) hK (c_X3_thrown l D c5 bm m' (mF m' 0) rfl) gG_RL_69 (va_recv hK (fr_P (X := LW c5 ua uk o ug) (Y := []) (wN hP)) (ci := 3) (q0 := 0) rfl rfl) hd_X3_thrown ⟨Nat.le_of_ble_eq_true rfl, Nat.le_of_ble_eq_true rfl⟩ ⟨rfl, rfl⟩ hl.1 (Nat.le_of_ble_eq_true rfl) dL_law_562 ⟨show _ ≤ 669600 by omega, show _ ≤ 7087305 by omega⟩ rfl) ?_
  refine lv_iload hx hb dL_law_565 (lv_at hl 1 rfl) ?_
  refine lv_icmp_eq (tgt := 572) hx hb dL_law_567 (by decide) (fun _ => ?_) (fun q => absurd f1 q)
  refine lv_iload hx hb dL_law_572 (lv_at hl 1 rfl) ?_
  have kend : ∀ ls : Array Slot, lv_has ls 9 [(6, .int rb), (5, .int x), (0, .ref b), (1, .ref x0), (2, .ref (bm 0)), (3, .ref o), (4, .int (nI (3 * n)))] → W p l e room_1 s m #[Value.ref b] below meth c H locs (cells + 1 + 0) (slots + 6 + 0) (lw_Z below #[Value.ref b] s) (F0 m 589 ls []) := fun ls hl => by
    refine lv_goto (tgt := 1020) hx hb dL_law_589 (by decide) ?_
    exact KE _ _ ua uk m' ug H locs ls (by omega) (by omega) hxu f3 (lv_sub hl [2, 3, 4, 5, 6] rfl) hP hD hS
  refine lv_if_ne (tgt := 589) hx hb dL_law_574 (by decide) (fun _ => kend ls hl) (fun q0 => ?_)
  refine lv_aload_n hx hb dL_law_577 rfl (lv_at hl 5 rfl) ?_
  refine lv_iconst (v := (0 : Int32)) hx hb dL_law_578 (by decide) ?_
  refine va_lald hx hb hK hP (KW c5 ua uk).length 4 (TW_o c5 ua uk o ug _) rfl (inb_in (i := 0) (n := 1) rfl) dL_law_579 ?_
  refine lv_iload hx hb dL_law_580 (lv_at hl 0 rfl) ?_
  refine lv_i2l (v := rb.toInt64) hx hb dL_law_582 rfl ?_
  refine W.lcmp hx hb dL_law_583 ?_
  refine lv_if_eq (tgt := 589) hx hb dL_law_584 (by decide) (fun _ => kend ls hl) (fun q => absurd (lg_eq0 (f2 q0)) q)
set_option maxHeartbeats 8000000 in
set_option maxRecDepth 100000 in
theorem lw_place {Rel : Nat → KSt → MSt → Prop} {D : va_G} {c5 : Nat → ClassId} {sx : Nat → Nat} {b L x0 o n : Nat} {bm : Nat → Nat} {xs : Nat → Int32} {a : KAd} {k : KSt} {mm : MSt} {g : Nat → Int64} {H : Heap} {locs : List Loc} {cells slots : Nat} {ls : Array Slot} (F : lwF p l s m meth c D c5 sx b L xs) (KE : lwK p l e s m below meth c Rel D c5 b x0 o bm n) (hy_place : ∀ p q : Int32, AgreeR Rel n k cdIO [exIO] (R_X2_place k p q) (R_X3_place mm p q)) (hn : n < 512) (h3 : 3 * n + 3 ≤ L) (hc1 : cells ≤ 37 + n) (hc2 : slots ≤ 361 + 6 * n) (hx0 : aO a 0 = x0) (hl : lv_has ls 9 [(0, .ref b), (1, .ref x0), (2, .ref (bm 0)), (3, .ref o), (4, .int (nI (3 * n)))]) (hP : va_P D vwCl (LW c5 a k o g ++ MW c5 bm mm) H) (hD : va_D (fun q => s.heap.size ≤ q) (LW c5 a k o g ++ MW c5 bm mm)) (hS : va_S (fun q => s.heap.size ≤ q) s.heap H locs) :
    W p l e room_1 s m #[Value.ref b] below meth c H locs cells slots (lw_Z below #[Value.ref b] s) (F0 m 592 ls []) := by
  obtain ⟨hx, hb, hml, hown, hts, hXs, hbl, hK, hX, hflags, hL⟩ := F
  have hA : ∀ q : Nat, s.heap.size ≤ q → (fun q : Nat => s.heap.size ≤ q) q := fun _ h => h
  have hbA : ¬ (fun q : Nat => s.heap.size ≤ q) b := Nat.not_le.mpr hbl
  have hi1 : nI (3 * n) + 1 = nI (3 * n + 1) := nI_add (3 * n) 1
  have hi2 : nI (3 * n) + 2 = nI (3 * n + 2) := nI_add (3 * n) 2
  obtain ⟨res, rb, m', e1, e2, hE, hm⟩ := hy_place (xs (3 * n + 1)) (xs (3 * n + 2))
  refine lv_aload_n hx hb dL_law_592 rfl (lv_at hl 1 rfl) ?_
  refine lv_aload_n hx hb dL_law_593 rfl (lv_at hl 0 rfl) ?_
  refine lv_iload hx hb dL_law_594 (lv_at hl 4 rfl) ?_
  refine lv_iconst (v := (1 : Int32)) hx hb dL_law_596 (by decide) ?_
  refine lv_iadd hx hb dL_law_597 ?_
  rw [hi1]
  refine va_sld hx hb hXs hbl hbA hS (inb_in (lw_i hL (j := 1) (by omega))) dL_law_598 ?_
  rw [lw_cl (j := 1) (by omega)]
  refine lv_aload_n hx hb dL_law_599 rfl (lv_at hl 0 rfl) ?_
  refine lv_iload hx hb dL_law_600 (lv_at hl 4 rfl) ?_
  refine lv_iconst (v := (2 : Int32)) hx hb dL_law_602 (by decide) ?_
  refine lv_iadd hx hb dL_law_603 ?_
  rw [hi2]
  refine va_sld hx hb hXs hbl hbA hS (inb_in (lw_i hL (j := 2) (by omega))) dL_law_604 ?_
  rw [lw_cl (j := 2) (by omega)]
  refine lv_aload_n hx hb dL_law_605 rfl (lv_at hl 3 rfl) ?_
  refine wr_call (As := [.ref x0, .int (xs (3 * n + 1)), .int (xs (3 * n + 2)), .ref o]) (rest := []) ⟨hx, hb, hml, hown, hts⟩ hP hK hD hS hA hX (hx0 ▸ c_L_place l D c5 a k o g sx hflags H.size (xs (3 * n + 1)) (xs (3 * n + 2)) res e1 hE) gG_RL_95 hd_L_place ⟨Nat.le_of_ble_eq_true rfl, Nat.le_of_ble_eq_true rfl⟩ ⟨rfl, rfl⟩ hl.1 (Nat.le_of_ble_eq_true rfl) dL_law_606 ⟨show _ ≤ 669600 by omega, show _ ≤ 7087305 by omega⟩ rfl (fun x u H locs hq hP hD hS => ?_)
  obtain ⟨f1, f2, f3, f4⟩ := ag_ro hm hq
  obtain ⟨ua, uk, ug⟩ := u
  have hxu : aO ua 0 = x0 := by rw [← hx0]; exact congrFun f4 0
  refine lv_istore (i := 5) (lv' := [(5, .int x), (0, .ref b), (1, .ref x0), (2, .ref (bm 0)), (3, .ref o), (4, .int (nI (3 * n)))]) hx hb dL_law_609 hl (by decide) rfl (fun ls hl => ?_)
  refine lv_aload_n hx hb dL_law_611 rfl (lv_at hl 3 rfl) ?_
  refine lv_aload_n hx hb dL_law_612 rfl (lv_at hl 1 rfl) ?_
  refine lv_iload hx hb dL_law_613 (lv_at hl 5 rfl) ?_
  refine lv_iconst (v := (1 : Int32)) hx hb dL_law_615 (by decide) ?_
  refine lv_iadd hx hb dL_law_616 ?_
  rw [hi1]
  refine va_sld hx hb hXs hbl hbA hS (inb_in (lw_i hL (j := 1) (by omega))) dL_law_617 ?_
  rw [lw_cl (j := 1) (by omega)]
  refine lv_aload_n hx hb dL_law_618 rfl (lv_at hl 1 rfl) ?_
  refine lv_iload hx hb dL_law_619 (lv_at hl 5 rfl) ?_
  refine lv_iconst (v := (2 : Int32)) hx hb dL_law_621 (by decide) ?_
  refine lv_iadd hx hb dL_law_622 ?_
  rw [hi2]
  refine va_sld hx hb hXs hbl hbA hS (inb_in (lw_i hL (j := 2) (by omega))) dL_law_623 ?_
  rw [lw_cl (j := 2) (by omega)]
  refine fr_calli (wc := MW c5 bm mm) (X := LW c5 ua uk o ug) (Y := []) (rw_runV (As := [.int (xs (3 * n + 1)), .int (xs (3 * n + 2))]) (rest := []) ⟨hx, hb, hml, hown, hts⟩ (fr_P (X := LW c5 ua uk o ug) (Y := []) (wN hP)) hK (fr_D (X := LW c5 ua uk o ug) (Y := []) (dN hD)) (c_X3_place l D c5 bm mm H.size (xs (3 * n + 1)) (xs (3 * n + 2)) (rb, m') e2) gG_RL_97 (va_recv hK (fr_P (X := LW c5 ua uk o ug) (Y := []) (wN hP)) (ci := 3) (q0 := 0) rfl rfl) hd_X3_place ⟨Nat.le_of_ble_eq_true rfl, Nat.le_of_ble_eq_true rfl⟩ ⟨rfl, rfl⟩ hl.1 (Nat.le_of_ble_eq_true rfl) dL_law_624 ⟨show _ ≤ 669600 by omega, show _ ≤ 7087305 by omega⟩ rfl) (wN hP) (dN hD) hS hA (fun x3 u3 H locs hpost hP hD hS => ?_)
  obtain rfl : rb = x3 := hpost.1.symm
  obtain rfl : m' = u3 := hpost.2.symm
  have hP := wM hP
  have hD := dM hD
  refine lv_istore (i := 6) (lv' := [(6, .int rb), (5, .int x), (0, .ref b), (1, .ref x0), (2, .ref (bm 0)), (3, .ref o), (4, .int (nI (3 * n)))]) hx hb dL_law_627 hl (by decide) rfl (fun ls hl => ?_)
  refine lv_aload_n hx hb dL_law_629 rfl (lv_at hl 4 rfl) ?_
  refine ro_calli (ro_runV (As := []) (rest := []) ⟨hx, hb, hml, hown, hts⟩ (fr_P (X := LW c5 ua uk o ug) (Y := []) (wN hP)) hK (c_X3_thrown l D c5 bm m' (mF m' 0) rfl) gG_RL_69 (va_recv hK (fr_P (X := LW c5 ua uk o ug) (Y := []) (wN hP)) (ci := 3) (q0 := 0) rfl rfl) hd_X3_thrown ⟨Nat.le_of_ble_eq_true rfl, Nat.le_of_ble_eq_true rfl⟩ ⟨rfl, rfl⟩ hl.1 (Nat.le_of_ble_eq_true rfl) dL_law_630 ⟨show _ ≤ 669600 by omega, show _ ≤ 7087305 by omega⟩ rfl) ?_
  refine lv_iload hx hb dL_law_633 (lv_at hl 1 rfl) ?_
  refine lv_icmp_eq (tgt := 640) hx hb dL_law_635 (by decide) (fun _ => ?_) (fun q => absurd f1 q)
  refine lv_iload hx hb dL_law_640 (lv_at hl 1 rfl) ?_
  have kend : ∀ ls : Array Slot, lv_has ls 9 [(6, .int rb), (5, .int x), (0, .ref b), (1, .ref x0), (2, .ref (bm 0)), (3, .ref o), (4, .int (nI (3 * n)))] → W p l e room_1 s m #[Value.ref b] below meth c H locs (cells + 1 + 0) (slots + 6 + 0) (lw_Z below #[Value.ref b] s) (F0 m 657 ls []) := fun ls hl => by
    refine lv_goto (tgt := 1020) hx hb dL_law_657 (by decide) ?_
    exact KE _ _ ua uk m' ug H locs ls (by omega) (by omega) hxu f3 (lv_sub hl [2, 3, 4, 5, 6] rfl) hP hD hS
  refine lv_if_ne (tgt := 657) hx hb dL_law_642 (by decide) (fun _ => kend ls hl) (fun q0 => ?_)
  refine lv_aload_n hx hb dL_law_645 rfl (lv_at hl 5 rfl) ?_
  refine lv_iconst (v := (0 : Int32)) hx hb dL_law_646 (by decide) ?_
  refine va_lald hx hb hK hP (KW c5 ua uk).length 4 (TW_o c5 ua uk o ug _) rfl (inb_in (i := 0) (n := 1) rfl) dL_law_647 ?_
  refine lv_iload hx hb dL_law_648 (lv_at hl 0 rfl) ?_
  refine lv_i2l (v := rb.toInt64) hx hb dL_law_650 rfl ?_
  refine W.lcmp hx hb dL_law_651 ?_
  refine lv_if_eq (tgt := 657) hx hb dL_law_652 (by decide) (fun _ => kend ls hl) (fun q => absurd (lg_eq0 (f2 q0)) q)
set_option maxHeartbeats 8000000 in
set_option maxRecDepth 100000 in
theorem lw_count {Rel : Nat → KSt → MSt → Prop} {D : va_G} {c5 : Nat → ClassId} {sx : Nat → Nat} {b L x0 o n : Nat} {bm : Nat → Nat} {xs : Nat → Int32} {a : KAd} {k : KSt} {mm : MSt} {g : Nat → Int64} {H : Heap} {locs : List Loc} {cells slots : Nat} {ls : Array Slot} (F : lwF p l s m meth c D c5 sx b L xs) (KE : lwK p l e s m below meth c Rel D c5 b x0 o bm n) (hy_count : ∀ p : Int32, AgreeR Rel n k cdIO [exIO] (R_X2_count k p) (R_X3_count mm p)) (hn : n < 512) (h3 : 3 * n + 3 ≤ L) (hc1 : cells ≤ 37 + n) (hc2 : slots ≤ 361 + 6 * n) (hx0 : aO a 0 = x0) (hl : lv_has ls 9 [(0, .ref b), (1, .ref x0), (2, .ref (bm 0)), (3, .ref o), (4, .int (nI (3 * n)))]) (hP : va_P D vwCl (LW c5 a k o g ++ MW c5 bm mm) H) (hD : va_D (fun q => s.heap.size ≤ q) (LW c5 a k o g ++ MW c5 bm mm)) (hS : va_S (fun q => s.heap.size ≤ q) s.heap H locs) :
    W p l e room_1 s m #[Value.ref b] below meth c H locs cells slots (lw_Z below #[Value.ref b] s) (F0 m 660 ls []) := by
  obtain ⟨hx, hb, hml, hown, hts, hXs, hbl, hK, hX, hflags, hL⟩ := F
  have hA : ∀ q : Nat, s.heap.size ≤ q → (fun q : Nat => s.heap.size ≤ q) q := fun _ h => h
  have hbA : ¬ (fun q : Nat => s.heap.size ≤ q) b := Nat.not_le.mpr hbl
  have hi1 : nI (3 * n) + 1 = nI (3 * n + 1) := nI_add (3 * n) 1
  have hi2 : nI (3 * n) + 2 = nI (3 * n + 2) := nI_add (3 * n) 2
  obtain ⟨res, rb, m', e1, e2, hE, hm⟩ := hy_count (xs (3 * n + 1))
  refine lv_aload_n hx hb dL_law_660 rfl (lv_at hl 1 rfl) ?_
  refine lv_aload_n hx hb dL_law_661 rfl (lv_at hl 0 rfl) ?_
  refine lv_iload hx hb dL_law_662 (lv_at hl 4 rfl) ?_
  refine lv_iconst (v := (1 : Int32)) hx hb dL_law_664 (by decide) ?_
  refine lv_iadd hx hb dL_law_665 ?_
  rw [hi1]
  refine va_sld hx hb hXs hbl hbA hS (inb_in (lw_i hL (j := 1) (by omega))) dL_law_666 ?_
  rw [lw_cl (j := 1) (by omega)]
  refine lv_aload_n hx hb dL_law_667 rfl (lv_at hl 3 rfl) ?_
  refine wr_call (As := [.ref x0, .int (xs (3 * n + 1)), .ref o]) (rest := []) ⟨hx, hb, hml, hown, hts⟩ hP hK hD hS hA hX (hx0 ▸ c_L_count l D c5 a k o g sx hflags H.size (xs (3 * n + 1)) res e1 hE) gG_RL_98 hd_L_count ⟨Nat.le_of_ble_eq_true rfl, Nat.le_of_ble_eq_true rfl⟩ ⟨rfl, rfl⟩ hl.1 (Nat.le_of_ble_eq_true rfl) dL_law_668 ⟨show _ ≤ 669600 by omega, show _ ≤ 7087305 by omega⟩ rfl (fun x u H locs hq hP hD hS => ?_)
  obtain ⟨f1, f2, f3, f4⟩ := ag_ro hm hq
  obtain ⟨ua, uk, ug⟩ := u
  have hxu : aO ua 0 = x0 := by rw [← hx0]; exact congrFun f4 0
  refine lv_istore (i := 5) (lv' := [(5, .int x), (0, .ref b), (1, .ref x0), (2, .ref (bm 0)), (3, .ref o), (4, .int (nI (3 * n)))]) hx hb dL_law_671 hl (by decide) rfl (fun ls hl => ?_)
  refine lv_aload_n hx hb dL_law_673 rfl (lv_at hl 3 rfl) ?_
  refine lv_aload_n hx hb dL_law_674 rfl (lv_at hl 1 rfl) ?_
  refine lv_iload hx hb dL_law_675 (lv_at hl 5 rfl) ?_
  refine lv_iconst (v := (1 : Int32)) hx hb dL_law_677 (by decide) ?_
  refine lv_iadd hx hb dL_law_678 ?_
  rw [hi1]
  refine va_sld hx hb hXs hbl hbA hS (inb_in (lw_i hL (j := 1) (by omega))) dL_law_679 ?_
  rw [lw_cl (j := 1) (by omega)]
  refine fr_calli (wc := MW c5 bm mm) (X := LW c5 ua uk o ug) (Y := []) (rw_runV (As := [.int (xs (3 * n + 1))]) (rest := []) ⟨hx, hb, hml, hown, hts⟩ (fr_P (X := LW c5 ua uk o ug) (Y := []) (wN hP)) hK (fr_D (X := LW c5 ua uk o ug) (Y := []) (dN hD)) (c_X3_count l D c5 bm mm H.size (xs (3 * n + 1)) (rb, m') e2) gG_RL_100 (va_recv hK (fr_P (X := LW c5 ua uk o ug) (Y := []) (wN hP)) (ci := 3) (q0 := 0) rfl rfl) hd_X3_count ⟨Nat.le_of_ble_eq_true rfl, Nat.le_of_ble_eq_true rfl⟩ ⟨rfl, rfl⟩ hl.1 (Nat.le_of_ble_eq_true rfl) dL_law_680 ⟨show _ ≤ 669600 by omega, show _ ≤ 7087305 by omega⟩ rfl) (wN hP) (dN hD) hS hA (fun x3 u3 H locs hpost hP hD hS => ?_)
  obtain rfl : rb = x3 := hpost.1.symm
  obtain rfl : m' = u3 := hpost.2.symm
  have hP := wM hP
  have hD := dM hD
  refine lv_istore (i := 6) (lv' := [(6, .int rb), (5, .int x), (0, .ref b), (1, .ref x0), (2, .ref (bm 0)), (3, .ref o), (4, .int (nI (3 * n)))]) hx hb dL_law_683 hl (by decide) rfl (fun ls hl => ?_)
  refine lv_aload_n hx hb dL_law_685 rfl (lv_at hl 4 rfl) ?_
  refine ro_calli (ro_runV (As := []) (rest := []) ⟨hx, hb, hml, hown, hts⟩ (fr_P (X := LW c5 ua uk o ug) (Y := []) (wN hP)) hK (c_X3_thrown l D c5 bm m' (mF m' 0) rfl) gG_RL_69 (va_recv hK (fr_P (X := LW c5 ua uk o ug) (Y := []) (wN hP)) (ci := 3) (q0 := 0) rfl rfl) hd_X3_thrown ⟨Nat.le_of_ble_eq_true rfl, Nat.le_of_ble_eq_true rfl⟩ ⟨rfl, rfl⟩ hl.1 (Nat.le_of_ble_eq_true rfl) dL_law_686 ⟨show _ ≤ 669600 by omega, show _ ≤ 7087305 by omega⟩ rfl) ?_
  refine lv_iload hx hb dL_law_689 (lv_at hl 1 rfl) ?_
  refine lv_icmp_eq (tgt := 696) hx hb dL_law_691 (by decide) (fun _ => ?_) (fun q => absurd f1 q)
  refine lv_iload hx hb dL_law_696 (lv_at hl 1 rfl) ?_
  have kend : ∀ ls : Array Slot, lv_has ls 9 [(6, .int rb), (5, .int x), (0, .ref b), (1, .ref x0), (2, .ref (bm 0)), (3, .ref o), (4, .int (nI (3 * n)))] → W p l e room_1 s m #[Value.ref b] below meth c H locs (cells + 1 + 0) (slots + 6 + 0) (lw_Z below #[Value.ref b] s) (F0 m 713 ls []) := fun ls hl => by
    refine lv_goto (tgt := 1020) hx hb dL_law_713 (by decide) ?_
    exact KE _ _ ua uk m' ug H locs ls (by omega) (by omega) hxu f3 (lv_sub hl [2, 3, 4, 5, 6] rfl) hP hD hS
  refine lv_if_ne (tgt := 713) hx hb dL_law_698 (by decide) (fun _ => kend ls hl) (fun q0 => ?_)
  refine lv_aload_n hx hb dL_law_701 rfl (lv_at hl 5 rfl) ?_
  refine lv_iconst (v := (0 : Int32)) hx hb dL_law_702 (by decide) ?_
  refine va_lald hx hb hK hP (KW c5 ua uk).length 4 (TW_o c5 ua uk o ug _) rfl (inb_in (i := 0) (n := 1) rfl) dL_law_703 ?_
  refine lv_iload hx hb dL_law_704 (lv_at hl 0 rfl) ?_
  refine lv_i2l (v := rb.toInt64) hx hb dL_law_706 rfl ?_
  refine W.lcmp hx hb dL_law_707 ?_
  refine lv_if_eq (tgt := 713) hx hb dL_law_708 (by decide) (fun _ => kend ls hl) (fun q => absurd (lg_eq0 (f2 q0)) q)
set_option maxHeartbeats 8000000 in
set_option maxRecDepth 100000 in
theorem lw_next {Rel : Nat → KSt → MSt → Prop} {D : va_G} {c5 : Nat → ClassId} {sx : Nat → Nat} {b L x0 o n : Nat} {bm : Nat → Nat} {xs : Nat → Int32} {a : KAd} {k : KSt} {mm : MSt} {g : Nat → Int64} {H : Heap} {locs : List Loc} {cells slots : Nat} {ls : Array Slot} (F : lwF p l s m meth c D c5 sx b L xs) (KE : lwK p l e s m below meth c Rel D c5 b x0 o bm n) (hy_next : ∀ p : Int32, AgreeR Rel n k cdIO [exIO] (R_X2_next k p) (R_X3_next mm p)) (hn : n < 512) (h3 : 3 * n + 3 ≤ L) (hc1 : cells ≤ 37 + n) (hc2 : slots ≤ 361 + 6 * n) (hx0 : aO a 0 = x0) (hl : lv_has ls 9 [(0, .ref b), (1, .ref x0), (2, .ref (bm 0)), (3, .ref o), (4, .int (nI (3 * n)))]) (hP : va_P D vwCl (LW c5 a k o g ++ MW c5 bm mm) H) (hD : va_D (fun q => s.heap.size ≤ q) (LW c5 a k o g ++ MW c5 bm mm)) (hS : va_S (fun q => s.heap.size ≤ q) s.heap H locs) :
    W p l e room_1 s m #[Value.ref b] below meth c H locs cells slots (lw_Z below #[Value.ref b] s) (F0 m 716 ls []) := by
  obtain ⟨hx, hb, hml, hown, hts, hXs, hbl, hK, hX, hflags, hL⟩ := F
  have hA : ∀ q : Nat, s.heap.size ≤ q → (fun q : Nat => s.heap.size ≤ q) q := fun _ h => h
  have hbA : ¬ (fun q : Nat => s.heap.size ≤ q) b := Nat.not_le.mpr hbl
  have hi1 : nI (3 * n) + 1 = nI (3 * n + 1) := nI_add (3 * n) 1
  have hi2 : nI (3 * n) + 2 = nI (3 * n + 2) := nI_add (3 * n) 2
  obtain ⟨res, rb, m', e1, e2, hE, hm⟩ := hy_next (xs (3 * n + 1))
  refine lv_aload_n hx hb dL_law_716 rfl (lv_at hl 1 rfl) ?_
  refine lv_aload_n hx hb dL_law_717 rfl (lv_at hl 0 rfl) ?_
  refine lv_iload hx hb dL_law_718 (lv_at hl 4 rfl) ?_
  refine lv_iconst (v := (1 : Int32)) hx hb dL_law_720 (by decide) ?_
  refine lv_iadd hx hb dL_law_721 ?_
  rw [hi1]
  refine va_sld hx hb hXs hbl hbA hS (inb_in (lw_i hL (j := 1) (by omega))) dL_law_722 ?_
  rw [lw_cl (j := 1) (by omega)]
  refine lv_aload_n hx hb dL_law_723 rfl (lv_at hl 3 rfl) ?_
  refine wr_call (As := [.ref x0, .int (xs (3 * n + 1)), .ref o]) (rest := []) ⟨hx, hb, hml, hown, hts⟩ hP hK hD hS hA hX (hx0 ▸ c_L_next l D c5 a k o g sx hflags H.size (xs (3 * n + 1)) res e1 hE) gG_RL_101 hd_L_next ⟨Nat.le_of_ble_eq_true rfl, Nat.le_of_ble_eq_true rfl⟩ ⟨rfl, rfl⟩ hl.1 (Nat.le_of_ble_eq_true rfl) dL_law_724 ⟨show _ ≤ 669600 by omega, show _ ≤ 7087305 by omega⟩ rfl (fun x u H locs hq hP hD hS => ?_)
  obtain ⟨f1, f2, f3, f4⟩ := ag_ro hm hq
  obtain ⟨ua, uk, ug⟩ := u
  have hxu : aO ua 0 = x0 := by rw [← hx0]; exact congrFun f4 0
  refine lv_istore (i := 5) (lv' := [(5, .int x), (0, .ref b), (1, .ref x0), (2, .ref (bm 0)), (3, .ref o), (4, .int (nI (3 * n)))]) hx hb dL_law_727 hl (by decide) rfl (fun ls hl => ?_)
  refine lv_aload_n hx hb dL_law_729 rfl (lv_at hl 3 rfl) ?_
  refine lv_aload_n hx hb dL_law_730 rfl (lv_at hl 1 rfl) ?_
  refine lv_iload hx hb dL_law_731 (lv_at hl 5 rfl) ?_
  refine lv_iconst (v := (1 : Int32)) hx hb dL_law_733 (by decide) ?_
  refine lv_iadd hx hb dL_law_734 ?_
  rw [hi1]
  refine va_sld hx hb hXs hbl hbA hS (inb_in (lw_i hL (j := 1) (by omega))) dL_law_735 ?_
  rw [lw_cl (j := 1) (by omega)]
  refine fr_calli (wc := MW c5 bm mm) (X := LW c5 ua uk o ug) (Y := []) (rw_runV (As := [.int (xs (3 * n + 1))]) (rest := []) ⟨hx, hb, hml, hown, hts⟩ (fr_P (X := LW c5 ua uk o ug) (Y := []) (wN hP)) hK (fr_D (X := LW c5 ua uk o ug) (Y := []) (dN hD)) (c_X3_next l D c5 bm mm H.size (xs (3 * n + 1)) (rb, m') e2) gG_RL_103 (va_recv hK (fr_P (X := LW c5 ua uk o ug) (Y := []) (wN hP)) (ci := 3) (q0 := 0) rfl rfl) hd_X3_next ⟨Nat.le_of_ble_eq_true rfl, Nat.le_of_ble_eq_true rfl⟩ ⟨rfl, rfl⟩ hl.1 (Nat.le_of_ble_eq_true rfl) dL_law_736 ⟨show _ ≤ 669600 by omega, show _ ≤ 7087305 by omega⟩ rfl) (wN hP) (dN hD) hS hA (fun x3 u3 H locs hpost hP hD hS => ?_)
  obtain rfl : rb = x3 := hpost.1.symm
  obtain rfl : m' = u3 := hpost.2.symm
  have hP := wM hP
  have hD := dM hD
  refine lv_istore (i := 6) (lv' := [(6, .int rb), (5, .int x), (0, .ref b), (1, .ref x0), (2, .ref (bm 0)), (3, .ref o), (4, .int (nI (3 * n)))]) hx hb dL_law_739 hl (by decide) rfl (fun ls hl => ?_)
  refine lv_aload_n hx hb dL_law_741 rfl (lv_at hl 4 rfl) ?_
  refine ro_calli (ro_runV (As := []) (rest := []) ⟨hx, hb, hml, hown, hts⟩ (fr_P (X := LW c5 ua uk o ug) (Y := []) (wN hP)) hK (c_X3_thrown l D c5 bm m' (mF m' 0) rfl) gG_RL_69 (va_recv hK (fr_P (X := LW c5 ua uk o ug) (Y := []) (wN hP)) (ci := 3) (q0 := 0) rfl rfl) hd_X3_thrown ⟨Nat.le_of_ble_eq_true rfl, Nat.le_of_ble_eq_true rfl⟩ ⟨rfl, rfl⟩ hl.1 (Nat.le_of_ble_eq_true rfl) dL_law_742 ⟨show _ ≤ 669600 by omega, show _ ≤ 7087305 by omega⟩ rfl) ?_
  refine lv_iload hx hb dL_law_745 (lv_at hl 1 rfl) ?_
  refine lv_icmp_eq (tgt := 752) hx hb dL_law_747 (by decide) (fun _ => ?_) (fun q => absurd f1 q)
  refine lv_iload hx hb dL_law_752 (lv_at hl 1 rfl) ?_
  have kend : ∀ ls : Array Slot, lv_has ls 9 [(6, .int rb), (5, .int x), (0, .ref b), (1, .ref x0), (2, .ref (bm 0)), (3, .ref o), (4, .int (nI (3 * n)))] → W p l e room_1 s m #[Value.ref b] below meth c H locs (cells + 1 + 0) (slots + 6 + 0) (lw_Z below #[Value.ref b] s) (F0 m 769 ls []) := fun ls hl => by
    refine lv_goto (tgt := 1020) hx hb dL_law_769 (by decide) ?_
    exact KE _ _ ua uk m' ug H locs ls (by omega) (by omega) hxu f3 (lv_sub hl [2, 3, 4, 5, 6] rfl) hP hD hS
  refine lv_if_ne (tgt := 769) hx hb dL_law_754 (by decide) (fun _ => kend ls hl) (fun q0 => ?_)
  refine lv_aload_n hx hb dL_law_757 rfl (lv_at hl 5 rfl) ?_
  refine lv_iconst (v := (0 : Int32)) hx hb dL_law_758 (by decide) ?_
  refine va_lald hx hb hK hP (KW c5 ua uk).length 4 (TW_o c5 ua uk o ug _) rfl (inb_in (i := 0) (n := 1) rfl) dL_law_759 ?_
  refine lv_iload hx hb dL_law_760 (lv_at hl 0 rfl) ?_
  refine lv_i2l (v := rb.toInt64) hx hb dL_law_762 rfl ?_
  refine W.lcmp hx hb dL_law_763 ?_
  refine lv_if_eq (tgt := 769) hx hb dL_law_764 (by decide) (fun _ => kend ls hl) (fun q => absurd (lg_eq0 (f2 q0)) q)
set_option maxHeartbeats 8000000 in
set_option maxRecDepth 100000 in
theorem lw_fits {Rel : Nat → KSt → MSt → Prop} {D : va_G} {c5 : Nat → ClassId} {sx : Nat → Nat} {b L x0 o n : Nat} {bm : Nat → Nat} {xs : Nat → Int32} {a : KAd} {k : KSt} {mm : MSt} {g : Nat → Int64} {H : Heap} {locs : List Loc} {cells slots : Nat} {ls : Array Slot} (F : lwF p l s m meth c D c5 sx b L xs) (KE : lwK p l e s m below meth c Rel D c5 b x0 o bm n) (hy_fits : ∀ p : Int32, AgreeR Rel n k cdIO [exIO] (R_X2_fits k p) (R_X3_fits mm p)) (hn : n < 512) (h3 : 3 * n + 3 ≤ L) (hc1 : cells ≤ 37 + n) (hc2 : slots ≤ 361 + 6 * n) (hx0 : aO a 0 = x0) (hl : lv_has ls 9 [(0, .ref b), (1, .ref x0), (2, .ref (bm 0)), (3, .ref o), (4, .int (nI (3 * n)))]) (hP : va_P D vwCl (LW c5 a k o g ++ MW c5 bm mm) H) (hD : va_D (fun q => s.heap.size ≤ q) (LW c5 a k o g ++ MW c5 bm mm)) (hS : va_S (fun q => s.heap.size ≤ q) s.heap H locs) :
    W p l e room_1 s m #[Value.ref b] below meth c H locs cells slots (lw_Z below #[Value.ref b] s) (F0 m 772 ls []) := by
  obtain ⟨hx, hb, hml, hown, hts, hXs, hbl, hK, hX, hflags, hL⟩ := F
  have hA : ∀ q : Nat, s.heap.size ≤ q → (fun q : Nat => s.heap.size ≤ q) q := fun _ h => h
  have hbA : ¬ (fun q : Nat => s.heap.size ≤ q) b := Nat.not_le.mpr hbl
  have hi1 : nI (3 * n) + 1 = nI (3 * n + 1) := nI_add (3 * n) 1
  have hi2 : nI (3 * n) + 2 = nI (3 * n + 2) := nI_add (3 * n) 2
  obtain ⟨res, rb, m', e1, e2, hE, hm⟩ := hy_fits (xs (3 * n + 1))
  refine lv_aload_n hx hb dL_law_772 rfl (lv_at hl 1 rfl) ?_
  refine lv_aload_n hx hb dL_law_773 rfl (lv_at hl 0 rfl) ?_
  refine lv_iload hx hb dL_law_774 (lv_at hl 4 rfl) ?_
  refine lv_iconst (v := (1 : Int32)) hx hb dL_law_776 (by decide) ?_
  refine lv_iadd hx hb dL_law_777 ?_
  rw [hi1]
  refine va_sld hx hb hXs hbl hbA hS (inb_in (lw_i hL (j := 1) (by omega))) dL_law_778 ?_
  rw [lw_cl (j := 1) (by omega)]
  refine lv_aload_n hx hb dL_law_779 rfl (lv_at hl 3 rfl) ?_
  refine wr_call (As := [.ref x0, .int (xs (3 * n + 1)), .ref o]) (rest := []) ⟨hx, hb, hml, hown, hts⟩ hP hK hD hS hA hX (hx0 ▸ c_L_fits l D c5 a k o g sx hflags H.size (xs (3 * n + 1)) res e1 hE) gG_RL_104 hd_L_fits ⟨Nat.le_of_ble_eq_true rfl, Nat.le_of_ble_eq_true rfl⟩ ⟨rfl, rfl⟩ hl.1 (Nat.le_of_ble_eq_true rfl) dL_law_780 ⟨show _ ≤ 669600 by omega, show _ ≤ 7087305 by omega⟩ rfl (fun x u H locs hq hP hD hS => ?_)
  obtain ⟨f1, f2, f3, f4⟩ := ag_ro hm hq
  obtain ⟨ua, uk, ug⟩ := u
  have hxu : aO ua 0 = x0 := by rw [← hx0]; exact congrFun f4 0
  refine lv_istore (i := 5) (lv' := [(5, .int x), (0, .ref b), (1, .ref x0), (2, .ref (bm 0)), (3, .ref o), (4, .int (nI (3 * n)))]) hx hb dL_law_783 hl (by decide) rfl (fun ls hl => ?_)
  refine lv_aload_n hx hb dL_law_785 rfl (lv_at hl 3 rfl) ?_
  refine lv_aload_n hx hb dL_law_786 rfl (lv_at hl 1 rfl) ?_
  refine lv_iload hx hb dL_law_787 (lv_at hl 5 rfl) ?_
  refine lv_iconst (v := (1 : Int32)) hx hb dL_law_789 (by decide) ?_
  refine lv_iadd hx hb dL_law_790 ?_
  rw [hi1]
  refine va_sld hx hb hXs hbl hbA hS (inb_in (lw_i hL (j := 1) (by omega))) dL_law_791 ?_
  rw [lw_cl (j := 1) (by omega)]
  refine fr_calli (wc := MW c5 bm mm) (X := LW c5 ua uk o ug) (Y := []) (rw_runV (As := [.int (xs (3 * n + 1))]) (rest := []) ⟨hx, hb, hml, hown, hts⟩ (fr_P (X := LW c5 ua uk o ug) (Y := []) (wN hP)) hK (fr_D (X := LW c5 ua uk o ug) (Y := []) (dN hD)) (c_X3_fits l D c5 bm mm H.size (xs (3 * n + 1)) (rb, m') e2) gG_RL_106 (va_recv hK (fr_P (X := LW c5 ua uk o ug) (Y := []) (wN hP)) (ci := 3) (q0 := 0) rfl rfl) hd_X3_fits ⟨Nat.le_of_ble_eq_true rfl, Nat.le_of_ble_eq_true rfl⟩ ⟨rfl, rfl⟩ hl.1 (Nat.le_of_ble_eq_true rfl) dL_law_792 ⟨show _ ≤ 669600 by omega, show _ ≤ 7087305 by omega⟩ rfl) (wN hP) (dN hD) hS hA (fun x3 u3 H locs hpost hP hD hS => ?_)
  obtain rfl : rb = x3 := hpost.1.symm
  obtain rfl : m' = u3 := hpost.2.symm
  have hP := wM hP
  have hD := dM hD
  refine lv_istore (i := 6) (lv' := [(6, .int rb), (5, .int x), (0, .ref b), (1, .ref x0), (2, .ref (bm 0)), (3, .ref o), (4, .int (nI (3 * n)))]) hx hb dL_law_795 hl (by decide) rfl (fun ls hl => ?_)
  refine lv_aload_n hx hb dL_law_797 rfl (lv_at hl 4 rfl) ?_
  refine ro_calli (ro_runV (As := []) (rest := []) ⟨hx, hb, hml, hown, hts⟩ (fr_P (X := LW c5 ua uk o ug) (Y := []) (wN hP)) hK (c_X3_thrown l D c5 bm m' (mF m' 0) rfl) gG_RL_69 (va_recv hK (fr_P (X := LW c5 ua uk o ug) (Y := []) (wN hP)) (ci := 3) (q0 := 0) rfl rfl) hd_X3_thrown ⟨Nat.le_of_ble_eq_true rfl, Nat.le_of_ble_eq_true rfl⟩ ⟨rfl, rfl⟩ hl.1 (Nat.le_of_ble_eq_true rfl) dL_law_798 ⟨show _ ≤ 669600 by omega, show _ ≤ 7087305 by omega⟩ rfl) ?_
  refine lv_iload hx hb dL_law_801 (lv_at hl 1 rfl) ?_
  refine lv_icmp_eq (tgt := 808) hx hb dL_law_803 (by decide) (fun _ => ?_) (fun q => absurd f1 q)
  refine lv_iload hx hb dL_law_808 (lv_at hl 1 rfl) ?_
  have kend : ∀ ls : Array Slot, lv_has ls 9 [(6, .int rb), (5, .int x), (0, .ref b), (1, .ref x0), (2, .ref (bm 0)), (3, .ref o), (4, .int (nI (3 * n)))] → W p l e room_1 s m #[Value.ref b] below meth c H locs (cells + 1 + 0) (slots + 6 + 0) (lw_Z below #[Value.ref b] s) (F0 m 825 ls []) := fun ls hl => by
    refine lv_goto (tgt := 1020) hx hb dL_law_825 (by decide) ?_
    exact KE _ _ ua uk m' ug H locs ls (by omega) (by omega) hxu f3 (lv_sub hl [2, 3, 4, 5, 6] rfl) hP hD hS
  refine lv_if_ne (tgt := 825) hx hb dL_law_810 (by decide) (fun _ => kend ls hl) (fun q0 => ?_)
  refine lv_aload_n hx hb dL_law_813 rfl (lv_at hl 5 rfl) ?_
  refine lv_iconst (v := (0 : Int32)) hx hb dL_law_814 (by decide) ?_
  refine va_lald hx hb hK hP (KW c5 ua uk).length 4 (TW_o c5 ua uk o ug _) rfl (inb_in (i := 0) (n := 1) rfl) dL_law_815 ?_
  refine lv_iload hx hb dL_law_816 (lv_at hl 0 rfl) ?_
  refine lv_i2l (v := rb.toInt64) hx hb dL_law_818 rfl ?_
  refine W.lcmp hx hb dL_law_819 ?_
  refine lv_if_eq (tgt := 825) hx hb dL_law_820 (by decide) (fun _ => kend ls hl) (fun q => absurd (lg_eq0 (f2 q0)) q)
set_option maxHeartbeats 8000000 in
set_option maxRecDepth 100000 in
theorem lw_would {Rel : Nat → KSt → MSt → Prop} {D : va_G} {c5 : Nat → ClassId} {sx : Nat → Nat} {b L x0 o n : Nat} {bm : Nat → Nat} {xs : Nat → Int32} {a : KAd} {k : KSt} {mm : MSt} {g : Nat → Int64} {H : Heap} {locs : List Loc} {cells slots : Nat} {ls : Array Slot} (F : lwF p l s m meth c D c5 sx b L xs) (KE : lwK p l e s m below meth c Rel D c5 b x0 o bm n) (hy_would : ∀ p q : Int32, AgreeR Rel n k cdIOIA [exIO, exIA] (R_X2_would k p q) (R_X3_would mm p q)) (hn : n < 512) (h3 : 3 * n + 3 ≤ L) (hc1 : cells ≤ 37 + n) (hc2 : slots ≤ 361 + 6 * n) (hx0 : aO a 0 = x0) (hl : lv_has ls 9 [(0, .ref b), (1, .ref x0), (2, .ref (bm 0)), (3, .ref o), (4, .int (nI (3 * n)))]) (hP : va_P D vwCl (LW c5 a k o g ++ MW c5 bm mm) H) (hD : va_D (fun q => s.heap.size ≤ q) (LW c5 a k o g ++ MW c5 bm mm)) (hS : va_S (fun q => s.heap.size ≤ q) s.heap H locs) :
    W p l e room_1 s m #[Value.ref b] below meth c H locs cells slots (lw_Z below #[Value.ref b] s) (F0 m 828 ls []) := by
  obtain ⟨hx, hb, hml, hown, hts, hXs, hbl, hK, hX, hflags, hL⟩ := F
  have hA : ∀ q : Nat, s.heap.size ≤ q → (fun q : Nat => s.heap.size ≤ q) q := fun _ h => h
  have hbA : ¬ (fun q : Nat => s.heap.size ≤ q) b := Nat.not_le.mpr hbl
  have hi1 : nI (3 * n) + 1 = nI (3 * n + 1) := nI_add (3 * n) 1
  have hi2 : nI (3 * n) + 2 = nI (3 * n + 2) := nI_add (3 * n) 2
  obtain ⟨res, rb, m', e1, e2, hE, hm⟩ := hy_would (xs (3 * n + 1)) (xs (3 * n + 2))
  refine lv_aload_n hx hb dL_law_828 rfl (lv_at hl 1 rfl) ?_
  refine lv_aload_n hx hb dL_law_829 rfl (lv_at hl 0 rfl) ?_
  refine lv_iload hx hb dL_law_830 (lv_at hl 4 rfl) ?_
  refine lv_iconst (v := (1 : Int32)) hx hb dL_law_832 (by decide) ?_
  refine lv_iadd hx hb dL_law_833 ?_
  rw [hi1]
  refine va_sld hx hb hXs hbl hbA hS (inb_in (lw_i hL (j := 1) (by omega))) dL_law_834 ?_
  rw [lw_cl (j := 1) (by omega)]
  refine lv_aload_n hx hb dL_law_835 rfl (lv_at hl 0 rfl) ?_
  refine lv_iload hx hb dL_law_836 (lv_at hl 4 rfl) ?_
  refine lv_iconst (v := (2 : Int32)) hx hb dL_law_838 (by decide) ?_
  refine lv_iadd hx hb dL_law_839 ?_
  rw [hi2]
  refine va_sld hx hb hXs hbl hbA hS (inb_in (lw_i hL (j := 2) (by omega))) dL_law_840 ?_
  rw [lw_cl (j := 2) (by omega)]
  refine lv_aload_n hx hb dL_law_841 rfl (lv_at hl 3 rfl) ?_
  refine wr_call (As := [.ref x0, .int (xs (3 * n + 1)), .int (xs (3 * n + 2)), .ref o]) (rest := []) ⟨hx, hb, hml, hown, hts⟩ hP hK hD hS hA hX (hx0 ▸ c_L_would l D c5 a k o g sx hflags H.size (xs (3 * n + 1)) (xs (3 * n + 2)) res e1 hE) gG_RL_107 hd_L_would ⟨Nat.le_of_ble_eq_true rfl, Nat.le_of_ble_eq_true rfl⟩ ⟨rfl, rfl⟩ hl.1 (Nat.le_of_ble_eq_true rfl) dL_law_842 ⟨show _ ≤ 669600 by omega, show _ ≤ 7087305 by omega⟩ rfl (fun x u H locs hq hP hD hS => ?_)
  obtain ⟨f1, f2, f3, f4⟩ := ag_ro hm hq
  obtain ⟨ua, uk, ug⟩ := u
  have hxu : aO ua 0 = x0 := by rw [← hx0]; exact congrFun f4 0
  refine lv_istore (i := 5) (lv' := [(5, .int x), (0, .ref b), (1, .ref x0), (2, .ref (bm 0)), (3, .ref o), (4, .int (nI (3 * n)))]) hx hb dL_law_845 hl (by decide) rfl (fun ls hl => ?_)
  refine lv_aload_n hx hb dL_law_847 rfl (lv_at hl 3 rfl) ?_
  refine lv_aload_n hx hb dL_law_848 rfl (lv_at hl 1 rfl) ?_
  refine lv_iload hx hb dL_law_849 (lv_at hl 5 rfl) ?_
  refine lv_iconst (v := (1 : Int32)) hx hb dL_law_851 (by decide) ?_
  refine lv_iadd hx hb dL_law_852 ?_
  rw [hi1]
  refine va_sld hx hb hXs hbl hbA hS (inb_in (lw_i hL (j := 1) (by omega))) dL_law_853 ?_
  rw [lw_cl (j := 1) (by omega)]
  refine lv_aload_n hx hb dL_law_854 rfl (lv_at hl 1 rfl) ?_
  refine lv_iload hx hb dL_law_855 (lv_at hl 5 rfl) ?_
  refine lv_iconst (v := (2 : Int32)) hx hb dL_law_857 (by decide) ?_
  refine lv_iadd hx hb dL_law_858 ?_
  rw [hi2]
  refine va_sld hx hb hXs hbl hbA hS (inb_in (lw_i hL (j := 2) (by omega))) dL_law_859 ?_
  rw [lw_cl (j := 2) (by omega)]
  refine fr_calli (wc := MW c5 bm mm) (X := LW c5 ua uk o ug) (Y := []) (rw_runV (As := [.int (xs (3 * n + 1)), .int (xs (3 * n + 2))]) (rest := []) ⟨hx, hb, hml, hown, hts⟩ (fr_P (X := LW c5 ua uk o ug) (Y := []) (wN hP)) hK (fr_D (X := LW c5 ua uk o ug) (Y := []) (dN hD)) (c_X3_would l D c5 bm mm H.size (xs (3 * n + 1)) (xs (3 * n + 2)) (rb, m') e2) gG_RL_109 (va_recv hK (fr_P (X := LW c5 ua uk o ug) (Y := []) (wN hP)) (ci := 3) (q0 := 0) rfl rfl) hd_X3_would ⟨Nat.le_of_ble_eq_true rfl, Nat.le_of_ble_eq_true rfl⟩ ⟨rfl, rfl⟩ hl.1 (Nat.le_of_ble_eq_true rfl) dL_law_860 ⟨show _ ≤ 669600 by omega, show _ ≤ 7087305 by omega⟩ rfl) (wN hP) (dN hD) hS hA (fun x3 u3 H locs hpost hP hD hS => ?_)
  obtain rfl : rb = x3 := hpost.1.symm
  obtain rfl : m' = u3 := hpost.2.symm
  have hP := wM hP
  have hD := dM hD
  refine lv_istore (i := 6) (lv' := [(6, .int rb), (5, .int x), (0, .ref b), (1, .ref x0), (2, .ref (bm 0)), (3, .ref o), (4, .int (nI (3 * n)))]) hx hb dL_law_863 hl (by decide) rfl (fun ls hl => ?_)
  refine lv_aload_n hx hb dL_law_865 rfl (lv_at hl 4 rfl) ?_
  refine ro_calli (ro_runV (As := []) (rest := []) ⟨hx, hb, hml, hown, hts⟩ (fr_P (X := LW c5 ua uk o ug) (Y := []) (wN hP)) hK (c_X3_thrown l D c5 bm m' (mF m' 0) rfl) gG_RL_69 (va_recv hK (fr_P (X := LW c5 ua uk o ug) (Y := []) (wN hP)) (ci := 3) (q0 := 0) rfl rfl) hd_X3_thrown ⟨Nat.le_of_ble_eq_true rfl, Nat.le_of_ble_eq_true rfl⟩ ⟨rfl, rfl⟩ hl.1 (Nat.le_of_ble_eq_true rfl) dL_law_866 ⟨show _ ≤ 669600 by omega, show _ ≤ 7087305 by omega⟩ rfl) ?_
  refine lv_iload hx hb dL_law_869 (lv_at hl 1 rfl) ?_
  refine lv_icmp_eq (tgt := 876) hx hb dL_law_871 (by decide) (fun _ => ?_) (fun q => absurd f1 q)
  refine lv_iload hx hb dL_law_876 (lv_at hl 1 rfl) ?_
  have kend : ∀ ls : Array Slot, lv_has ls 9 [(6, .int rb), (5, .int x), (0, .ref b), (1, .ref x0), (2, .ref (bm 0)), (3, .ref o), (4, .int (nI (3 * n)))] → W p l e room_1 s m #[Value.ref b] below meth c H locs (cells + 1 + 0) (slots + 6 + 0) (lw_Z below #[Value.ref b] s) (F0 m 893 ls []) := fun ls hl => by
    refine lv_goto (tgt := 1020) hx hb dL_law_893 (by decide) ?_
    exact KE _ _ ua uk m' ug H locs ls (by omega) (by omega) hxu f3 (lv_sub hl [2, 3, 4, 5, 6] rfl) hP hD hS
  refine lv_if_ne (tgt := 893) hx hb dL_law_878 (by decide) (fun _ => kend ls hl) (fun q0 => ?_)
  refine lv_aload_n hx hb dL_law_881 rfl (lv_at hl 5 rfl) ?_
  refine lv_iconst (v := (0 : Int32)) hx hb dL_law_882 (by decide) ?_
  refine va_lald hx hb hK hP (KW c5 ua uk).length 4 (TW_o c5 ua uk o ug _) rfl (inb_in (i := 0) (n := 1) rfl) dL_law_883 ?_
  refine lv_iload hx hb dL_law_884 (lv_at hl 0 rfl) ?_
  refine lv_i2l (v := rb.toInt64) hx hb dL_law_886 rfl ?_
  refine W.lcmp hx hb dL_law_887 ?_
  refine lv_if_eq (tgt := 893) hx hb dL_law_888 (by decide) (fun _ => kend ls hl) (fun q => absurd (lg_eq0 (f2 q0)) q)
set_option maxHeartbeats 8000000 in
set_option maxRecDepth 100000 in
theorem lw_gains {Rel : Nat → KSt → MSt → Prop} {D : va_G} {c5 : Nat → ClassId} {sx : Nat → Nat} {b L x0 o n : Nat} {bm : Nat → Nat} {xs : Nat → Int32} {a : KAd} {k : KSt} {mm : MSt} {g : Nat → Int64} {H : Heap} {locs : List Loc} {cells slots : Nat} {ls : Array Slot} (F : lwF p l s m meth c D c5 sx b L xs) (KE : lwK p l e s m below meth c Rel D c5 b x0 o bm n) (hy_gains : ∀ p : Int32, AgreeR Rel n k cdIO [exIO] (R_X2_gains k p) (R_X3_gains mm p)) (hn : n < 512) (h3 : 3 * n + 3 ≤ L) (hc1 : cells ≤ 37 + n) (hc2 : slots ≤ 361 + 6 * n) (hx0 : aO a 0 = x0) (hl : lv_has ls 9 [(0, .ref b), (1, .ref x0), (2, .ref (bm 0)), (3, .ref o), (4, .int (nI (3 * n)))]) (hP : va_P D vwCl (LW c5 a k o g ++ MW c5 bm mm) H) (hD : va_D (fun q => s.heap.size ≤ q) (LW c5 a k o g ++ MW c5 bm mm)) (hS : va_S (fun q => s.heap.size ≤ q) s.heap H locs) :
    W p l e room_1 s m #[Value.ref b] below meth c H locs cells slots (lw_Z below #[Value.ref b] s) (F0 m 896 ls []) := by
  obtain ⟨hx, hb, hml, hown, hts, hXs, hbl, hK, hX, hflags, hL⟩ := F
  have hA : ∀ q : Nat, s.heap.size ≤ q → (fun q : Nat => s.heap.size ≤ q) q := fun _ h => h
  have hbA : ¬ (fun q : Nat => s.heap.size ≤ q) b := Nat.not_le.mpr hbl
  have hi1 : nI (3 * n) + 1 = nI (3 * n + 1) := nI_add (3 * n) 1
  have hi2 : nI (3 * n) + 2 = nI (3 * n + 2) := nI_add (3 * n) 2
  obtain ⟨res, rb, m', e1, e2, hE, hm⟩ := hy_gains (xs (3 * n + 1))
  refine lv_aload_n hx hb dL_law_896 rfl (lv_at hl 1 rfl) ?_
  refine lv_aload_n hx hb dL_law_897 rfl (lv_at hl 0 rfl) ?_
  refine lv_iload hx hb dL_law_898 (lv_at hl 4 rfl) ?_
  refine lv_iconst (v := (1 : Int32)) hx hb dL_law_900 (by decide) ?_
  refine lv_iadd hx hb dL_law_901 ?_
  rw [hi1]
  refine va_sld hx hb hXs hbl hbA hS (inb_in (lw_i hL (j := 1) (by omega))) dL_law_902 ?_
  rw [lw_cl (j := 1) (by omega)]
  refine lv_aload_n hx hb dL_law_903 rfl (lv_at hl 3 rfl) ?_
  refine wr_call (As := [.ref x0, .int (xs (3 * n + 1)), .ref o]) (rest := []) ⟨hx, hb, hml, hown, hts⟩ hP hK hD hS hA hX (hx0 ▸ c_L_gains l D c5 a k o g sx hflags H.size (xs (3 * n + 1)) res e1 hE) gG_RL_110 hd_L_gains ⟨Nat.le_of_ble_eq_true rfl, Nat.le_of_ble_eq_true rfl⟩ ⟨rfl, rfl⟩ hl.1 (Nat.le_of_ble_eq_true rfl) dL_law_904 ⟨show _ ≤ 669600 by omega, show _ ≤ 7087305 by omega⟩ rfl (fun x u H locs hq hP hD hS => ?_)
  obtain ⟨f1, f2, f3, f4⟩ := ag_ro hm hq
  obtain ⟨ua, uk, ug⟩ := u
  have hxu : aO ua 0 = x0 := by rw [← hx0]; exact congrFun f4 0
  refine lv_istore (i := 5) (lv' := [(5, .int x), (0, .ref b), (1, .ref x0), (2, .ref (bm 0)), (3, .ref o), (4, .int (nI (3 * n)))]) hx hb dL_law_907 hl (by decide) rfl (fun ls hl => ?_)
  refine lv_aload_n hx hb dL_law_909 rfl (lv_at hl 3 rfl) ?_
  refine lv_aload_n hx hb dL_law_910 rfl (lv_at hl 1 rfl) ?_
  refine lv_iload hx hb dL_law_911 (lv_at hl 5 rfl) ?_
  refine lv_iconst (v := (1 : Int32)) hx hb dL_law_913 (by decide) ?_
  refine lv_iadd hx hb dL_law_914 ?_
  rw [hi1]
  refine va_sld hx hb hXs hbl hbA hS (inb_in (lw_i hL (j := 1) (by omega))) dL_law_915 ?_
  rw [lw_cl (j := 1) (by omega)]
  refine fr_calli (wc := MW c5 bm mm) (X := LW c5 ua uk o ug) (Y := []) (rw_runV (As := [.int (xs (3 * n + 1))]) (rest := []) ⟨hx, hb, hml, hown, hts⟩ (fr_P (X := LW c5 ua uk o ug) (Y := []) (wN hP)) hK (fr_D (X := LW c5 ua uk o ug) (Y := []) (dN hD)) (c_X3_gains l D c5 bm mm H.size (xs (3 * n + 1)) (rb, m') e2) gG_RL_112 (va_recv hK (fr_P (X := LW c5 ua uk o ug) (Y := []) (wN hP)) (ci := 3) (q0 := 0) rfl rfl) hd_X3_gains ⟨Nat.le_of_ble_eq_true rfl, Nat.le_of_ble_eq_true rfl⟩ ⟨rfl, rfl⟩ hl.1 (Nat.le_of_ble_eq_true rfl) dL_law_916 ⟨show _ ≤ 669600 by omega, show _ ≤ 7087305 by omega⟩ rfl) (wN hP) (dN hD) hS hA (fun x3 u3 H locs hpost hP hD hS => ?_)
  obtain rfl : rb = x3 := hpost.1.symm
  obtain rfl : m' = u3 := hpost.2.symm
  have hP := wM hP
  have hD := dM hD
  refine lv_istore (i := 6) (lv' := [(6, .int rb), (5, .int x), (0, .ref b), (1, .ref x0), (2, .ref (bm 0)), (3, .ref o), (4, .int (nI (3 * n)))]) hx hb dL_law_919 hl (by decide) rfl (fun ls hl => ?_)
  refine lv_aload_n hx hb dL_law_921 rfl (lv_at hl 4 rfl) ?_
  refine ro_calli (ro_runV (As := []) (rest := []) ⟨hx, hb, hml, hown, hts⟩ (fr_P (X := LW c5 ua uk o ug) (Y := []) (wN hP)) hK (c_X3_thrown l D c5 bm m' (mF m' 0) rfl) gG_RL_69 (va_recv hK (fr_P (X := LW c5 ua uk o ug) (Y := []) (wN hP)) (ci := 3) (q0 := 0) rfl rfl) hd_X3_thrown ⟨Nat.le_of_ble_eq_true rfl, Nat.le_of_ble_eq_true rfl⟩ ⟨rfl, rfl⟩ hl.1 (Nat.le_of_ble_eq_true rfl) dL_law_922 ⟨show _ ≤ 669600 by omega, show _ ≤ 7087305 by omega⟩ rfl) ?_
  refine lv_iload hx hb dL_law_925 (lv_at hl 1 rfl) ?_
  refine lv_icmp_eq (tgt := 932) hx hb dL_law_927 (by decide) (fun _ => ?_) (fun q => absurd f1 q)
  refine lv_iload hx hb dL_law_932 (lv_at hl 1 rfl) ?_
  have kend : ∀ ls : Array Slot, lv_has ls 9 [(6, .int rb), (5, .int x), (0, .ref b), (1, .ref x0), (2, .ref (bm 0)), (3, .ref o), (4, .int (nI (3 * n)))] → W p l e room_1 s m #[Value.ref b] below meth c H locs (cells + 1 + 0) (slots + 6 + 0) (lw_Z below #[Value.ref b] s) (F0 m 949 ls []) := fun ls hl => by
    refine lv_goto (tgt := 1020) hx hb dL_law_949 (by decide) ?_
    exact KE _ _ ua uk m' ug H locs ls (by omega) (by omega) hxu f3 (lv_sub hl [2, 3, 4, 5, 6] rfl) hP hD hS
  refine lv_if_ne (tgt := 949) hx hb dL_law_934 (by decide) (fun _ => kend ls hl) (fun q0 => ?_)
  refine lv_aload_n hx hb dL_law_937 rfl (lv_at hl 5 rfl) ?_
  refine lv_iconst (v := (0 : Int32)) hx hb dL_law_938 (by decide) ?_
  refine va_lald hx hb hK hP (KW c5 ua uk).length 4 (TW_o c5 ua uk o ug _) rfl (inb_in (i := 0) (n := 1) rfl) dL_law_939 ?_
  refine lv_iload hx hb dL_law_940 (lv_at hl 0 rfl) ?_
  refine lv_i2l (v := rb.toInt64) hx hb dL_law_942 rfl ?_
  refine W.lcmp hx hb dL_law_943 ?_
  refine lv_if_eq (tgt := 949) hx hb dL_law_944 (by decide) (fun _ => kend ls hl) (fun q => absurd (lg_eq0 (f2 q0)) q)
set_option maxHeartbeats 8000000 in
set_option maxRecDepth 100000 in
theorem lw_advise {Rel : Nat → KSt → MSt → Prop} {D : va_G} {c5 : Nat → ClassId} {sx : Nat → Nat} {b L x0 o n : Nat} {bm : Nat → Nat} {xs : Nat → Int32} {a : KAd} {k : KSt} {mm : MSt} {g : Nat → Int64} {H : Heap} {locs : List Loc} {cells slots : Nat} {ls : Array Slot} (F : lwF p l s m meth c D c5 sx b L xs) (KE : lwK p l e s m below meth c Rel D c5 b x0 o bm n) (hy_advise : ∃ (v : Int32) (m' : MSt), R_X2_advise k = some v ∧ R_X3_advise mm = some (v, m') ∧ Rel (n + 1) k m') (hn : n < 512) (h3 : 3 * n + 3 ≤ L) (hc1 : cells ≤ 37 + n) (hc2 : slots ≤ 361 + 6 * n) (hx0 : aO a 0 = x0) (hl : lv_has ls 9 [(0, .ref b), (1, .ref x0), (2, .ref (bm 0)), (3, .ref o), (4, .int (nI (3 * n)))]) (hP : va_P D vwCl (LW c5 a k o g ++ MW c5 bm mm) H) (hD : va_D (fun q => s.heap.size ≤ q) (LW c5 a k o g ++ MW c5 bm mm)) (hS : va_S (fun q => s.heap.size ≤ q) s.heap H locs) :
    W p l e room_1 s m #[Value.ref b] below meth c H locs cells slots (lw_Z below #[Value.ref b] s) (F0 m 952 ls []) := by
  obtain ⟨hx, hb, hml, hown, hts, hXs, hbl, hK, hX, hflags, hL⟩ := F
  have hA : ∀ q : Nat, s.heap.size ≤ q → (fun q : Nat => s.heap.size ≤ q) q := fun _ h => h
  have hbA : ¬ (fun q : Nat => s.heap.size ≤ q) b := Nat.not_le.mpr hbl
  have hi1 : nI (3 * n) + 1 = nI (3 * n + 1) := nI_add (3 * n) 1
  have hi2 : nI (3 * n) + 2 = nI (3 * n + 2) := nI_add (3 * n) 2
  obtain ⟨v, m', e1, e2, hm⟩ := hy_advise
  refine lv_aload_n hx hb dL_law_952 rfl (lv_at hl 1 rfl) ?_
  refine ro_calli (ro_runV (b := x0) (As := []) (rest := []) ⟨hx, hb, hml, hown, hts⟩ (TW_K hP) hK (hx0 ▸ c_X2_advise l D c5 a k (TW_I hD) v e1) gG_RL_113 (hx0 ▸ va_recv hK (TW_K hP) (ci := 2) (q0 := 0) rfl rfl) hd_X2_advise ⟨Nat.le_of_ble_eq_true rfl, Nat.le_of_ble_eq_true rfl⟩ ⟨rfl, rfl⟩ hl.1 (Nat.le_of_ble_eq_true rfl) dL_law_953 ⟨show _ ≤ 669600 by omega, show _ ≤ 7087305 by omega⟩ rfl) ?_
  refine lv_aload_n hx hb dL_law_956 rfl (lv_at hl 2 rfl) ?_
  refine fr_calli (wc := MW c5 bm mm) (X := LW c5 a k o g) (Y := []) (rw_runV (As := []) (rest := [.int v]) ⟨hx, hb, hml, hown, hts⟩ (fr_P (X := LW c5 a k o g) (Y := []) (wN hP)) hK (fr_D (X := LW c5 a k o g) (Y := []) (dN hD)) (c_X3_advise l D c5 bm mm H.size (v, m') e2) gG_RL_116 (va_recv hK (fr_P (X := LW c5 a k o g) (Y := []) (wN hP)) (ci := 3) (q0 := 0) rfl rfl) hd_X3_advise ⟨Nat.le_of_ble_eq_true rfl, Nat.le_of_ble_eq_true rfl⟩ ⟨rfl, rfl⟩ hl.1 (Nat.le_of_ble_eq_true rfl) dL_law_957 ⟨show _ ≤ 669600 by omega, show _ ≤ 7087305 by omega⟩ rfl) (wN hP) (dN hD) hS hA (fun x3 u3 H locs hpost hP hD hS => ?_)
  obtain rfl : v = x3 := hpost.1.symm
  obtain rfl : m' = u3 := hpost.2.symm
  have hP := wM hP
  have hD := dM hD
  refine lv_icmp_eq (tgt := 1020) hx hb dL_law_960 (by decide) (fun _ => ?_) (fun q => absurd rfl q)
  exact KE _ _ a k m' g H locs ls (by omega) (by omega) hx0 hm (lv_sub hl [0, 1, 2, 3, 4] rfl) hP hD hS
set_option maxHeartbeats 8000000 in
set_option maxRecDepth 100000 in
theorem lw_mean {Rel : Nat → KSt → MSt → Prop} {D : va_G} {c5 : Nat → ClassId} {sx : Nat → Nat} {b L x0 o n : Nat} {bm : Nat → Nat} {xs : Nat → Int32} {a : KAd} {k : KSt} {mm : MSt} {g : Nat → Int64} {H : Heap} {locs : List Loc} {cells slots : Nat} {ls : Array Slot} (F : lwF p l s m meth c D c5 sx b L xs) (KE : lwK p l e s m below meth c Rel D c5 b x0 o bm n) (hy_mean : ∃ (v : UInt64) (m' : MSt), R_X2_mean k = some v ∧ R_X3_mean mm = some (v, m') ∧ Rel (n + 1) k m') (hn : n < 512) (h3 : 3 * n + 3 ≤ L) (hc1 : cells ≤ 37 + n) (hc2 : slots ≤ 361 + 6 * n) (hx0 : aO a 0 = x0) (hl : lv_has ls 9 [(0, .ref b), (1, .ref x0), (2, .ref (bm 0)), (3, .ref o), (4, .int (nI (3 * n)))]) (hP : va_P D vwCl (LW c5 a k o g ++ MW c5 bm mm) H) (hD : va_D (fun q => s.heap.size ≤ q) (LW c5 a k o g ++ MW c5 bm mm)) (hS : va_S (fun q => s.heap.size ≤ q) s.heap H locs) :
    W p l e room_1 s m #[Value.ref b] below meth c H locs cells slots (lw_Z below #[Value.ref b] s) (F0 m 965 ls []) := by
  obtain ⟨hx, hb, hml, hown, hts, hXs, hbl, hK, hX, hflags, hL⟩ := F
  have hA : ∀ q : Nat, s.heap.size ≤ q → (fun q : Nat => s.heap.size ≤ q) q := fun _ h => h
  have hbA : ¬ (fun q : Nat => s.heap.size ≤ q) b := Nat.not_le.mpr hbl
  have hi1 : nI (3 * n) + 1 = nI (3 * n + 1) := nI_add (3 * n) 1
  have hi2 : nI (3 * n) + 2 = nI (3 * n + 2) := nI_add (3 * n) 2
  obtain ⟨v, m', e1, e2, hm⟩ := hy_mean
  refine lv_aload_n hx hb dL_law_965 rfl (lv_at hl 1 rfl) ?_
  refine ro_calld (ro_runV (b := x0) (As := []) (rest := []) ⟨hx, hb, hml, hown, hts⟩ (TW_K hP) hK (hx0 ▸ c_X2_mean l D c5 a k (TW_I hD) v e1) gG_RL_117 (hx0 ▸ va_recv hK (TW_K hP) (ci := 2) (q0 := 0) rfl rfl) hd_X2_mean ⟨Nat.le_of_ble_eq_true rfl, Nat.le_of_ble_eq_true rfl⟩ ⟨rfl, rfl⟩ hl.1 (Nat.le_of_ble_eq_true rfl) dL_law_966 ⟨show _ ≤ 669600 by omega, show _ ≤ 7087305 by omega⟩ rfl) ?_
  refine lv_dstore (i := 5) (lv' := [(5, .double v), (0, .ref b), (1, .ref x0), (2, .ref (bm 0)), (3, .ref o), (4, .int (nI (3 * n)))]) hx hb dL_law_969 hl (by decide) rfl (fun ls hl => ?_)
  refine lv_aload_n hx hb dL_law_971 rfl (lv_at hl 3 rfl) ?_
  refine fr_calld (wc := MW c5 bm mm) (X := LW c5 a k o g) (Y := []) (rw_runV (As := []) (rest := []) ⟨hx, hb, hml, hown, hts⟩ (fr_P (X := LW c5 a k o g) (Y := []) (wN hP)) hK (fr_D (X := LW c5 a k o g) (Y := []) (dN hD)) (c_X3_mean l D c5 bm mm H.size (v, m') e2) gG_RL_121 (va_recv hK (fr_P (X := LW c5 a k o g) (Y := []) (wN hP)) (ci := 3) (q0 := 0) rfl rfl) hd_X3_mean ⟨Nat.le_of_ble_eq_true rfl, Nat.le_of_ble_eq_true rfl⟩ ⟨rfl, rfl⟩ hl.1 (Nat.le_of_ble_eq_true rfl) dL_law_972 ⟨show _ ≤ 669600 by omega, show _ ≤ 7087305 by omega⟩ rfl) (wN hP) (dN hD) hS hA (fun x3 u3 H locs hpost hP hD hS => ?_)
  obtain rfl : v = x3 := hpost.1.symm
  obtain rfl : m' = u3 := hpost.2.symm
  have hP := wM hP
  have hD := dM hD
  refine lv_dstore (i := 7) (lv' := [(7, .double v), (5, .double v), (0, .ref b), (1, .ref x0), (2, .ref (bm 0)), (3, .ref o), (4, .int (nI (3 * n)))]) hx hb dL_law_975 hl (by decide) rfl (fun ls hl => ?_)
  have kend : W p l e room_1 s m #[Value.ref b] below meth c H locs (cells + 0) (slots + 0) (lw_Z below #[Value.ref b] s) (F0 m 1003 ls []) := by
    refine lv_goto (tgt := 1020) hx hb dL_law_1003 (by decide) ?_
    exact KE _ _ a k m' g H locs ls (by omega) (by omega) hx0 hm (lv_sub hl [2, 3, 4, 5, 6] rfl) hP hD hS
  refine lv_dload hx hb dL_law_977 (lv_at hl 1 rfl) ?_
  refine lv_dload hx hb dL_law_979 (lv_at hl 0 rfl) ?_
  refine lv_dcmp hx hb dL_law_981 ?_
  refine lv_if_eq (tgt := 1003) hx hb dL_law_982 (by decide) (fun _ => kend) (fun q => ?_)
  refine lv_dload hx hb dL_law_985 (lv_at hl 1 rfl) ?_
  refine lv_dload hx hb dL_law_987 (lv_at hl 1 rfl) ?_
  refine lv_dcmp hx hb dL_law_989 ?_
  refine lv_if_eq (tgt := 1001) hx hb dL_law_990 (by decide) (fun q2 => absurd q2 q) (fun _ => ?_)
  refine lv_dload hx hb dL_law_993 (lv_at hl 0 rfl) ?_
  refine lv_dload hx hb dL_law_995 (lv_at hl 0 rfl) ?_
  refine lv_dcmp hx hb dL_law_997 ?_
  refine lv_if_ne (tgt := 1003) hx hb dL_law_998 (by decide) (fun _ => kend) (fun q2 => absurd q2 q)
set_option maxHeartbeats 8000000 in
set_option maxRecDepth 100000 in
theorem lw_digest {Rel : Nat → KSt → MSt → Prop} {D : va_G} {c5 : Nat → ClassId} {sx : Nat → Nat} {b L x0 o n : Nat} {bm : Nat → Nat} {xs : Nat → Int32} {a : KAd} {k : KSt} {mm : MSt} {g : Nat → Int64} {H : Heap} {locs : List Loc} {cells slots : Nat} {ls : Array Slot} (F : lwF p l s m meth c D c5 sx b L xs) (KE : lwK p l e s m below meth c Rel D c5 b x0 o bm n) (hy_digest : ∃ (v : Int64) (m' : MSt), R_X2_digest k = some v ∧ R_X3_digest mm = some (v, m') ∧ Rel (n + 1) k m') (hn : n < 512) (h3 : 3 * n + 3 ≤ L) (hc1 : cells ≤ 37 + n) (hc2 : slots ≤ 361 + 6 * n) (hx0 : aO a 0 = x0) (hl : lv_has ls 9 [(0, .ref b), (1, .ref x0), (2, .ref (bm 0)), (3, .ref o), (4, .int (nI (3 * n)))]) (hP : va_P D vwCl (LW c5 a k o g ++ MW c5 bm mm) H) (hD : va_D (fun q => s.heap.size ≤ q) (LW c5 a k o g ++ MW c5 bm mm)) (hS : va_S (fun q => s.heap.size ≤ q) s.heap H locs) :
    W p l e room_1 s m #[Value.ref b] below meth c H locs cells slots (lw_Z below #[Value.ref b] s) (F0 m 1006 ls []) := by
  obtain ⟨hx, hb, hml, hown, hts, hXs, hbl, hK, hX, hflags, hL⟩ := F
  have hA : ∀ q : Nat, s.heap.size ≤ q → (fun q : Nat => s.heap.size ≤ q) q := fun _ h => h
  have hbA : ¬ (fun q : Nat => s.heap.size ≤ q) b := Nat.not_le.mpr hbl
  have hi1 : nI (3 * n) + 1 = nI (3 * n + 1) := nI_add (3 * n) 1
  have hi2 : nI (3 * n) + 2 = nI (3 * n + 2) := nI_add (3 * n) 2
  obtain ⟨v, m', e1, e2, hm⟩ := hy_digest
  refine lv_aload_n hx hb dL_law_1006 rfl (lv_at hl 1 rfl) ?_
  refine ro_calll (ro_runV (b := x0) (As := []) (rest := []) ⟨hx, hb, hml, hown, hts⟩ (TW_K hP) hK (hx0 ▸ c_X2_digest l D c5 a k (TW_I hD) v e1) gG_RL_122 (hx0 ▸ va_recv hK (TW_K hP) (ci := 2) (q0 := 0) rfl rfl) hd_X2_digest ⟨Nat.le_of_ble_eq_true rfl, Nat.le_of_ble_eq_true rfl⟩ ⟨rfl, rfl⟩ hl.1 (Nat.le_of_ble_eq_true rfl) dL_law_1007 ⟨show _ ≤ 669600 by omega, show _ ≤ 7087305 by omega⟩ rfl) ?_
  refine lv_aload_n hx hb dL_law_1010 rfl (lv_at hl 2 rfl) ?_
  refine fr_calll (wc := MW c5 bm mm) (X := LW c5 a k o g) (Y := []) (rw_runV (As := []) (rest := [.long v]) ⟨hx, hb, hml, hown, hts⟩ (fr_P (X := LW c5 a k o g) (Y := []) (wN hP)) hK (fr_D (X := LW c5 a k o g) (Y := []) (dN hD)) (c_X3_digest l D c5 bm mm H.size (v, m') e2) gG_RL_126 (va_recv hK (fr_P (X := LW c5 a k o g) (Y := []) (wN hP)) (ci := 3) (q0 := 0) rfl rfl) hd_X3_digest ⟨Nat.le_of_ble_eq_true rfl, Nat.le_of_ble_eq_true rfl⟩ ⟨rfl, rfl⟩ hl.1 (Nat.le_of_ble_eq_true rfl) dL_law_1011 ⟨show _ ≤ 669600 by omega, show _ ≤ 7087305 by omega⟩ rfl) (wN hP) (dN hD) hS hA (fun x3 u3 H locs hpost hP hD hS => ?_)
  obtain rfl : v = x3 := hpost.1.symm
  obtain rfl : m' = u3 := hpost.2.symm
  have hP := wM hP
  have hD := dM hD
  refine W.lcmp hx hb dL_law_1014 ?_
  refine lv_if_eq (tgt := 1020) hx hb dL_law_1015 (by decide) (fun _ => ?_) (fun q => absurd (lg_eq0 rfl) q)
  exact KE _ _ a k m' g H locs ls (by omega) (by omega) hx0 hm (lv_sub hl [0, 1, 2, 3, 4] rfl) hP hD hS
end LLOOP
