/-! the Sim: its raw state, its world -/
/-- ints (time, way, put, moved); how many kinds; kinds' rows; shelves' rows; how long the places' rows are; the places -/
abbrev SSt : Type := (Nat → Int32) × Nat × (Nat → Nat → Int32) × (Nat → Nat → Int32) × (Nat → Nat) × (Nat → Nat → Int32)
def zF (z : SSt) (f : Nat) : Int32 := z.1 f
def zN (z : SSt) : Nat := z.2.1
def zK (z : SSt) (j : Nat) : Nat → Int32 := z.2.2.1 j
def zH (z : SSt) (i : Nat) : Nat → Int32 := z.2.2.2.1 i
def zL (z : SSt) (i : Nat) : Nat := z.2.2.2.2.1 i
def zB (z : SSt) (i : Nat) : Nat → Int32 := z.2.2.2.2.2 i
def zFs (z : SSt) (f : Nat) (v : Int32) : SSt := (upd z.1 f v, z.2)
def zKs (z : SSt) (j : Nat) (g : Nat → Int32) : SSt := (z.1, z.2.1, (fun x => if x = j then g else z.2.2.1 x), z.2.2.2)
def zHs (z : SSt) (i : Nat) (g : Nat → Int32) : SSt := (z.1, z.2.1, z.2.2.1, (fun x => if x = i then g else z.2.2.2.1 x), z.2.2.2.2)
def zBs (z : SSt) (i : Nat) (g : Nat → Int32) : SSt := (z.1, z.2.1, z.2.2.1, z.2.2.2.1, z.2.2.2.2.1, (fun x => if x = i then g else z.2.2.2.2.2 x))
def zLs (z : SSt) (i n : Nat) (g : Nat → Int32) : SSt := (z.1, z.2.1, z.2.2.1, z.2.2.2.1, (fun x => if x = i then n else z.2.2.2.2.1 x), (fun x => if x = i then g else z.2.2.2.2.2 x))
/-- one kind more -/
def zNs (z : SSt) (g : Nat → Int32) : SSt := (z.1, zN z + 1, (fun x => if x = zN z then g else z.2.2.1 x), z.2.2.2)
theorem zF_Fs (z : SSt) (f : Nat) (v : Int32) (g : Nat) : zF (zFs z f v) g = if g = f then v else zF z g := rfl
theorem zN_Fs (z : SSt) (f : Nat) (v : Int32) : zN (zFs z f v) = zN z := rfl
theorem zK_Fs (z : SSt) (f : Nat) (v : Int32) (j : Nat) : zK (zFs z f v) j = zK z j := rfl
theorem zH_Fs (z : SSt) (f : Nat) (v : Int32) (i : Nat) : zH (zFs z f v) i = zH z i := rfl
theorem zL_Fs (z : SSt) (f : Nat) (v : Int32) (i : Nat) : zL (zFs z f v) i = zL z i := rfl
theorem zB_Fs (z : SSt) (f : Nat) (v : Int32) (i : Nat) : zB (zFs z f v) i = zB z i := rfl
theorem zF_Ks (z : SSt) (j : Nat) (g : Nat → Int32) (f : Nat) : zF (zKs z j g) f = zF z f := rfl
theorem zN_Ks (z : SSt) (j : Nat) (g : Nat → Int32) : zN (zKs z j g) = zN z := rfl
theorem zK_Ks (z : SSt) (j : Nat) (g : Nat → Int32) (x : Nat) : zK (zKs z j g) x = if x = j then g else zK z x := rfl
theorem zH_Ks (z : SSt) (j : Nat) (g : Nat → Int32) (i : Nat) : zH (zKs z j g) i = zH z i := rfl
theorem zL_Ks (z : SSt) (j : Nat) (g : Nat → Int32) (i : Nat) : zL (zKs z j g) i = zL z i := rfl
theorem zB_Ks (z : SSt) (j : Nat) (g : Nat → Int32) (i : Nat) : zB (zKs z j g) i = zB z i := rfl
theorem zF_Hs (z : SSt) (i : Nat) (g : Nat → Int32) (f : Nat) : zF (zHs z i g) f = zF z f := rfl
theorem zN_Hs (z : SSt) (i : Nat) (g : Nat → Int32) : zN (zHs z i g) = zN z := rfl
theorem zK_Hs (z : SSt) (i : Nat) (g : Nat → Int32) (j : Nat) : zK (zHs z i g) j = zK z j := rfl
theorem zH_Hs (z : SSt) (i : Nat) (g : Nat → Int32) (x : Nat) : zH (zHs z i g) x = if x = i then g else zH z x := rfl
theorem zL_Hs (z : SSt) (i : Nat) (g : Nat → Int32) (x : Nat) : zL (zHs z i g) x = zL z x := rfl
theorem zB_Hs (z : SSt) (i : Nat) (g : Nat → Int32) (x : Nat) : zB (zHs z i g) x = zB z x := rfl
theorem zF_Bs (z : SSt) (i : Nat) (g : Nat → Int32) (f : Nat) : zF (zBs z i g) f = zF z f := rfl
theorem zN_Bs (z : SSt) (i : Nat) (g : Nat → Int32) : zN (zBs z i g) = zN z := rfl
theorem zK_Bs (z : SSt) (i : Nat) (g : Nat → Int32) (j : Nat) : zK (zBs z i g) j = zK z j := rfl
theorem zH_Bs (z : SSt) (i : Nat) (g : Nat → Int32) (x : Nat) : zH (zBs z i g) x = zH z x := rfl
theorem zL_Bs (z : SSt) (i : Nat) (g : Nat → Int32) (x : Nat) : zL (zBs z i g) x = zL z x := rfl
theorem zB_Bs (z : SSt) (i : Nat) (g : Nat → Int32) (x : Nat) : zB (zBs z i g) x = if x = i then g else zB z x := rfl
theorem zF_Ls (z : SSt) (i n : Nat) (g : Nat → Int32) (f : Nat) : zF (zLs z i n g) f = zF z f := rfl
theorem zN_Ls (z : SSt) (i n : Nat) (g : Nat → Int32) : zN (zLs z i n g) = zN z := rfl
theorem zK_Ls (z : SSt) (i n : Nat) (g : Nat → Int32) (j : Nat) : zK (zLs z i n g) j = zK z j := rfl
theorem zH_Ls (z : SSt) (i n : Nat) (g : Nat → Int32) (x : Nat) : zH (zLs z i n g) x = zH z x := rfl
theorem zL_Ls (z : SSt) (i n : Nat) (g : Nat → Int32) (x : Nat) : zL (zLs z i n g) x = if x = i then n else zL z x := rfl
theorem zB_Ls (z : SSt) (i n : Nat) (g : Nat → Int32) (x : Nat) : zB (zLs z i n g) x = if x = i then g else zB z x := rfl
/-- addresses of the rows (the Sim's own and its three arrays' stand apart: bo 0 .. bo 3) -/
abbrev BV : Type := (Nat → Nat) × (Nat → Nat) × (Nat → Nat)
def bK (v : BV) (j : Nat) : Nat := v.1 j
def bH (v : BV) (i : Nat) : Nat := v.2.1 i
def bB (v : BV) (i : Nat) : Nat := v.2.2 i
def bKs (v : BV) (j q : Nat) : BV := (va_up v.1 j q, v.2)
def bHs (v : BV) (i q : Nat) : BV := (v.1, va_up v.2.1 i q, v.2.2)
def bBs (v : BV) (i q : Nat) : BV := (v.1, v.2.1, va_up v.2.2 i q)
def flZ (bo : Nat → Nat) (z : SSt) : List Value := [.int (zF z 0), .int (zF z 1), .int (zF z 2), .int (zF z 3), .ref (bo 1), .ref (bo 2), .ref (bo 3)]
abbrev rfs (f : Nat → Option Nat) : (Nat → Int32) ⊕ (Nat → Int64) ⊕ (Nat → UInt32) ⊕ (Nat → UInt64) ⊕ (Nat → Option Nat) := .inr (.inr (.inr (.inr f)))
def ceZK (c5 : Nat → ClassId) (v : BV) (z : SSt) (j : Nat) : Nat × va_E := (bK v j, .inl (c5 3, 2, .inl (zK z j)))
def ceZH (c5 : Nat → ClassId) (v : BV) (z : SSt) (i : Nat) : Nat × va_E := (bH v i, .inl (c5 3, 3, .inl (zH z i)))
def ceZB (c5 : Nat → ClassId) (v : BV) (z : SSt) (i : Nat) : Nat × va_E := (bB v i, .inl (c5 2, zL z i, .inl (zB z i)))
def SW (c5 : Nat → ClassId) (bo : Nat → Nat) (v : BV) (z : SSt) : va_W := [(bo 0, .inr (3, flZ bo z)), (bo 1, .inl (c5 4, zN z, rfs (fun j => some (bK v j)))), (bo 2, .inl (c5 4, 12, rfs (fun i => some (bH v i)))), (bo 3, .inl (c5 5, 12, rfs (fun i => some (bB v i))))] ++ ((List.range 12).map (ceZH c5 v z) ++ ((List.range 12).map (ceZB c5 v z) ++ (List.range (zN z)).map (ceZK c5 v z)))
theorem SW_0 (c5 : Nat → ClassId) (bo : Nat → Nat) (v : BV) (z : SSt) : (SW c5 bo v z)[0]? = some (bo 0, .inr (3, flZ bo z)) := rfl
theorem SW_1 (c5 : Nat → ClassId) (bo : Nat → Nat) (v : BV) (z : SSt) : (SW c5 bo v z)[1]? = some (bo 1, .inl (c5 4, zN z, rfs (fun j => some (bK v j)))) := rfl
theorem SW_2 (c5 : Nat → ClassId) (bo : Nat → Nat) (v : BV) (z : SSt) : (SW c5 bo v z)[2]? = some (bo 2, .inl (c5 4, 12, rfs (fun i => some (bH v i)))) := rfl
theorem SW_3 (c5 : Nat → ClassId) (bo : Nat → Nat) (v : BV) (z : SSt) : (SW c5 bo v z)[3]? = some (bo 3, .inl (c5 5, 12, rfs (fun i => some (bB v i)))) := rfl
theorem SW_H (c5 : Nat → ClassId) (bo : Nat → Nat) (v : BV) (z : SSt) {i : Nat} (hi : i < 12) : (SW c5 bo v z)[4 + i]? = some (bH v i, .inl (c5 3, 3, .inl (zH z i))) := by
  unfold SW
  rw [List.getElem?_append_right (by simp), List.getElem?_append_left (by simp; omega)]
  simp [hi, ceZH]
theorem SW_B (c5 : Nat → ClassId) (bo : Nat → Nat) (v : BV) (z : SSt) {i : Nat} (hi : i < 12) : (SW c5 bo v z)[16 + i]? = some (bB v i, .inl (c5 2, zL z i, .inl (zB z i))) := by
  unfold SW
  rw [List.getElem?_append_right (by simp; omega), List.getElem?_append_right (by simp; omega), List.getElem?_append_left (by simp; omega)]
  simp only [List.length_cons, List.length_nil, List.length_map, List.length_range, List.getElem?_map]
  rw [show 16 + i - (0 + 1 + 1 + 1 + 1) - 12 = i by omega, List.getElem?_range hi]
  rfl
theorem SW_K (c5 : Nat → ClassId) (bo : Nat → Nat) (v : BV) (z : SSt) {j : Nat} (hj : j < zN z) : (SW c5 bo v z)[28 + j]? = some (bK v j, .inl (c5 3, 2, .inl (zK z j))) := by
  unfold SW
  rw [List.getElem?_append_right (by simp; omega), List.getElem?_append_right (by simp; omega), List.getElem?_append_right (by simp; omega)]
  simp only [List.length_cons, List.length_nil, List.length_map, List.length_range, List.getElem?_map]
  rw [show 28 + j - (0 + 1 + 1 + 1 + 1) - 12 - 12 = j by omega, List.getElem?_range hj]
  rfl
theorem SW_setF (c5 : Nat → ClassId) (bo : Nat → Nat) (v : BV) (z : SSt) (f : Nat) (hf : f < 4) (x : Int32) : (SW c5 bo v z).set 0 (bo 0, .inr (3, (flZ bo z).set f (.int x))) = SW c5 bo v (zFs z f x) := by
  match f, hf with
  | 0, _ => rfl
  | 1, _ => rfl
  | 2, _ => rfl
  | 3, _ => rfl
theorem SW_setH (c5 : Nat → ClassId) (bo : Nat → Nat) (v : BV) (z : SSt) {i : Nat} (hi : i < 12) (g : Nat → Int32) : (SW c5 bo v z).set (4 + i) (bH v i, .inl (c5 3, 3, .inl g)) = SW c5 bo v (zHs z i g) := by
  unfold SW
  rw [List.set_append_right _ _ (by simp), List.set_append_left _ _ (by simp; omega)]
  simp only [List.length_cons, List.length_nil]
  rw [show 4 + i - (0 + 1 + 1 + 1 + 1) = i by omega, set_map]
  have e : (List.range 12).map (fun j => if j = i then (bH v i, (.inl (c5 3, 3, .inl g) : va_E)) else ceZH c5 v z j) = (List.range 12).map (ceZH c5 v (zHs z i g)) := by
    apply List.map_congr_left
    intro j _
    by_cases h : j = i
    · subst h
      simp [ceZH, zH_Hs]
    · simp [ceZH, zH_Hs, h]
  rw [e]
  rfl
theorem SW_setB (c5 : Nat → ClassId) (bo : Nat → Nat) (v : BV) (z : SSt) {i : Nat} (hi : i < 12) (g : Nat → Int32) : (SW c5 bo v z).set (16 + i) (bB v i, .inl (c5 2, zL z i, .inl g)) = SW c5 bo v (zBs z i g) := by
  unfold SW
  rw [List.set_append_right _ _ (by simp; omega), List.set_append_right _ _ (by simp; omega), List.set_append_left _ _ (by simp; omega)]
  simp only [List.length_cons, List.length_nil, List.length_map, List.length_range]
  rw [show 16 + i - (0 + 1 + 1 + 1 + 1) - 12 = i by omega, set_map]
  have e : (List.range 12).map (fun j => if j = i then (bB v i, (.inl (c5 2, zL z i, .inl g) : va_E)) else ceZB c5 v z j) = (List.range 12).map (ceZB c5 v (zBs z i g)) := by
    apply List.map_congr_left
    intro j _
    by_cases h : j = i
    · subst h
      simp [ceZB, zB_Bs, zL_Bs]
    · simp [ceZB, zB_Bs, zL_Bs, h]
  rw [e]
  rfl
theorem SW_setK (c5 : Nat → ClassId) (bo : Nat → Nat) (v : BV) (z : SSt) {j : Nat} (hj : j < zN z) (g : Nat → Int32) : (SW c5 bo v z).set (28 + j) (bK v j, .inl (c5 3, 2, .inl g)) = SW c5 bo v (zKs z j g) := by
  unfold SW
  rw [List.set_append_right _ _ (by simp; omega), List.set_append_right _ _ (by simp; omega), List.set_append_right _ _ (by simp; omega)]
  simp only [List.length_cons, List.length_nil, List.length_map, List.length_range]
  rw [show 28 + j - (0 + 1 + 1 + 1 + 1) - 12 - 12 = j by omega, set_map]
  have e : (List.range (zN z)).map (fun i => if i = j then (bK v j, (.inl (c5 3, 2, .inl g) : va_E)) else ceZK c5 v z i) = (List.range (zN z)).map (ceZK c5 v (zKs z j g)) := by
    apply List.map_congr_left
    intro i _
    by_cases h : i = j
    · subst h
      simp [ceZK, zK_Ks]
    · simp [ceZK, zK_Ks, h]
  rw [e]
  rfl
/-! cells of a world that stands in a greater one -/
theorem ap_l {X Y : va_W} {i : Nat} {q : Nat × va_E} (h : X[i]? = some q) : (X ++ Y)[i]? = some q := by
  rw [List.getElem?_append_left (List.getElem?_eq_some_iff.mp h).1]; exact h
theorem ap_r {X Y : va_W} {i : Nat} {q : Nat × va_E} (h : Y[i]? = some q) : (X ++ Y)[X.length + i]? = some q := by
  rw [List.getElem?_append_right (by omega), Nat.add_sub_cancel_left]; exact h
theorem ap_sl {X Y X' : va_W} {i : Nat} {q c : Nat × va_E} (h : X[i]? = some q) (e : X.set i c = X') : (X ++ Y).set i c = X' ++ Y := by
  rw [List.set_append_left _ _ (List.getElem?_eq_some_iff.mp h).1, e]
theorem ap_sr {X Y Y' : va_W} {i : Nat} {c : Nat × va_E} (e : Y.set i c = Y') : (X ++ Y).set (X.length + i) c = X ++ Y' := by
  rw [List.set_append_right _ _ (by omega), Nat.add_sub_cancel_left, e]
/-- a world out of the cells of a greater one -/
theorem wd_P {D : va_G} {ws ws' : va_W} {H : Heap} (h : va_P D vwCl ws H) (hs : ∀ q ∈ ws', q ∈ ws) : va_P D vwCl ws' H := fun k q hk => by
  obtain ⟨k', hk'⟩ := List.mem_iff_getElem?.mp (hs q (List.mem_iff_getElem?.mpr ⟨k, hk⟩))
  exact h k' q hk'
theorem wd_D {A : Nat → Prop} {ws ws' : va_W} (h : va_D A ws) (hs : ws'.Sublist ws) : va_D A ws' := by
  rw [va_D_iff] at h ⊢
  exact ⟨h.1.sublist (hs.map Prod.fst), fun q hq => h.2 q (hs.subset hq)⟩
/-- a cell put in the place of another one -/
theorem rp_key {W : va_W} {i k : Nat} {c x : Nat × va_E} (h : (W.set i c)[k]? = some x) : (k ≠ i ∧ k < W.length ∧ (W ++ [c])[k]? = some x) ∨ (k = i ∧ (W ++ [c])[W.length]? = some x) := by
  have hl : k < (W.set i c).length := (List.getElem?_eq_some_iff.mp h).1
  rw [List.length_set] at hl
  by_cases e : k = i
  · subst e
    rw [List.getElem?_set_self hl] at h
    exact Or.inr ⟨rfl, by rw [List.getElem?_append_right (Nat.le_refl _), Nat.sub_self]; exact h⟩
  · rw [List.getElem?_set_ne (Ne.symm e)] at h
    exact Or.inl ⟨e, hl, by rw [List.getElem?_append_left hl]; exact h⟩
theorem rp_P {D : va_G} {W W' : va_W} {H : Heap} {i : Nat} {c : Nat × va_E} (e : W.set i c = W') (h : va_P D vwCl (W ++ [c]) H) : va_P D vwCl W' H := by
  subst e
  intro k x hk
  rcases rp_key hk with ⟨-, -, h1⟩ | ⟨-, h1⟩
  · exact h _ _ h1
  · exact h _ _ h1
theorem rp_D {A : Nat → Prop} {W W' : va_W} {i : Nat} {c : Nat × va_E} (e : W.set i c = W') (h : va_D A (W ++ [c])) : va_D A W' := by
  subst e
  refine ⟨fun a b x y ha hb hxy => ?_, fun k x hk => ?_⟩
  · rcases rp_key ha with ⟨n1, l1, h1⟩ | ⟨n1, h1⟩ <;> rcases rp_key hb with ⟨n2, l2, h2⟩ | ⟨n2, h2⟩
    · exact h.1 _ _ _ _ h1 h2 hxy
    · have := h.1 _ _ _ _ h1 h2 hxy
      omega
    · have := h.1 _ _ _ _ h1 h2 hxy
      omega
    · omega
  · rcases rp_key hk with ⟨-, -, h1⟩ | ⟨-, h1⟩
    · exact h.2 _ _ h1
    · exact h.2 _ _ h1
theorem SW_rowH (c5 : Nat → ClassId) (bo : Nat → Nat) (v : BV) (z : SSt) {n q : Nat} (hn : n < 12) (g : Nat → Int32) : (((SW c5 bo v z).set 2 (bo 2, .inl (c5 4, 12, rfs (va_up (fun i => some (bH v i)) n (some q))))).set (4 + n) (q, .inl (c5 3, 3, .inl g))) = SW c5 bo (bHs v n q) (zHs z n g) := by
  have e1 : (SW c5 bo v z).set 2 (bo 2, .inl (c5 4, 12, rfs (va_up (fun i => some (bH v i)) n (some q)))) = [(bo 0, .inr (3, flZ bo z)), (bo 1, .inl (c5 4, zN z, rfs (fun j => some (bK v j)))), (bo 2, .inl (c5 4, 12, rfs (va_up (fun i => some (bH v i)) n (some q)))), (bo 3, .inl (c5 5, 12, rfs (fun i => some (bB v i))))] ++ ((List.range 12).map (ceZH c5 v z) ++ ((List.range 12).map (ceZB c5 v z) ++ (List.range (zN z)).map (ceZK c5 v z))) := rfl
  rw [e1, List.set_append_right _ _ (by simp), List.set_append_left _ _ (by simp; omega)]
  simp only [List.length_cons, List.length_nil]
  rw [show 4 + n - (0 + 1 + 1 + 1 + 1) = n by omega, set_map]
  have e : (List.range 12).map (fun j => if j = n then (q, (.inl (c5 3, 3, .inl g) : va_E)) else ceZH c5 v z j) = (List.range 12).map (ceZH c5 (bHs v n q) (zHs z n g)) := by
    apply List.map_congr_left
    intro j _
    by_cases h : j = n
    · subst h
      simp [ceZH, zH_Hs, bH, bHs, va_up]
    · simp [ceZH, zH_Hs, h, bH, bHs, va_up]
  have e2 : va_up (fun i => some (bH v i)) n (some q) = (fun i => some (bH (bHs v n q) i)) := by
    funext j
    by_cases h : j = n
    · subst h; simp [bH, bHs, va_up]
    · simp [bH, bHs, va_up, h]
  rw [e, e2]
  rfl
theorem SW_rowB (c5 : Nat → ClassId) (bo : Nat → Nat) (v : BV) (z : SSt) {n q : Nat} (hn : n < 12) (len : Nat) (g : Nat → Int32) : (((SW c5 bo v z).set 3 (bo 3, .inl (c5 5, 12, rfs (va_up (fun i => some (bB v i)) n (some q))))).set (16 + n) (q, .inl (c5 2, len, .inl g))) = SW c5 bo (bBs v n q) (zLs z n len g) := by
  have e1 : (SW c5 bo v z).set 3 (bo 3, .inl (c5 5, 12, rfs (va_up (fun i => some (bB v i)) n (some q)))) = [(bo 0, .inr (3, flZ bo z)), (bo 1, .inl (c5 4, zN z, rfs (fun j => some (bK v j)))), (bo 2, .inl (c5 4, 12, rfs (fun i => some (bH v i)))), (bo 3, .inl (c5 5, 12, rfs (va_up (fun i => some (bB v i)) n (some q))))] ++ ((List.range 12).map (ceZH c5 v z) ++ ((List.range 12).map (ceZB c5 v z) ++ (List.range (zN z)).map (ceZK c5 v z))) := rfl
  rw [e1, List.set_append_right _ _ (by simp; omega), List.set_append_right _ _ (by simp; omega), List.set_append_left _ _ (by simp; omega)]
  simp only [List.length_cons, List.length_nil, List.length_map, List.length_range]
  rw [show 16 + n - (0 + 1 + 1 + 1 + 1) - 12 = n by omega, set_map]
  have e : (List.range 12).map (fun j => if j = n then (q, (.inl (c5 2, len, .inl g) : va_E)) else ceZB c5 v z j) = (List.range 12).map (ceZB c5 (bBs v n q) (zLs z n len g)) := by
    apply List.map_congr_left
    intro j _
    by_cases h : j = n
    · subst h
      simp [ceZB, zB_Ls, zL_Ls, bB, bBs, va_up]
    · simp [ceZB, zB_Ls, zL_Ls, h, bB, bBs, va_up]
  have e2 : va_up (fun i => some (bB v i)) n (some q) = (fun i => some (bB (bBs v n q) i)) := by
    funext j
    by_cases h : j = n
    · subst h; simp [bB, bBs, va_up]
    · simp [bB, bBs, va_up, h]
  rw [e, e2]
  rfl
