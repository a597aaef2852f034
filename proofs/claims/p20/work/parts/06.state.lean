/-! the raw state of the class, its world -/
abbrev vwCl : List vw_C := [(RX0, TX0, 6), (RX1, TX1, 8), (RX2, TX2, 7), (RX3, TX3, 7)]
/-- ints of the kitchen (kindsMade, way, time, putInAll, movedInAll); how many kinds; shelves' fields; their rows; kinds' fields -/
abbrev KSt : Type := (Nat → Int32) × Nat × (Nat → Nat → Int32) × (Nat → Nat → Int32) × (Nat → Nat → Int32)
def kG (k : KSt) (f : Nat) : Int32 := k.1 f
def kN (k : KSt) : Nat := k.2.1
def kS (k : KSt) (f i : Nat) : Int32 := k.2.2.1 f i
def kB (k : KSt) (i : Nat) : Nat → Int32 := k.2.2.2.1 i
def kK (k : KSt) (f j : Nat) : Int32 := k.2.2.2.2 f j
def kGs (k : KSt) (f : Nat) (v : Int32) : KSt := (upd k.1 f v, k.2)
def kNs (k : KSt) (n : Nat) : KSt := (k.1, n, k.2.2)
def kSs (k : KSt) (f i : Nat) (v : Int32) : KSt := (k.1, k.2.1, (fun g j => if g = f ∧ j = i then v else k.2.2.1 g j), k.2.2.2)
def kBs (k : KSt) (i : Nat) (g : Nat → Int32) : KSt := (k.1, k.2.1, k.2.2.1, (fun j => if j = i then g else k.2.2.2.1 j), k.2.2.2.2)
def kKs (k : KSt) (f j : Nat) (v : Int32) : KSt := (k.1, k.2.1, k.2.2.1, k.2.2.2.1, (fun g i => if g = f ∧ i = j then v else k.2.2.2.2 g i))
theorem kG_Gs (k : KSt) (f g : Nat) (v : Int32) : kG (kGs k f v) g = if g = f then v else kG k g := rfl
theorem kN_Gs (k : KSt) (f : Nat) (v : Int32) : kN (kGs k f v) = kN k := rfl
theorem kS_Gs (k : KSt) (f : Nat) (v : Int32) (g i : Nat) : kS (kGs k f v) g i = kS k g i := rfl
theorem kB_Gs (k : KSt) (f : Nat) (v : Int32) (i : Nat) : kB (kGs k f v) i = kB k i := rfl
theorem kK_Gs (k : KSt) (f : Nat) (v : Int32) (g j : Nat) : kK (kGs k f v) g j = kK k g j := rfl
theorem kG_Ns (k : KSt) (n g : Nat) : kG (kNs k n) g = kG k g := rfl
theorem kN_Ns (k : KSt) (n : Nat) : kN (kNs k n) = n := rfl
theorem kS_Ns (k : KSt) (n g i : Nat) : kS (kNs k n) g i = kS k g i := rfl
theorem kB_Ns (k : KSt) (n i : Nat) : kB (kNs k n) i = kB k i := rfl
theorem kK_Ns (k : KSt) (n g j : Nat) : kK (kNs k n) g j = kK k g j := rfl
theorem kG_Ss (k : KSt) (f i : Nat) (v : Int32) (g : Nat) : kG (kSs k f i v) g = kG k g := rfl
theorem kN_Ss (k : KSt) (f i : Nat) (v : Int32) : kN (kSs k f i v) = kN k := rfl
theorem kS_Ss (k : KSt) (f i : Nat) (v : Int32) (g j : Nat) : kS (kSs k f i v) g j = if g = f ∧ j = i then v else kS k g j := rfl
theorem kB_Ss (k : KSt) (f i : Nat) (v : Int32) (j : Nat) : kB (kSs k f i v) j = kB k j := rfl
theorem kK_Ss (k : KSt) (f i : Nat) (v : Int32) (g j : Nat) : kK (kSs k f i v) g j = kK k g j := rfl
theorem kG_Bs (k : KSt) (i : Nat) (r : Nat → Int32) (g : Nat) : kG (kBs k i r) g = kG k g := rfl
theorem kN_Bs (k : KSt) (i : Nat) (r : Nat → Int32) : kN (kBs k i r) = kN k := rfl
theorem kS_Bs (k : KSt) (i : Nat) (r : Nat → Int32) (g j : Nat) : kS (kBs k i r) g j = kS k g j := rfl
theorem kB_Bs (k : KSt) (i : Nat) (r : Nat → Int32) (j : Nat) : kB (kBs k i r) j = if j = i then r else kB k j := rfl
theorem kK_Bs (k : KSt) (i : Nat) (r : Nat → Int32) (g j : Nat) : kK (kBs k i r) g j = kK k g j := rfl
theorem kG_Ks (k : KSt) (f i : Nat) (v : Int32) (g : Nat) : kG (kKs k f i v) g = kG k g := rfl
theorem kN_Ks (k : KSt) (f i : Nat) (v : Int32) : kN (kKs k f i v) = kN k := rfl
theorem kS_Ks (k : KSt) (f i : Nat) (v : Int32) (g j : Nat) : kS (kKs k f i v) g j = kS k g j := rfl
theorem kB_Ks (k : KSt) (f i : Nat) (v : Int32) (j : Nat) : kB (kKs k f i v) j = kB k j := rfl
theorem kK_Ks (k : KSt) (f i : Nat) (v : Int32) (g j : Nat) : kK (kKs k f i v) g j = if g = f ∧ j = i then v else kK k g j := rfl
/-- addresses: the kitchen, its two arrays; shelves, their rows; kinds -/
abbrev KAd : Type := (Nat → Nat) × (Nat → Nat) × (Nat → Nat) × (Nat → Nat)
def aO (a : KAd) (i : Nat) : Nat := a.1 i
def aS (a : KAd) (i : Nat) : Nat := a.2.1 i
def aB (a : KAd) (i : Nat) : Nat := a.2.2.1 i
def aK (a : KAd) (i : Nat) : Nat := a.2.2.2 i
def flO (a : KAd) (k : KSt) : List Value := [.ref (aO a 1), .ref (aO a 2), .int (kG k 0), .int (kG k 1), .int (kG k 2), .int (kG k 3), .int (kG k 4)]
def flS (a : KAd) (k : KSt) (i : Nat) : List Value := [.int (nI (24 * i)), .ref (aB a i), .int (kS k 2 i), .int (kS k 3 i), .int (kS k 4 i), .int (kS k 5 i), .int (kS k 6 i), .int (kS k 7 i)]
def flK (k : KSt) (j : Nat) : List Value := [.int (nI j), .int (kK k 1 j), .int (kK k 2 j), .int (kK k 3 j), .int (kK k 4 j), .int (kK k 5 j)]
/-- what the array of kinds holds -/
def knd (k : KSt) (j : Nat) : Option Nat := if j < kN k then some j else none
def ceO (a : KAd) (k : KSt) : Nat × va_E := (aO a 0, .inr (2, flO a k))
def ceA (c5 : Nat → ClassId) (a : KAd) : Nat × va_E := (aO a 1, .inl (c5 0, 12, .inr (.inr (.inr (.inr (fun i => some (aS a i)))))))
def ceC (c5 : Nat → ClassId) (a : KAd) (k : KSt) : Nat × va_E := (aO a 2, .inl (c5 1, 5, .inr (.inr (.inr (.inr (fun j => (knd k j).map (aK a)))))))
def ceS (a : KAd) (k : KSt) (i : Nat) : Nat × va_E := (aS a i, .inr (1, flS a k i))
def ceB (c5 : Nat → ClassId) (a : KAd) (k : KSt) (i : Nat) : Nat × va_E := (aB a i, .inl (c5 2, 12, .inl (kB k i)))
def ceK (a : KAd) (k : KSt) (j : Nat) : Nat × va_E := (aK a j, .inr (0, flK k j))
def KW (c5 : Nat → ClassId) (a : KAd) (k : KSt) : va_W := [ceO a k, ceA c5 a, ceC c5 a k] ++ ((List.range 12).map (ceS a k) ++ ((List.range 12).map (ceB c5 a k) ++ (List.range (kN k)).map (ceK a k)))
abbrev tyG (c5 : Nat → ClassId) : List (ClassId × FieldType) := [(c5 0, .object RX1), (c5 1, .object RX0), (c5 2, .boolean), (c5 3, .int), (c5 4, .array .int), (c5 5, .array .boolean)]
theorem KW_0 (c5 : Nat → ClassId) (a : KAd) (k : KSt) : (KW c5 a k)[0]? = some (aO a 0, .inr (2, flO a k)) := rfl
theorem KW_1 (c5 : Nat → ClassId) (a : KAd) (k : KSt) : (KW c5 a k)[1]? = some (aO a 1, .inl (c5 0, 12, .inr (.inr (.inr (.inr (fun i => some (aS a i))))))) := rfl
theorem KW_2 (c5 : Nat → ClassId) (a : KAd) (k : KSt) : (KW c5 a k)[2]? = some (aO a 2, .inl (c5 1, 5, .inr (.inr (.inr (.inr (fun j => (knd k j).map (aK a))))))) := rfl
theorem KW_S (c5 : Nat → ClassId) (a : KAd) (k : KSt) {i : Nat} (hi : i < 12) : (KW c5 a k)[3 + i]? = some (aS a i, .inr (1, flS a k i)) := by
  unfold KW
  rw [List.getElem?_append_right (by simp), List.getElem?_append_left (by simp; omega)]
  simp [hi, ceS]
theorem KW_B (c5 : Nat → ClassId) (a : KAd) (k : KSt) {i : Nat} (hi : i < 12) : (KW c5 a k)[15 + i]? = some (aB a i, .inl (c5 2, 12, .inl (kB k i))) := by
  unfold KW
  rw [List.getElem?_append_right (by simp; omega), List.getElem?_append_right (by simp; omega), List.getElem?_append_left (by simp; omega)]
  simp only [List.length_cons, List.length_nil, List.length_map, List.length_range, List.getElem?_map]
  rw [show 15 + i - (0 + 1 + 1 + 1) - 12 = i by omega, List.getElem?_range hi]
  rfl
theorem KW_K (c5 : Nat → ClassId) (a : KAd) (k : KSt) {j : Nat} (hj : j < kN k) : (KW c5 a k)[27 + j]? = some (aK a j, .inr (0, flK k j)) := by
  unfold KW
  rw [List.getElem?_append_right (by simp; omega), List.getElem?_append_right (by simp; omega), List.getElem?_append_right (by simp; omega)]
  simp only [List.length_cons, List.length_nil, List.length_map, List.length_range, List.getElem?_map]
  rw [show 27 + j - (0 + 1 + 1 + 1) - 12 - 12 = j by omega, List.getElem?_range hj]
  rfl
theorem set_map {α : Type} {n i : Nat} (f : Nat → α) (x : α) : ((List.range n).map f).set i x = (List.range n).map (fun j => if j = i then x else f j) := by
  apply List.ext_getElem?
  intro j
  by_cases h : j = i
  · subst h
    by_cases hj : j < n
    · rw [List.getElem?_set_self (by simpa using hj)]
      simp [hj]
    · rw [List.getElem?_eq_none (by simp; omega), List.getElem?_eq_none (by simp; omega)]
  · rw [List.getElem?_set_ne (Ne.symm h)]
    by_cases hj : j < n
    · simp [hj, h]
    · rw [List.getElem?_eq_none (by simp; omega), List.getElem?_eq_none (by simp; omega)]
theorem KW_set0 (c5 : Nat → ClassId) (a : KAd) (k : KSt) (f : Nat) (hf : f < 5) (v : Int32) : (KW c5 a k).set 0 (aO a 0, .inr (2, (flO a k).set (f + 2) (.int v))) = KW c5 a (kGs k f v) := by
  match f, hf with
  | 0, _ => rfl
  | 1, _ => rfl
  | 2, _ => rfl
  | 3, _ => rfl
  | 4, _ => rfl
theorem KW_setS (c5 : Nat → ClassId) (a : KAd) (k : KSt) {i : Nat} (hi : i < 12) (f : Nat) (hf : f < 6) (v : Int32) : (KW c5 a k).set (3 + i) (aS a i, .inr (1, (flS a k i).set (f + 2) (.int v))) = KW c5 a (kSs k (f + 2) i v) := by
  unfold KW
  rw [List.set_append_right _ _ (by simp), List.set_append_left _ _ (by simp; omega)]
  simp only [List.length_cons, List.length_nil]
  rw [show 3 + i - (0 + 1 + 1 + 1) = i by omega, set_map]
  congr 1
  congr 1
  apply List.map_congr_left
  intro j _
  by_cases h : j = i
  · subst h
    rw [if_pos rfl]
    match f, hf with
    | 0, _ => simp [ceS, flS, kS_Ss]
    | 1, _ => simp [ceS, flS, kS_Ss]
    | 2, _ => simp [ceS, flS, kS_Ss]
    | 3, _ => simp [ceS, flS, kS_Ss]
    | 4, _ => simp [ceS, flS, kS_Ss]
    | 5, _ => simp [ceS, flS, kS_Ss]
  · rw [if_neg h]
    simp [ceS, flS, kS_Ss, h]
theorem KW_setB (c5 : Nat → ClassId) (a : KAd) (k : KSt) {i : Nat} (hi : i < 12) (g : Nat → Int32) : (KW c5 a k).set (15 + i) (aB a i, .inl (c5 2, 12, .inl g)) = KW c5 a (kBs k i g) := by
  unfold KW
  rw [List.set_append_right _ _ (by simp; omega), List.set_append_right _ _ (by simp; omega), List.set_append_left _ _ (by simp; omega)]
  simp only [List.length_cons, List.length_nil, List.length_map, List.length_range]
  rw [show 15 + i - (0 + 1 + 1 + 1) - 12 = i by omega, set_map]
  have e : (List.range 12).map (fun j => if j = i then (aB a i, (.inl (c5 2, 12, .inl g) : va_E)) else ceB c5 a k j) = (List.range 12).map (ceB c5 a (kBs k i g)) := by
    apply List.map_congr_left
    intro j _
    by_cases h : j = i
    · subst h
      simp [ceB, kB_Bs]
    · simp [ceB, kB_Bs, h]
  rw [e]
  rfl
theorem KW_setK (c5 : Nat → ClassId) (a : KAd) (k : KSt) {j : Nat} (hj : j < kN k) (f : Nat) (hf : f < 5) (v : Int32) : (KW c5 a k).set (27 + j) (aK a j, .inr (0, (flK k j).set (f + 1) (.int v))) = KW c5 a (kKs k (f + 1) j v) := by
  unfold KW
  rw [List.set_append_right _ _ (by simp; omega), List.set_append_right _ _ (by simp; omega), List.set_append_right _ _ (by simp; omega)]
  simp only [List.length_cons, List.length_nil, List.length_map, List.length_range]
  rw [show 27 + j - (0 + 1 + 1 + 1) - 12 - 12 = j by omega, set_map]
  have e : (List.range (kN k)).map (fun i => if i = j then (aK a j, (.inr (0, (flK k j).set (f + 1) (.int v)) : va_E)) else ceK a k i) = (List.range (kN k)).map (ceK a (kKs k (f + 1) j v)) := by
    apply List.map_congr_left
    intro i _
    by_cases h : i = j
    · subst h
      rw [if_pos rfl]
      match f, hf with
      | 0, _ => simp [ceK, flK, kK_Ks]
      | 1, _ => simp [ceK, flK, kK_Ks]
      | 2, _ => simp [ceK, flK, kK_Ks]
      | 3, _ => simp [ceK, flK, kK_Ks]
      | 4, _ => simp [ceK, flK, kK_Ks]
    · rw [if_neg h]
      simp [ceK, flK, kK_Ks, h]
  rw [e]
  rfl
