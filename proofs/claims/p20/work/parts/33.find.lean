/-! choosing shelves: loops over twelve, on both sides -/
def moF (A : AS) (j : Nat) (but : Option Nat) (a : Option Nat) (i : Nat) : Option Nat := if us A j i = true ∧ some i ≠ but then (match a with
  | none => some i
  | some b => if pc (p_b A b) < pc (p_b A i) then some i else some b) else a
def feF (A : AS) (j : Nat) (a : Option Nat) (i : Nat) : Option Nat := if us A j i = true then (match a with
  | none => some i
  | some b => if pc (p_b A i) < pc (p_b A b) then some i else some b) else a
def laF (A : AS) (j : Nat) (a : Option Nat) (i : Nat) : Option Nat := if us A j i = true then (match a with
  | none => some i
  | some b => if pc (p_b A i) ≤ pc (p_b A b) then some i else some b) else a
/-- by the way: the first, the most, the fewest -/
def byF (A : AS) (j : Nat) (a : Option Nat) (i : Nat) : Option Nat := if us A j i = true then (match a with
  | none => some i
  | some b => if (p_w A = 1 ∧ pc (p_b A b) < pc (p_b A i)) ∨ (p_w A = 2 ∧ pc (p_b A i) < pc (p_b A b)) then some i else some b) else a
section LP
variable {n : Nat} {A : AS} {k : KSt}
theorem stN_le (A : AS) (i : Nat) : stN A i ≤ 3 := by
  unfold stN
  by_cases h1 : p_o A i = 0
  · simp [h1]
  · by_cases h2 : p_b A i = 0
    · simp [h1, h2]
    · by_cases h3 : pc (p_b A i) < p_ps A i <;> simp [h1, h2, h3]
theorem st_I {i x : Nat} (hx : x < 100) : nI (stN A i) = nI x ↔ stN A i = x := nI_eq (by have := stN_le A i; omega) (by omega)
theorem us_st {j i : Nat} : us A j i = true ↔ p_o A i = j + 1 ∧ stN A i = 2 := by
  unfold us stN
  by_cases h1 : p_o A i = j + 1
  · by_cases h2 : p_b A i = 0
    · simp [h1, h2]
    · by_cases h3 : pc (p_b A i) < p_ps A i
      · simp [h1, h2, h3]
      · simp [h1, h2, h3]
  · simp [h1]
theorem em_st {j i : Nat} : em A j i = true ↔ p_o A i = j + 1 ∧ stN A i = 1 := by
  unfold em stN
  by_cases h1 : p_o A i = j + 1
  · by_cases h2 : p_b A i = 0
    · simp [h1, h2]
    · by_cases h3 : pc (p_b A i) < p_ps A i
      · simp [h1, h2, h3]
      · simp [h1, h2, h3]
  · simp [h1]
theorem fr_st {i : Nat} : fr A i = true ↔ stN A i = 0 := by
  unfold fr stN
  by_cases h1 : p_o A i = 0
  · simp [h1]
  · by_cases h2 : p_b A i = 0
    · simp [h1, h2]
    · by_cases h3 : pc (p_b A i) < p_ps A i
      · simp [h1, h2, h3]
      · simp [h1, h2, h3]
theorem ofK_t {j i : Nat} : ofK A j i = true ↔ p_o A i = j + 1 := by simp [ofK]
theorem oI_lt {a : Option Nat} (ha : ∀ b, a = some b → b < 12) : (oI a = -1) ↔ a = none := by
  cases a with
  | none => exact ⟨fun _ => rfl, fun _ => rfl⟩
  | some b => exact ⟨fun e => absurd e (nI_m1 (by have := ha b rfl; omega)), fun e => by cases e⟩

theorem s_mostL (h : WF n A) (hk : KR k A) {j : Nat} (hj : j < p_n A) (but : Option Nat) : ∀ (d i f : Nat) (a : Option Nat), i + d = 12 → d < f → (∀ b, a = some b → b < 12) → R_X2_mostBowls_L16 k j but f a (nI i) = some (fo (moF A j but) d i a) := by
  intro d
  induction d with
  | zero =>
    intro i f a hi hf ha
    obtain ⟨f, rfl⟩ : ∃ g, f = g + 1 := ⟨f - 1, by omega⟩
    obtain rfl : i = 12 := by omega
    rw [R_X2_mostBowls_L16, if_pos (by decide)]
    rfl
  | succ d ih =>
    intro i f a hi hf ha
    obtain ⟨f, rfl⟩ : ∃ g, f = g + 1 := ⟨f - 1, by omega⟩
    have hi2 : i < 12 := by omega
    rw [R_X2_mostBowls_L16, if_neg (nI_nge hi2), if_pos (nI_inb hi2), nI_cl hi2, nI_1, fo]
    by_cases hb : some i = but
    · rw [if_pos hb, ih (i + 1) f a (by omega) (by omega) ha]
      have e : moF A j but a i = a := if_neg (fun q => q.2 hb)
      rw [e]
    · rw [if_neg hb]
      rw [s_isOf h hk hi2 hj, Option.bind_some]
      by_cases ho : p_o A i = j + 1
      · rw [if_neg (fun e => by rw [b1_0] at e; have := ofK_t.mpr ho; rw [e] at this; cases this), s_state h hk hi2, Option.bind_some]
        by_cases hs : stN A i = 2
        · rw [if_neg (fun q => q (by rw [hs]; rfl))]
          have hu : us A j i = true := us_st.mpr ⟨ho, hs⟩
          cases a with
          | none =>
            show R_X2_mostBowls_L16 k j but f (some i) (nI (i + 1)) = _
            rw [ih (i + 1) f (some i) (by omega) (by omega) (fun b hb => by cases hb; exact hi2)]
            have e : moF A j but none i = some i := if_pos ⟨hu, hb⟩
            rw [e]
          | some b =>
            have hb2 := ha b rfl
            have p1 := pc_12 (p_b A i)
            have p2 := pc_12 (p_b A b)
            show (if b < 12 then _ else none) = _
            rw [if_pos hb2, (hk.2.2 i hi2).2.2.2.2.1, (hk.2.2 b hb2).2.2.2.2.1]
            by_cases hp : pc (p_b A b) < pc (p_b A i)
            · rw [if_neg (nI_ge hp (by omega)), ih (i + 1) f (some i) (by omega) (by omega) (fun b hb => by cases hb; exact hi2)]
              have e : moF A j but (some b) i = some i := (if_pos ⟨hu, hb⟩).trans (if_pos hp)
              rw [e]
            · rw [if_pos (nI_le (by omega) (by omega)), ih (i + 1) f (some b) (by omega) (by omega) ha]
              have e : moF A j but (some b) i = some b := (if_pos ⟨hu, hb⟩).trans (if_neg hp)
              rw [e]
        · rw [if_pos (show ¬ nI (stN A i) = 2 from fun q => hs ((st_I (x := 2) (by omega)).mp q)), ih (i + 1) f a (by omega) (by omega) ha]
          have e : moF A j but a i = a := if_neg (fun q => hs (us_st.mp q.1).2)
          rw [e]
      · rw [if_pos (by rw [b1_0, ← Bool.not_eq_true]; exact fun q => ho (ofK_t.mp q)), ih (i + 1) f a (by omega) (by omega) ha]
        have e : moF A j but a i = a := if_neg (fun q => ho (us_st.mp q.1).1)
        rw [e]
theorem s_fewL (h : WF n A) (hk : KR k A) {j : Nat} (hj : j < p_n A) : ∀ (d i f : Nat) (a : Option Nat), i + d = 12 → d < f → (∀ b, a = some b → b < 12) → R_X2_fewestBowls_L14 k j f a (nI i) = some (fo (feF A j) d i a) := by
  intro d
  induction d with
  | zero =>
    intro i f a hi hf ha
    obtain ⟨f, rfl⟩ : ∃ g, f = g + 1 := ⟨f - 1, by omega⟩
    obtain rfl : i = 12 := by omega
    rw [R_X2_fewestBowls_L14, if_pos (by decide)]
    rfl
  | succ d ih =>
    intro i f a hi hf ha
    obtain ⟨f, rfl⟩ : ∃ g, f = g + 1 := ⟨f - 1, by omega⟩
    have hi2 : i < 12 := by omega
    rw [R_X2_fewestBowls_L14, if_neg (nI_nge hi2), if_pos (nI_inb hi2), nI_cl hi2, nI_1, fo]
    rw [s_isOf h hk hi2 hj, Option.bind_some]
    by_cases ho : p_o A i = j + 1
    · rw [if_neg (fun e => by rw [b1_0] at e; have := ofK_t.mpr ho; rw [e] at this; cases this), s_state h hk hi2, Option.bind_some]
      by_cases hs : stN A i = 2
      · rw [if_neg (fun q => q (by rw [hs]; rfl))]
        have hu : us A j i = true := us_st.mpr ⟨ho, hs⟩
        cases a with
        | none =>
          show R_X2_fewestBowls_L14 k j f (some i) (nI (i + 1)) = _
          rw [ih (i + 1) f (some i) (by omega) (by omega) (fun b hb => by cases hb; exact hi2)]
          have e : feF A j none i = some i := if_pos hu
          rw [e]
        | some b =>
          have hb2 := ha b rfl
          have p1 := pc_12 (p_b A i)
          have p2 := pc_12 (p_b A b)
          show (if b < 12 then _ else none) = _
          rw [if_pos hb2, (hk.2.2 i hi2).2.2.2.2.1, (hk.2.2 b hb2).2.2.2.2.1]
          by_cases hp : pc (p_b A i) < pc (p_b A b)
          · rw [if_neg (nI_ge hp (by omega)), ih (i + 1) f (some i) (by omega) (by omega) (fun b hb => by cases hb; exact hi2)]
            have e : feF A j (some b) i = some i := (if_pos hu).trans (if_pos hp)
            rw [e]
          · rw [if_pos (nI_le (by omega) (by omega)), ih (i + 1) f (some b) (by omega) (by omega) ha]
            have e : feF A j (some b) i = some b := (if_pos hu).trans (if_neg hp)
            rw [e]
      · rw [if_pos (show ¬ nI (stN A i) = 2 from fun q => hs ((st_I (x := 2) (by omega)).mp q)), ih (i + 1) f a (by omega) (by omega) ha]
        have e : feF A j a i = a := if_neg (fun q => hs (us_st.mp q).2)
        rw [e]
    · rw [if_pos (by rw [b1_0, ← Bool.not_eq_true]; exact fun q => ho (ofK_t.mp q)), ih (i + 1) f a (by omega) (by omega) ha]
      have e : feF A j a i = a := if_neg (fun q => ho (us_st.mp q).1)
      rw [e]
theorem s_lastFL (h : WF n A) (hk : KR k A) {j : Nat} (hj : j < p_n A) : ∀ (d i f : Nat) (a : Option Nat), i + d = 12 → d < f → (∀ b, a = some b → b < 12) → R_X2_lastFewestBowls_L14 k j f a (nI i) = some (fo (laF A j) d i a) := by
  intro d
  induction d with
  | zero =>
    intro i f a hi hf ha
    obtain ⟨f, rfl⟩ : ∃ g, f = g + 1 := ⟨f - 1, by omega⟩
    obtain rfl : i = 12 := by omega
    rw [R_X2_lastFewestBowls_L14, if_pos (by decide)]
    rfl
  | succ d ih =>
    intro i f a hi hf ha
    obtain ⟨f, rfl⟩ : ∃ g, f = g + 1 := ⟨f - 1, by omega⟩
    have hi2 : i < 12 := by omega
    rw [R_X2_lastFewestBowls_L14, if_neg (nI_nge hi2), if_pos (nI_inb hi2), nI_cl hi2, nI_1, fo]
    rw [s_isOf h hk hi2 hj, Option.bind_some]
    by_cases ho : p_o A i = j + 1
    · rw [if_neg (fun e => by rw [b1_0] at e; have := ofK_t.mpr ho; rw [e] at this; cases this), s_state h hk hi2, Option.bind_some]
      by_cases hs : stN A i = 2
      · rw [if_neg (fun q => q (by rw [hs]; rfl))]
        have hu : us A j i = true := us_st.mpr ⟨ho, hs⟩
        cases a with
        | none =>
          show R_X2_lastFewestBowls_L14 k j f (some i) (nI (i + 1)) = _
          rw [ih (i + 1) f (some i) (by omega) (by omega) (fun b hb => by cases hb; exact hi2)]
          have e : laF A j none i = some i := if_pos hu
          rw [e]
        | some b =>
          have hb2 := ha b rfl
          have p1 := pc_12 (p_b A i)
          have p2 := pc_12 (p_b A b)
          show (if b < 12 then _ else none) = _
          rw [if_pos hb2, (hk.2.2 i hi2).2.2.2.2.1, (hk.2.2 b hb2).2.2.2.2.1]
          by_cases hp : pc (p_b A i) ≤ pc (p_b A b)
          · rw [if_neg (nI_nlt hp (by omega)), ih (i + 1) f (some i) (by omega) (by omega) (fun b hb => by cases hb; exact hi2)]
            have e : laF A j (some b) i = some i := (if_pos hu).trans (if_pos hp)
            rw [e]
          · rw [if_pos (nI_lt (by omega) (by omega)), ih (i + 1) f (some b) (by omega) (by omega) ha]
            have e : laF A j (some b) i = some b := (if_pos hu).trans (if_neg hp)
            rw [e]
      · rw [if_pos (show ¬ nI (stN A i) = 2 from fun q => hs ((st_I (x := 2) (by omega)).mp q)), ih (i + 1) f a (by omega) (by omega) ha]
        have e : laF A j a i = a := if_neg (fun q => hs (us_st.mp q).2)
        rw [e]
    · rw [if_pos (by rw [b1_0, ← Bool.not_eq_true]; exact fun q => ho (ofK_t.mp q)), ih (i + 1) f a (by omega) (by omega) ha]
      have e : laF A j a i = a := if_neg (fun q => ho (us_st.mp q).1)
      rw [e]
theorem s_firstL (h : WF n A) (hk : KR k A) {j x : Nat} (hj : j < p_n A) (hx : x < 100) : ∀ (d i f : Nat), i + d = 12 → d < f → R_X2_firstInState_L12 k j (nI x) f (nI i) = some (fi (fun q => p_o A q == j + 1 && stN A q == x) d i) := by
  intro d
  induction d with
  | zero =>
    intro i f hi hf
    obtain ⟨f, rfl⟩ : ∃ g, f = g + 1 := ⟨f - 1, by omega⟩
    obtain rfl : i = 12 := by omega
    rw [R_X2_firstInState_L12, if_pos (by decide)]
    rfl
  | succ d ih =>
    intro i f hi hf
    obtain ⟨f, rfl⟩ : ∃ g, f = g + 1 := ⟨f - 1, by omega⟩
    have hi2 : i < 12 := by omega
    rw [R_X2_firstInState_L12, if_neg (nI_nge hi2), if_pos (nI_inb hi2), nI_cl hi2, nI_1, fi, s_isOf h hk hi2 hj, Option.bind_some]
    by_cases ho : p_o A i = j + 1
    · rw [if_neg (fun e => by rw [b1_0] at e; have := ofK_t.mpr ho; rw [e] at this; cases this), s_state h hk hi2, Option.bind_some]
      by_cases hs : stN A i = x
      · rw [if_neg (fun q => q (by rw [hs]))]; simp [ho, hs]
      · rw [if_pos (fun q => hs ((st_I hx).mp q)), ih (i + 1) f (by omega) (by omega)]; simp [hs]
    · rw [if_pos (by rw [b1_0, ← Bool.not_eq_true]; exact fun q => ho (ofK_t.mp q)), ih (i + 1) f (by omega) (by omega)]; simp [ho]
theorem s_freeL (h : WF n A) (hk : KR k A) : ∀ (d i f : Nat), i + d = 12 → d < f → R_X2_firstFree_L10 k f (nI i) = some (fi (fr A) d i) := by
  intro d
  induction d with
  | zero =>
    intro i f hi hf
    obtain ⟨f, rfl⟩ : ∃ g, f = g + 1 := ⟨f - 1, by omega⟩
    obtain rfl : i = 12 := by omega
    rw [R_X2_firstFree_L10, if_pos (by decide)]
    rfl
  | succ d ih =>
    intro i f hi hf
    obtain ⟨f, rfl⟩ : ∃ g, f = g + 1 := ⟨f - 1, by omega⟩
    have hi2 : i < 12 := by omega
    rw [R_X2_firstFree_L10, if_neg (nI_nge hi2), if_pos (nI_inb hi2), nI_cl hi2, nI_1, fi, s_state h hk hi2, Option.bind_some]
    by_cases hs : stN A i = 0
    · rw [if_neg (fun q => q (by rw [hs]; rfl)), if_pos (fr_st.mpr hs)]
    · rw [if_pos (show ¬ nI (stN A i) = 0 from fun q => hs ((st_I (x := 0) (by omega)).mp q)), if_neg (fun q => hs (fr_st.mp q)), ih (i + 1) f (by omega) (by omega)]
theorem fo_lt {f : Option Nat → Nat → Option Nat} (hf : ∀ a i, f a i = a ∨ f a i = some i) : ∀ (d i : Nat) (a : Option Nat), i + d = 12 → (∀ b, a = some b → b < 12) → ∀ b, fo f d i a = some b → b < 12 := by
  intro d
  induction d with
  | zero => intro i a _ ha; exact ha
  | succ d ih =>
    intro i a hi ha
    rw [fo]
    refine ih (i + 1) _ (by omega) (fun b hb => ?_)
    rcases hf a i with e | e
    · rw [e] at hb; exact ha b hb
    · rw [e] at hb; cases hb; omega
theorem moF_or (A : AS) (j : Nat) (but : Option Nat) (a : Option Nat) (i : Nat) : moF A j but a i = a ∨ moF A j but a i = some i := by
  unfold moF
  split
  · split
    · exact Or.inr rfl
    · split
      · exact Or.inr rfl
      · exact Or.inl rfl
  · exact Or.inl rfl
theorem feF_or (A : AS) (j : Nat) (a : Option Nat) (i : Nat) : feF A j a i = a ∨ feF A j a i = some i := by
  unfold feF
  split
  · split
    · exact Or.inr rfl
    · split
      · exact Or.inr rfl
      · exact Or.inl rfl
  · exact Or.inl rfl
theorem laF_or (A : AS) (j : Nat) (a : Option Nat) (i : Nat) : laF A j a i = a ∨ laF A j a i = some i := by
  unfold laF
  split
  · split
    · exact Or.inr rfl
    · split
      · exact Or.inr rfl
      · exact Or.inl rfl
  · exact Or.inl rfl
theorem byF_or (A : AS) (j : Nat) (a : Option Nat) (i : Nat) : byF A j a i = a ∨ byF A j a i = some i := by
  unfold byF
  split
  · split
    · exact Or.inr rfl
    · split
      · exact Or.inr rfl
      · exact Or.inl rfl
  · exact Or.inl rfl
/-- the shelf to which a bowl comes -/
def toP (A : AS) (j : Nat) : Option Nat := match fo (byF A j) 12 0 none with
  | some i => some i
  | none => (match fi (em A j) 12 0 with
    | some i => some i
    | none => fi (fr A) 12 0)
theorem by_1 (hw : p_w A = 1) (j : Nat) : byF A j = moF A j none := by
  funext a i
  unfold byF moF
  by_cases hu : us A j i = true
  · rw [if_pos hu, if_pos ⟨hu, by simp⟩]
    cases a with
    | none => rfl
    | some b => simp [hw]
  · rw [if_neg hu, if_neg (fun q => hu q.1)]
theorem by_2 (hw : p_w A = 2) (j : Nat) : byF A j = feF A j := by
  funext a i
  unfold byF feF
  by_cases hu : us A j i = true
  · rw [if_pos hu, if_pos hu]
    cases a with
    | none => rfl
    | some b => simp [hw]
  · rw [if_neg hu, if_neg hu]
theorem by_0 (h1 : p_w A ≠ 1) (h2 : p_w A ≠ 2) (j d i : Nat) : fo (byF A j) d i none = fi (us A j) d i := by
  rw [← fo_fi]
  refine fo_congr d i none (fun a q _ _ => ?_)
  unfold byF
  by_cases hu : us A j q = true
  · cases a with
    | none => simp [hu]
    | some b => simp [hu, h1, h2]
  · cases a with
    | none => simp [hu]
    | some b => simp [hu]
theorem s_byWay (h : WF n A) (hk : KR k A) {j : Nat} (hj : j < p_n A) : R_X2_inUseByWay k j = some (fo (byF A j) 12 0 none) := by
  unfold R_X2_inUseByWay
  rw [hk.1.2.1]
  by_cases h1 : p_w A = 1
  · rw [if_pos h1, by_1 h1]
    unfold R_X2_mostBowls
    rw [show (0 : Int32) = nI 0 from rfl, s_mostL h hk hj none 12 0 FU none rfl (by decide) (fun b hb => by cases hb)]
    rfl
  · rw [if_neg h1]
    by_cases h2 : p_w A = 2
    · rw [if_pos h2, by_2 h2]
      unfold R_X2_fewestBowls
      rw [show (0 : Int32) = nI 0 from rfl, s_fewL h hk hj 12 0 FU none rfl (by decide) (fun b hb => by cases hb)]
      rfl
    · rw [if_neg h2, by_0 h1 h2]
      unfold R_X2_firstInState
      rw [show (0 : Int32) = nI 0 from rfl, show (2 : Int32) = nI 2 from rfl, s_firstL h hk hj (by omega) 12 0 FU rfl (by decide)]
      refine congrArg some (fi_congr 12 0 (fun x _ _ => ?_))
      rw [Bool.eq_iff_iff, us_st]
      simp
theorem s_toPut (h : WF n A) (hk : KR k A) {j : Nat} (hj : j < p_n A) : R_X2_shelfToPut k j = some (toP A j) := by
  unfold R_X2_shelfToPut toP
  rw [s_byWay h hk hj, Option.bind_some]
  cases hf : fo (byF A j) 12 0 none with
  | some i =>
    have := fo_lt (byF_or A j) 12 0 none rfl (fun b hb => by cases hb) i hf
    show (if i < 12 then _ else none) = _
    rw [if_pos this]
  | none =>
    show (R_X2_firstInState k j 1).bind _ = _
    unfold R_X2_firstInState
    rw [show (0 : Int32) = nI 0 from rfl, show (1 : Int32) = nI 1 from rfl, s_firstL h hk hj (by omega) 12 0 FU rfl (by decide), Option.bind_some]
    rw [fi_congr (q := em A j) 12 0 (fun x _ _ => by rw [Bool.eq_iff_iff, em_st]; simp)]
    cases hg : fi (em A j) 12 0 with
    | some i =>
      have := (fi_some hg).2.1
      show (if i < 12 then _ else none) = _
      rw [if_pos (by omega)]
    | none =>
      show (R_X2_firstFree k).bind _ = _
      unfold R_X2_firstFree
      rw [show (0 : Int32) = nI 0 from rfl, s_freeL h hk 12 0 FU rfl (by decide)]
      rfl

end LP
