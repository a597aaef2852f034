/-! the same on the reference's side -/
section LP
variable {n : Nat} {A : AS} {k : KSt} {m : MSt}
theorem b1_t {c : Bool} (h : c = true) : ¬ nI (b1 c) = 0 := fun e => by rw [b1_0] at e; rw [e] at h; cases h
theorem b1_f {c : Bool} (h : ¬ c = true) : nI (b1 c) = 0 := by rw [b1_0, ← Bool.not_eq_true]; exact h
theorem t_fewL (h : WF n A) (hm : MR m A) {j : Nat} (hj : j < p_n A) : ∀ (d i f : Nat) (a : Option Nat), i + d = 12 → d < f → (∀ b, a = some b → b < 12) → R_X3_fewest_L4 m (nI j) f (oI a) (nI i) = some (oI (fo (laF A j) d i a)) := by
  intro d
  induction d with
  | zero =>
    intro i f a hi hf ha
    obtain ⟨f, rfl⟩ : ∃ g, f = g + 1 := ⟨f - 1, by omega⟩
    obtain rfl : i = 12 := by omega
    rw [R_X3_fewest_L4, if_pos (by decide)]
    rfl
  | succ d ih =>
    intro i f a hi hf ha
    obtain ⟨f, rfl⟩ : ∃ g, f = g + 1 := ⟨f - 1, by omega⟩
    have hi2 : i < 12 := by omega
    have ihs := ih (i + 1) f (some i) (by omega) (by omega) (fun b hb => by cases hb; exact hi2)
    rw [R_X3_fewest_L4, if_neg (nI_nge hi2), nI_1, fo]
    rw [t_isUsed h hm hi2 hj, Option.bind_some]
    by_cases hu : us A j i = true
    · rw [if_neg (b1_t hu)]
      cases a with
      | none =>
        have e : laF A j none i = some i := if_pos hu
        rw [if_pos (show oI none = -1 from rfl), e]
        exact ihs
      | some b =>
        have hb2 := ha b rfl
        have p1 := pc_12 (p_b A i)
        have p2 := pc_12 (p_b A b)
        rw [if_neg (show ¬ oI (some b) = -1 from nI_m1 (by omega)), t_many h hm hi2, Option.bind_some, show oI (some b) = nI b from rfl, t_many h hm hb2, Option.bind_some]
        by_cases hp : pc (p_b A i) ≤ pc (p_b A b)
        · have e : laF A j (some b) i = some i := (if_pos hu).trans (if_pos hp)
          rw [if_neg (nI_nlt hp (by omega)), e]
          exact ihs
        · have e : laF A j (some b) i = some b := (if_pos hu).trans (if_neg hp)
          rw [if_pos (nI_lt (by omega) (by omega)), e]
          exact ih (i + 1) f (some b) (by omega) (by omega) ha
    · rw [if_pos (b1_f hu), ih (i + 1) f a (by omega) (by omega) ha]
      have e : laF A j a i = a := if_neg (fun q => hu q)
      rw [e]
theorem t_mostL (h : WF n A) (hm : MR m A) {j : Nat} (hj : j < p_n A) {but : Option Nat} (hbut : ∀ c, but = some c → c < 12) : ∀ (d i f : Nat) (a : Option Nat), i + d = 12 → d < f → (∀ b, a = some b → b < 12) → R_X3_most_L5 m (nI j) (oI but) f (oI a) (nI i) = some (oI (fo (moF A j but) d i a)) := by
  intro d
  induction d with
  | zero =>
    intro i f a hi hf ha
    obtain ⟨f, rfl⟩ : ∃ g, f = g + 1 := ⟨f - 1, by omega⟩
    obtain rfl : i = 12 := by omega
    rw [R_X3_most_L5, if_pos (by decide)]
    rfl
  | succ d ih =>
    intro i f a hi hf ha
    obtain ⟨f, rfl⟩ : ∃ g, f = g + 1 := ⟨f - 1, by omega⟩
    have hi2 : i < 12 := by omega
    have ihs := ih (i + 1) f (some i) (by omega) (by omega) (fun b hb => by cases hb; exact hi2)
    rw [R_X3_most_L5, if_neg (nI_nge hi2), nI_1, fo]
    by_cases hb : some i = but
    · rw [if_pos (by rw [← hb]; rfl), ih (i + 1) f a (by omega) (by omega) ha]
      have e : moF A j but a i = a := if_neg (fun q => q.2 hb)
      rw [e]
    · rw [if_neg (show ¬ nI i = oI but from fun q => by
        cases but with
        | none => exact nI_m1 (by omega) q
        | some c => exact hb (by rw [(nI_eq (by omega) (by have := hbut c rfl; omega)).mp q])), t_isUsed h hm hi2 hj, Option.bind_some]
      by_cases hu : us A j i = true
      · rw [if_neg (b1_t hu)]
        cases a with
        | none =>
          have e : moF A j but none i = some i := if_pos ⟨hu, hb⟩
          rw [if_pos (show oI none = -1 from rfl), e]
          exact ihs
        | some b =>
          have hb2 := ha b rfl
          have p1 := pc_12 (p_b A i)
          have p2 := pc_12 (p_b A b)
          rw [if_neg (show ¬ oI (some b) = -1 from nI_m1 (by omega)), t_many h hm hi2, Option.bind_some, show oI (some b) = nI b from rfl, t_many h hm hb2, Option.bind_some]
          by_cases hp : pc (p_b A b) < pc (p_b A i)
          · have e : moF A j but (some b) i = some i := (if_pos ⟨hu, hb⟩).trans (if_pos hp)
            rw [if_neg (nI_ge hp (by omega)), e]
            exact ihs
          · have e : moF A j but (some b) i = some b := (if_pos ⟨hu, hb⟩).trans (if_neg hp)
            rw [if_pos (nI_le (by omega) (by omega)), e]
            exact ih (i + 1) f (some b) (by omega) (by omega) ha
      · rw [if_pos (b1_f hu), ih (i + 1) f a (by omega) (by omega) ha]
        have e : moF A j but a i = a := if_neg (fun q => hu q.1)
        rw [e]
theorem t_fewest (h : WF n A) (hm : MR m A) {j : Nat} (hj : j < p_n A) : R_X3_fewest m (nI j) = some (oI (fo (laF A j) 12 0 none)) :=
  t_fewL h hm hj 12 0 FU none rfl (by decide) (fun b hb => by cases hb)
theorem t_most (h : WF n A) (hm : MR m A) {j : Nat} (hj : j < p_n A) {but : Option Nat} (hbut : ∀ c, but = some c → c < 12) : R_X3_most m (nI j) (oI but) = some (oI (fo (moF A j but) 12 0 none)) :=
  t_mostL h hm hj hbut 12 0 FU none rfl (by decide) (fun b hb => by cases hb)
theorem s_lastFew (h : WF n A) (hk : KR k A) {j : Nat} (hj : j < p_n A) : R_X2_lastFewestBowls k j = some (fo (laF A j) 12 0 none) :=
  s_lastFL h hk hj 12 0 FU none rfl (by decide) (fun b hb => by cases hb)
theorem s_most (h : WF n A) (hk : KR k A) {j : Nat} (hj : j < p_n A) (but : Option Nat) : R_X2_mostBowls k j but = some (fo (moF A j but) 12 0 none) :=
  s_mostL h hk hj but 12 0 FU none rfl (by decide) (fun b hb => by cases hb)
theorem t_better (h : WF n A) (hm : MR m A) {i b : Nat} (hi : i < 12) (hb : b < 12) : R_X3_isBetter m (nI i) (nI b) = some (nI (b1 (decide ((p_w A = 1 ∧ pc (p_b A b) < pc (p_b A i)) ∨ (p_w A = 2 ∧ pc (p_b A i) < pc (p_b A b)))))) := by
  have p1 := pc_12 (p_b A i)
  have p2 := pc_12 (p_b A b)
  have e1 : ∀ x y : Nat, x ≤ 12 → y ≤ 12 → ((nI x < nI y) ↔ x < y) := fun x y hx hy => nI_ltI (by omega) (by omega)
  have e2 : ∀ x y : Nat, x ≤ 12 → y ≤ 12 → ((nI x ≤ nI y) ↔ x ≤ y) := fun x y hx hy => nI_leI (by omega) (by omega)
  unfold R_X3_isBetter
  rw [if_pos (nI_m1 (by omega)), hm.1.2.2.1]
  simp only [t_many h hm hi, t_many h hm hb, Option.bind_some]
  by_cases w1 : p_w A = 1
  · rw [if_neg (fun q => q w1)]
    by_cases hp : pc (p_b A b) < pc (p_b A i)
    · rw [if_pos ((e1 _ _ p2 p1).mpr hp)]; simp [w1, hp, b1]; rfl
    · rw [if_neg (fun q => hp ((e1 _ _ p2 p1).mp q)), if_pos (show ¬ p_w A = 2 from by rw [w1]; decide)]
      simp [w1, hp, b1]; rfl
  · rw [if_pos w1]
    by_cases w2 : p_w A = 2
    · rw [if_neg (fun q => q w2)]
      by_cases hp : pc (p_b A i) < pc (p_b A b)
      · rw [if_neg (fun q => by have := (e2 _ _ p2 p1).mp q; omega)]; simp [w2, hp, b1]; rfl
      · rw [if_pos ((e2 _ _ p2 p1).mpr (by omega))]; simp [w2, hp, b1]; rfl
    · rw [if_pos w2]; simp [w1, w2, b1]; rfl
theorem t_68s (b : Nat) (hb : b < 12) (i f : Nat) (hi : i ≤ 12) : R_X3_shelfFor_L68 m (f + 1) (nI b) (nI i) = some (nI b) := by
  rw [R_X3_shelfFor_L68]
  by_cases e : (12 : Int32) ≤ nI i
  · rw [if_pos e]
  · rw [if_neg e, if_pos (nI_m1 (by omega))]
theorem t_68n (h : WF n A) (hm : MR m A) : ∀ (d i f : Nat), i + d = 12 → d + 1 < f → R_X3_shelfFor_L68 m f (-1) (nI i) = some (oI (fi (fr A) d i)) := by
  intro d
  induction d with
  | zero =>
    intro i f hi hf
    obtain ⟨f, rfl⟩ : ∃ g, f = g + 1 := ⟨f - 1, by omega⟩
    obtain rfl : i = 12 := by omega
    rw [R_X3_shelfFor_L68, if_pos (by decide)]
    rfl
  | succ d ih =>
    intro i f hi hf
    obtain ⟨f, rfl⟩ : ∃ g, f = g + 2 := ⟨f - 2, by omega⟩
    have hi2 : i < 12 := by omega
    rw [R_X3_shelfFor_L68, if_neg (nI_nge hi2), if_neg (fun q => q rfl), t_isFree h hm hi2, Option.bind_some, nI_1, fi]
    by_cases hu : fr A i = true
    · rw [if_neg (b1_t hu), if_pos hu, t_68s i hi2 (i + 1) f (by omega)]
      rfl
    · rw [if_pos (b1_f hu), if_neg hu, ih (i + 1) (f + 1) (by omega) (by omega)]
theorem t_38s (j b : Nat) (hb : b < 12) (i f : Nat) (hi : i ≤ 12) : R_X3_shelfFor_L38 m (nI j) (f + 1) (nI b) (nI i) = some (nI b) := by
  have e68 : R_X3_shelfFor_L68 m FU (nI b) 0 = some (nI b) := t_68s b hb 0 1999 (by omega)
  rw [R_X3_shelfFor_L38]
  by_cases e : (12 : Int32) ≤ nI i
  · rw [if_pos e, e68]
  · rw [if_neg e, if_pos (nI_m1 (by omega)), e68]
theorem t_38n (h : WF n A) (hm : MR m A) {j : Nat} (hj : j < p_n A) : ∀ (d i f : Nat), i + d = 12 → d + 1 < f → R_X3_shelfFor_L38 m (nI j) f (-1) (nI i) = some (oI (match fi (em A j) d i with
    | some i => some i
    | none => fi (fr A) 12 0)) := by
  have e68 : R_X3_shelfFor_L68 m FU (-1) 0 = some (oI (fi (fr A) 12 0)) := t_68n h hm 12 0 FU rfl (by decide)
  intro d
  induction d with
  | zero =>
    intro i f hi hf
    obtain ⟨f, rfl⟩ : ∃ g, f = g + 1 := ⟨f - 1, by omega⟩
    obtain rfl : i = 12 := by omega
    rw [R_X3_shelfFor_L38, if_pos (by decide), e68]
    rfl
  | succ d ih =>
    intro i f hi hf
    obtain ⟨f, rfl⟩ : ∃ g, f = g + 2 := ⟨f - 2, by omega⟩
    have hi2 : i < 12 := by omega
    rw [R_X3_shelfFor_L38, if_neg (nI_nge hi2), if_neg (fun q => q rfl), t_isEmpty h hm hi2 hj, Option.bind_some, nI_1, fi]
    by_cases hu : em A j i = true
    · rw [if_neg (b1_t hu), if_pos hu, t_38s j i hi2 (i + 1) f (by omega)]
      rfl
    · rw [if_pos (b1_f hu), if_neg hu, ih (i + 1) (f + 1) (by omega) (by omega)]
theorem t_4 (h : WF n A) (hm : MR m A) {j : Nat} (hj : j < p_n A) : ∀ (d i f : Nat) (a : Option Nat), i + d = 12 → d < f → (∀ b, a = some b → b < 12) → R_X3_shelfFor_L4 m (nI j) f (oI a) (nI i) = some (oI (match fo (byF A j) d i a with
    | some i => some i
    | none => (match fi (em A j) 12 0 with
      | some i => some i
      | none => fi (fr A) 12 0))) := by
  intro d
  induction d with
  | zero =>
    intro i f a hi hf ha
    obtain ⟨f, rfl⟩ : ∃ g, f = g + 1 := ⟨f - 1, by omega⟩
    obtain rfl : i = 12 := by omega
    rw [R_X3_shelfFor_L4, if_pos (by decide)]
    cases a with
    | none => exact t_38n h hm hj 12 0 FU rfl (by decide)
    | some b => exact t_38s j b (ha b rfl) 0 1999 (by omega)
  | succ d ih =>
    intro i f a hi hf ha
    obtain ⟨f, rfl⟩ : ∃ g, f = g + 1 := ⟨f - 1, by omega⟩
    have hi2 : i < 12 := by omega
    have ihs := ih (i + 1) f (some i) (by omega) (by omega) (fun b hb => by cases hb; exact hi2)
    rw [R_X3_shelfFor_L4, if_neg (nI_nge hi2), t_isUsed h hm hi2 hj, Option.bind_some, nI_1, fo]
    by_cases hu : us A j i = true
    · rw [if_neg (b1_t hu)]
      cases a with
      | none =>
        have e : byF A j none i = some i := if_pos hu
        have e2 : R_X3_isBetter m (nI i) (oI none) = some (1 : Int32) := by
          unfold R_X3_isBetter
          rw [if_neg (fun q => q rfl)]
        rw [e2, Option.bind_some, if_neg (by decide), e]
        exact ihs
      | some b =>
        have hb2 := ha b rfl
        rw [show oI (some b) = nI b from rfl, t_better h hm hi2 hb2, Option.bind_some]
        by_cases hp : (p_w A = 1 ∧ pc (p_b A b) < pc (p_b A i)) ∨ (p_w A = 2 ∧ pc (p_b A i) < pc (p_b A b))
        · have e : byF A j (some b) i = some i := (if_pos hu).trans (if_pos hp)
          rw [if_neg (b1_t (decide_eq_true hp)), e]
          exact ihs
        · have e : byF A j (some b) i = some b := (if_pos hu).trans (if_neg hp)
          rw [if_pos (b1_f (by rw [decide_eq_true_eq]; exact hp)), e]
          exact ih (i + 1) f (some b) (by omega) (by omega) ha
    · rw [if_pos (b1_f hu), ih (i + 1) f a (by omega) (by omega) ha]
      have e : byF A j a i = a := if_neg hu
      rw [e]
theorem t_toPut (h : WF n A) (hm : MR m A) {j : Nat} (hj : j < p_n A) : R_X3_shelfFor m (nI j) = some (oI (toP A j)) :=
  t_4 h hm hj 12 0 FU none rfl (by decide) (fun b hb => by cases hb)

end LP
