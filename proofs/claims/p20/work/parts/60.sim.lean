/-! the Sim's raw state and the abstract kitchen -/
def SR (z : SSt) (A : AS) : Prop := (zF z 0 = p_t A ∧ zF z 1 = p_w A ∧ zF z 2 = p_p A ∧ zF z 3 = p_m A ∧ zN z = p_n A) ∧
  (∀ j, j < p_n A → zK z j 0 = nI (p_z A j) ∧ zK z j 1 = nI (p_g A j)) ∧
  ∀ i, i < 12 → zH z i 0 = p_oI A i ∧ (p_o A i ≠ 0 → zH z i 1 = nI (p_r A i)) ∧ zH z i 2 = p_s A i ∧ zL z i = p_ps A i ∧ ∀ q, q < 12 → zB z i q = nI (b1 ((p_b A i).testBit q))
/-- the way is one of three; the time is small; an empty shelf's time is past -/
def WT (n : Nat) (A : AS) : Prop := (p_w A = 0 ∨ p_w A = 1 ∨ p_w A = 2) ∧ ∃ t : Nat, t ≤ n ∧ p_t A = nI t ∧ ∀ i, i < 12 → p_o A i ≠ 0 → p_b A i = 0 → ∃ u : Nat, u ≤ t ∧ p_s A i = nI u
theorem zc0 : ((0 : Int32).toNatClampNeg) = 0 := by decide
theorem zc1 : ((1 : Int32).toNatClampNeg) = 1 := by decide
theorem zc2 : ((2 : Int32).toNatClampNeg) = 2 := by decide
theorem zc3 : ((3 : Int32).toNatClampNeg) = 3 := by decide
theorem zc4 : ((4 : Int32).toNatClampNeg) = 4 := by decide
theorem zc5 : ((5 : Int32).toNatClampNeg) = 5 := by decide
theorem zc6 : ((6 : Int32).toNatClampNeg) = 6 := by decide
theorem zc7 : ((7 : Int32).toNatClampNeg) = 7 := by decide
theorem zc8 : ((8 : Int32).toNatClampNeg) = 8 := by decide
theorem zc9 : ((9 : Int32).toNatClampNeg) = 9 := by decide
theorem nI_le0 {a : Nat} (ha : a < 2 ^ 31) : nI a ≤ 0 ↔ a = 0 := by
  refine ⟨fun h => ?_, fun h => by subst h; exact nI_le (a := 0) (b := 0) (Nat.le_refl _) (by omega)⟩
  exact Nat.eq_zero_of_not_pos fun hp => nI_ge (a := 0) (b := a) hp ha h
theorem nI_i0 (x : Int32) : x + 0 = x := Int32.add_zero x
theorem sm_cut {f : Nat → Nat} {P : Nat} : ∀ d, (∀ x, P ≤ x → x < P + d → f x = 0) → sm f (P + d) = sm f P := by
  intro d
  induction d with
  | zero => intro _; rfl
  | succ d ih =>
    intro h
    rw [show P + (d + 1) = (P + d) + 1 by omega, sm, ih (fun x h1 h2 => h x h1 (by omega)), h (P + d) (by omega) (by omega), Nat.add_zero]
theorem pc_ps {x P : Nat} (hx : x < 2 ^ P) (hP : P ≤ 12) : sm (fun q => b1 (x.testBit q)) P = pc x := by
  have h := sm_cut (f := fun q => b1 (x.testBit q)) (P := P) (12 - P) (fun y h1 _ => by rw [tb_lt hx h1]; rfl)
  rw [show P + (12 - P) = 12 by omega] at h
  exact h.symm
section LP
variable {n : Nat} {A : AS} {k : KSt} {z : SSt}
theorem SR.nn (hs : SR z A) : zN z = p_n A := hs.1.2.2.2.2
theorem SR.l (hs : SR z A) {i : Nat} (hi : i < 12) : zL z i = p_ps A i := (hs.2.2 i hi).2.2.2.1
theorem SR.o (hs : SR z A) {i : Nat} (hi : i < 12) : zH z i 0 = p_oI A i := (hs.2.2 i hi).1
theorem SR.b (hs : SR z A) {i q : Nat} (hi : i < 12) (hq : q < 12) : zB z i q = nI (b1 ((p_b A i).testBit q)) := (hs.2.2 i hi).2.2.2.2 q hq
theorem SR.s (hs : SR z A) {i : Nat} (hi : i < 12) : zH z i 2 = p_s A i := (hs.2.2 i hi).2.2.1
theorem bt_0 {x q : Nat} (hb : x.testBit q = true) : ¬ nI (b1 (x.testBit q)) = 0 := fun e => by rw [b1_0, hb] at e; cases e
theorem u_manyL (hs : SR z A) {i : Nat} (hi : i < 12) (hp : p_ps A i ≤ 12) : ∀ (d q f a : Nat), q + d = p_ps A i → d < f → R_X3_many_L16 z (nI i) f (nI q) (nI a) = some (nI (fo (fun a q => a + b1 ((p_b A i).testBit q)) d q a)) := by
  intro d
  induction d with
  | zero =>
    intro q f a hq hf
    obtain ⟨f, rfl⟩ : ∃ g, f = g + 1 := ⟨f - 1, by omega⟩
    rw [R_X3_many_L16, nI_cl hi, hs.l hi, if_pos (nI_le (by omega) (by omega))]
    rfl
  | succ d ih =>
    intro q f a hq hf
    obtain ⟨f, rfl⟩ : ∃ g, f = g + 1 := ⟨f - 1, by omega⟩
    rw [R_X3_many_L16, nI_cl hi, hs.l hi, if_neg (nI_ge (by omega) (by omega)), if_pos (inb_nI (by omega) (by omega)), cl (by omega), hs.b hi (by omega), nI_1 q, nI_1 a, nI_i0, fo]
    by_cases hb : (p_b A i).testBit q = true
    · rw [if_neg (bt_0 hb), ih (q + 1) f (a + 1) (by omega) (by omega), hb]
      rfl
    · rw [Bool.not_eq_true] at hb
      rw [if_pos (b1_0.mpr hb), ih (q + 1) f a (by omega) (by omega), hb]
      rfl
theorem u_many (h : WF n A) (hs : SR z A) {i : Nat} (hi : i < 12) : R_X3_many z (nI i) = some (nI (pc (p_b A i))) := by
  have hp := w_ps h hi
  unfold R_X3_many
  rw [if_pos (nI_inb hi)]
  refine (u_manyL hs hi hp (p_ps A i) 0 FU 0 (Nat.zero_add _) (by unfold FU; omega)).trans ?_
  rw [fo_sm0, pc_ps (w_b h hi) hp]
theorem u_isUsed (h : WF n A) (hs : SR z A) {i j : Nat} (hi : i < 12) (hj : j < p_n A) : R_X3_isUsed z (nI i) (nI j) = some (nI (b1 (us A j i))) := by
  have h5 := h.1
  have hp := w_ps h hi
  have hc := pc_12 (p_b A i)
  unfold R_X3_isUsed
  rw [if_pos (nI_inb hi), if_pos (by decide), zc0, nI_cl hi, hs.o hi]
  by_cases e : p_o A i = j + 1
  · rw [if_neg (fun q => q ((oI_eq h hi (by omega)).mpr e)), u_many h hs hi, Option.bind_some]
    by_cases e2 : p_b A i = 0
    · rw [if_pos ((nI_le0 (by omega)).mpr ((pc_b0 h hi).mpr e2))]
      simp [us, e2, b1]; rfl
    · rw [if_neg (fun q => e2 ((pc_b0 h hi).mp ((nI_le0 (by omega)).mp q))), Option.bind_some, if_pos (nI_inb hi), hs.l hi]
      by_cases e3 : pc (p_b A i) < p_ps A i
      · rw [if_neg (nI_ge e3 (by omega))]
        simp [us, e, e2, e3, b1]; rfl
      · rw [if_pos (nI_le (by omega) (by omega))]
        simp [us, e3, b1]; rfl
  · rw [if_pos (fun q => e ((oI_eq h hi (by omega)).mp q))]
    simp [us, e, b1]; rfl
theorem u_isEmpty (h : WF n A) (hs : SR z A) {i j : Nat} (hi : i < 12) (hj : j < p_n A) : R_X3_isEmpty z (nI i) (nI j) = some (nI (b1 (em A j i))) := by
  have h5 := h.1
  have hc := pc_12 (p_b A i)
  unfold R_X3_isEmpty
  rw [if_pos (nI_inb hi), if_pos (by decide), zc0, nI_cl hi, hs.o hi]
  by_cases e : p_o A i = j + 1
  · rw [if_neg (fun q => q ((oI_eq h hi (by omega)).mpr e)), u_many h hs hi, Option.bind_some]
    by_cases e2 : p_b A i = 0
    · rw [if_neg (fun q => q (by rw [(pc_b0 h hi).mpr e2]; rfl))]
      simp [em, e, e2, b1]; rfl
    · rw [if_pos (nI_ne0 (Nat.pos_of_ne_zero fun q => e2 ((pc_b0 h hi).mp q)) (by omega))]
      simp [em, e2, b1]; rfl
  · rw [if_pos (fun q => e ((oI_eq h hi (by omega)).mp q))]
    simp [em, e, b1]; rfl
theorem u_holeL (hs : SR z A) {i : Nat} (hi : i < 12) (hp : p_ps A i ≤ 12) : ∀ (d q f : Nat), q + d = p_ps A i → d < f → R_X3_hole_L2 z (nI i) f (nI q) = some (oI (fi (fun x => !(p_b A i).testBit x) d q)) := by
  intro d
  induction d with
  | zero =>
    intro q f hq hf
    obtain ⟨f, rfl⟩ : ∃ g, f = g + 1 := ⟨f - 1, by omega⟩
    rw [R_X3_hole_L2, if_pos (nI_inb hi), nI_cl hi, hs.l hi, if_pos (nI_le (by omega) (by omega)), if_pos (nI_inb hi), if_pos (nI_le (by omega) (by omega))]
    rfl
  | succ d ih =>
    intro q f hq hf
    obtain ⟨f, rfl⟩ : ∃ g, f = g + 1 := ⟨f - 1, by omega⟩
    rw [R_X3_hole_L2, if_pos (nI_inb hi), nI_cl hi, hs.l hi, if_neg (nI_ge (by omega) (by omega)), if_pos (nI_inb hi), if_pos (inb_nI (by omega) (by omega)), cl (by omega), hs.b hi (by omega), nI_1 q, fi]
    by_cases hb : (p_b A i).testBit q = true
    · rw [if_neg (bt_0 hb), ih (q + 1) f (by omega) (by omega)]
      simp [hb]
    · rw [Bool.not_eq_true] at hb
      rw [if_pos (b1_0.mpr hb), if_pos (nI_inb hi), if_neg (nI_ge (by omega) (by omega))]
      simp [hb, oI]
theorem u_hole (h : WF n A) (hs : SR z A) {i : Nat} (hi : i < 12) : R_X3_hole z (nI i) = some (oI (fi (fun x => !(p_b A i).testBit x) (p_ps A i) 0)) :=
  u_holeL hs hi (w_ps h hi) (p_ps A i) 0 FU (Nat.zero_add _) (by have := w_ps h hi; unfold FU; omega)
theorem u_spot (h : WF n A) (hs : SR z A) {i q : Nat} (hi : i < 12) (h0 : p_o A i ≠ 0) : R_X3_spot z (nI i) (nI q) = some (nI (24 * i + p_rs A i + q * p_zs A i)) := by
  have h5 := h.1
  have h1 := ow_lt h hi h0
  unfold R_X3_spot
  rw [if_pos (nI_inb hi), if_pos (by decide), if_pos (nI_inb hi), if_pos (by decide), zc0, zc1, nI_cl hi, hs.o hi, ow_I h0, hs.nn, if_pos (inb_nI h1 (by omega)), if_pos (by decide), cl (by omega), (hs.2.2 i hi).2.1 h0, (hs.2.1 _ h1).1, show (24 : Int32) = nI 24 from rfl, pk_mul, pk_mul, nI_add, nI_add, rs_I h0, zs_I h0]
end LP
/-! the best of some, seen upwards and downwards -/
def upF (u : Nat → Bool) (m : Nat → Nat) (a : Option Nat) (i : Nat) : Option Nat := if u i = true then (match a with
  | none => some i
  | some b => if m i < m b then some i else some b) else a
def dnF (u : Nat → Bool) (m : Nat → Nat) (a : Option Nat) (i : Nat) : Option Nat := if u i = true then (match a with
  | none => some i
  | some b => if m i ≤ m b then some i else some b) else a
def fd {α : Type} (f : α → Nat → α) : Nat → α → α
  | 0, a => a
  | d + 1, a => fd f d (f a d)
/-- the first of the best among those from lo up to hi -/
def best (u : Nat → Bool) (m : Nat → Nat) (lo hi : Nat) (r : Option Nat) : Prop := (r = none ∧ ∀ x, lo ≤ x → x < hi → u x = false) ∨ ∃ i, r = some i ∧ lo ≤ i ∧ i < hi ∧ u i = true ∧ ∀ x, lo ≤ x → x < hi → u x = true → m i < m x ∨ (m i = m x ∧ i ≤ x)
theorem best_un {u : Nat → Bool} {m : Nat → Nat} {lo hi : Nat} {r r' : Option Nat} (h : best u m lo hi r) (h' : best u m lo hi r') : r = r' := by
  rcases h with ⟨rfl, h⟩ | ⟨i, rfl, a1, a2, a3, a4⟩ <;> rcases h' with ⟨rfl, h'⟩ | ⟨i', rfl, b1, b2, b3, b4⟩
  · rfl
  · rw [h i' b1 b2] at b3; cases b3
  · rw [h' i a1 a2] at a3; cases a3
  · have h1 := a4 i' b1 b2 b3
    have h2 := b4 i a1 a2 a3
    congr 1
    omega
theorem best_up {u : Nat → Bool} {m : Nat → Nat} : ∀ (d i : Nat) (a : Option Nat), best u m 0 i a → best u m 0 (i + d) (fo (upF u m) d i a) := by
  intro d
  induction d with
  | zero => intro i a h; exact h
  | succ d ih =>
    intro i a h
    rw [fo, show i + (d + 1) = (i + 1) + d by omega]
    refine ih (i + 1) _ ?_
    unfold upF
    by_cases hu : u i = true
    · rw [if_pos hu]
      rcases h with ⟨rfl, h⟩ | ⟨b, rfl, a1, a2, a3, a4⟩
      · refine Or.inr ⟨i, rfl, Nat.zero_le _, by omega, hu, fun x h1 h2 h3 => ?_⟩
        by_cases e : x = i
        · exact Or.inr ⟨by rw [e], by omega⟩
        · rw [h x h1 (by omega)] at h3; cases h3
      · show best u m 0 (i + 1) (if m i < m b then some i else some b)
        by_cases hm : m i < m b
        · rw [if_pos hm]
          refine Or.inr ⟨i, rfl, Nat.zero_le _, by omega, hu, fun x h1 h2 h3 => ?_⟩
          by_cases e : x = i
          · exact Or.inr ⟨by rw [e], by omega⟩
          · have := a4 x h1 (by omega) h3
            omega
        · rw [if_neg hm]
          refine Or.inr ⟨b, rfl, a1, by omega, a3, fun x h1 h2 h3 => ?_⟩
          by_cases e : x = i
          · subst e; omega
          · exact a4 x h1 (by omega) h3
    · rw [if_neg hu]
      rw [Bool.not_eq_true] at hu
      rcases h with ⟨rfl, h⟩ | ⟨b, rfl, a1, a2, a3, a4⟩
      · refine Or.inl ⟨rfl, fun x h1 h2 => ?_⟩
        by_cases e : x = i
        · rw [e]; exact hu
        · exact h x h1 (by omega)
      · refine Or.inr ⟨b, rfl, a1, by omega, a3, fun x h1 h2 h3 => ?_⟩
        by_cases e : x = i
        · rw [e, hu] at h3; cases h3
        · exact a4 x h1 (by omega) h3
theorem best_dn {u : Nat → Bool} {m : Nat → Nat} {N : Nat} : ∀ (d : Nat) (a : Option Nat), d ≤ N → best u m d N a → best u m 0 N (fd (dnF u m) d a) := by
  intro d
  induction d with
  | zero => intro a _ h; exact h
  | succ d ih =>
    intro a hd h
    rw [fd]
    refine ih _ (by omega) ?_
    unfold dnF
    by_cases hu : u d = true
    · rw [if_pos hu]
      rcases h with ⟨rfl, h⟩ | ⟨b, rfl, a1, a2, a3, a4⟩
      · refine Or.inr ⟨d, rfl, Nat.le_refl _, by omega, hu, fun x h1 h2 h3 => ?_⟩
        by_cases e : x = d
        · exact Or.inr ⟨by rw [e], by omega⟩
        · rw [h x (by omega) h2] at h3; cases h3
      · show best u m d N (if m d ≤ m b then some d else some b)
        by_cases hm : m d ≤ m b
        · rw [if_pos hm]
          refine Or.inr ⟨d, rfl, Nat.le_refl _, by omega, hu, fun x h1 h2 h3 => ?_⟩
          by_cases e : x = d
          · exact Or.inr ⟨by rw [e], by omega⟩
          · have := a4 x (by omega) h2 h3
            omega
        · rw [if_neg hm]
          refine Or.inr ⟨b, rfl, by omega, a2, a3, fun x h1 h2 h3 => ?_⟩
          by_cases e : x = d
          · subst e; omega
          · exact a4 x (by omega) h2 h3
    · rw [if_neg hu]
      rw [Bool.not_eq_true] at hu
      rcases h with ⟨rfl, h⟩ | ⟨b, rfl, a1, a2, a3, a4⟩
      · refine Or.inl ⟨rfl, fun x h1 h2 => ?_⟩
        by_cases e : x = d
        · rw [e]; exact hu
        · exact h x (by omega) h2
      · refine Or.inr ⟨b, rfl, by omega, a2, a3, fun x h1 h2 h3 => ?_⟩
        by_cases e : x = d
        · rw [e, hu] at h3; cases h3
        · exact a4 x (by omega) h2 h3
theorem up_dn (u : Nat → Bool) (m : Nat → Nat) (N : Nat) : fd (dnF u m) N none = fo (upF u m) N 0 none := by
  have h1 := best_dn (u := u) (m := m) N none (Nat.le_refl _) (Or.inl ⟨rfl, fun x h1 h2 => by omega⟩)
  have h2 := best_up (u := u) (m := m) N 0 none (Or.inl ⟨rfl, fun x h1 h2 => by omega⟩)
  rw [Nat.zero_add] at h2
  exact best_un h1 h2
theorem fd_congr {α : Type} {f g : α → Nat → α} : ∀ (d : Nat) (a : α), (∀ a q, q < d → f a q = g a q) → fd f d a = fd g d a := by
  intro d
  induction d with
  | zero => intro a _; rfl
  | succ d ih => intro a h; rw [fd, fd, h a d (by omega)]; exact ih _ (fun a q hq => h a q (by omega))
/-- the first, seen downwards -/
theorem fd_fi {p : Nat → Bool} (d : Nat) (a : Option Nat) : fd (fun a i => if p i = true then some i else a) d a = (match fi p d 0 with | some x => some x | none => a) := by
  have key : ∀ (d : Nat) (a : Option Nat), fd (fun a i => if p i = true then some i else a) d a = fd (fun a i => if p i = true then some i else a) d none ∨ (∀ x, x < d → p x = false) := by
    intro d
    induction d with
    | zero => intro a; exact Or.inr (fun x h => by omega)
    | succ d ih =>
      intro a
      rw [fd, fd]
      by_cases hp : p d = true
      · rw [if_pos hp, if_pos hp]; exact Or.inl rfl
      · rw [if_neg hp, if_neg hp]
        rcases ih a with h | h
        · exact Or.inl h
        · rw [Bool.not_eq_true] at hp
          refine Or.inr (fun x hx => ?_)
          by_cases e : x = d
          · rw [e]; exact hp
          · exact h x (by omega)
  have none_ : ∀ (d : Nat) (a : Option Nat), (∀ x, x < d → p x = false) → fd (fun a i => if p i = true then some i else a) d a = a := by
    intro d
    induction d with
    | zero => intro a _; rfl
    | succ d ih => intro a h; rw [fd, if_neg (by rw [h d (by omega)]; decide)]; exact ih a (fun x hx => h x (by omega))
  have low : ∀ (d x : Nat) (a : Option Nat), x < d → p x = true → (∀ y, y < x → p y = false) → fd (fun a i => if p i = true then some i else a) d a = some x := by
    intro d
    induction d with
    | zero => intro x a h; omega
    | succ d ih =>
      intro x a hx hp hl
      rw [fd]
      by_cases e : x = d
      · subst e
        rw [if_pos hp]
        exact none_ x (some x) hl
      · exact ih x _ (by omega) hp hl
  cases e : fi p d 0 with
  | none => exact none_ d a (fun x hx => fi_none e x (Nat.zero_le _) (by omega))
  | some x =>
    obtain ⟨-, h2, h3⟩ := fi_some e
    refine low d x a (by omega) h3 (fun y hy => ?_)
    have first : ∀ (d i x : Nat), fi p d i = some x → ∀ y, i ≤ y → y < x → p y = false := by
      intro d
      induction d with
      | zero => intro i x h; cases h
      | succ d ih =>
        intro i x h y h1 h2
        rw [fi] at h
        by_cases hp : p i = true
        · rw [if_pos hp] at h; cases h; omega
        · rw [if_neg hp] at h
          rw [Bool.not_eq_true] at hp
          by_cases e : y = i
          · rw [e]; exact hp
          · exact ih (i + 1) x h y (by omega) h2
    exact first d 0 x e y (Nat.zero_le _) hy
