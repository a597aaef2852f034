/-! the pure layer: an abstract kitchen, and what both sides' raw states say of it -/
abbrev AS : Type := (Nat × Int32 × Int32 × Int32 × Int32) × (Nat → Nat) × (Nat → Nat) × (Nat → Nat) × (Nat → Nat) × (Nat → Nat) × (Nat → Int32)
def p_n (A : AS) : Nat := A.1.1
def p_w (A : AS) : Int32 := A.1.2.1
def p_t (A : AS) : Int32 := A.1.2.2.1
def p_p (A : AS) : Int32 := A.1.2.2.2.1
def p_m (A : AS) : Int32 := A.1.2.2.2.2
def p_z (A : AS) (j : Nat) : Nat := A.2.1 j
def p_g (A : AS) (j : Nat) : Nat := A.2.2.1 j
def p_o (A : AS) (i : Nat) : Nat := A.2.2.2.1 i
def p_r (A : AS) (i : Nat) : Nat := A.2.2.2.2.1 i
def p_b (A : AS) (i : Nat) : Nat := A.2.2.2.2.2.1 i
def p_s (A : AS) (i : Nat) : Int32 := A.2.2.2.2.2.2 i
def sm (f : Nat → Nat) : Nat → Nat
  | 0 => 0
  | n + 1 => sm f n + f n
def fo {α : Type} (f : α → Nat → α) : Nat → Nat → α → α
  | 0, _, a => a
  | d + 1, i, a => fo f d (i + 1) (f a i)
def fi (p : Nat → Bool) : Nat → Nat → Option Nat
  | 0, _ => none
  | d + 1, i => if p i = true then some i else fi p d (i + 1)
/-- the greatest below -/
def gr (p : Nat → Bool) : Nat → Option Nat
  | 0 => none
  | n + 1 => if p n = true then some n else gr p n
def b1 (b : Bool) : Nat := if b then 1 else 0
/-- how many bits -/
def pc (x : Nat) : Nat := sm (fun q => b1 (x.testBit q)) 12
def oI (r : Option Nat) : Int32 := match r with
  | none => -1
  | some i => nI i
/-- a shelf's size, places -/
def p_zs (A : AS) (i : Nat) : Nat := if p_o A i = 0 then 0 else p_z A (p_o A i - 1)
def p_pl (A : AS) (j : Nat) : Nat := 24 / p_z A j
def p_ps (A : AS) (i : Nat) : Nat := if p_o A i = 0 then 0 else p_pl A (p_o A i - 1)
def p_rs (A : AS) (i : Nat) : Nat := if p_o A i = 0 then 0 else p_r A i
def p_oI (A : AS) (i : Nat) : Int32 := if p_o A i = 0 then -1 else nI (p_o A i - 1)
def WF (n : Nat) (A : AS) : Prop := p_n A ≤ 5 ∧ (∀ j, j < p_n A → 2 ≤ p_z A j ∧ p_z A j ≤ 12 ∧ p_g A j ≤ n) ∧ ∀ i, i < 12 → p_o A i ≤ p_n A ∧ (p_o A i = 0 → p_b A i = 0 ∧ p_s A i = -1) ∧ (p_o A i ≠ 0 → p_r A i ≤ 24 % p_z A (p_o A i - 1)) ∧ p_b A i < 2 ^ p_ps A i ∧ (p_b A i ≠ 0 → p_s A i = -1)
def KR (k : KSt) (A : AS) : Prop := (kG k 0 = nI (p_n A) ∧ kG k 1 = p_w A ∧ kG k 2 = p_t A ∧ kG k 3 = p_p A ∧ kG k 4 = p_m A ∧ kN k = p_n A) ∧
  (∀ j, j < p_n A → kK k 1 j = nI (p_z A j) ∧ kK k 2 j = nI (p_pl A j) ∧ kK k 3 j = nI (24 % p_z A j) ∧ kK k 4 j = nI (p_g A j) ∧ kK k 5 j = nI (p_g A j % (24 % p_z A j + 1))) ∧
  ∀ i, i < 12 → kS k 2 i = p_oI A i ∧ kS k 3 i = nI (p_zs A i) ∧ kS k 4 i = nI (p_ps A i) ∧ kS k 5 i = nI (p_rs A i) ∧ kS k 6 i = nI (pc (p_b A i)) ∧ kS k 7 i = p_s A i ∧ ∀ q, q < 12 → kB k i q = nI (b1 ((p_b A i).testBit q))
theorem WF.up {n : Nat} {A : AS} (h : WF n A) : WF (n + 1) A := ⟨h.1, fun j hj => ⟨(h.2.1 j hj).1, (h.2.1 j hj).2.1, Nat.le_succ_of_le (h.2.1 j hj).2.2⟩, h.2.2⟩
def A0 : AS := ((0, 0, 0, 0, 0), (fun _ => 0), (fun _ => 0), (fun _ => 0), (fun _ => 0), (fun _ => 0), fun _ => -1)
/-! sums and finds -/
theorem sm_0 (f : Nat → Nat) (d : Nat) : sm f (d + 1) = f 0 + sm (fun q => f (q + 1)) d := by
  induction d with
  | zero => simp [sm]
  | succ d ih => rw [sm, ih, sm, Nat.add_assoc]
theorem fo_sm (f : Nat → Nat) : ∀ (d i a : Nat), fo (fun a q => a + f q) d i a = a + sm (fun q => f (i + q)) d := by
  intro d
  induction d with
  | zero => intro i a; rfl
  | succ d ih =>
    intro i a
    rw [fo, ih, sm_0]
    have e : (fun q => f (i + 1 + q)) = fun q => f (i + (q + 1)) := funext fun q => by rw [Nat.add_assoc, Nat.add_comm 1 q]
    rw [e, Nat.add_assoc]
    rfl
theorem fo_sm0 (f : Nat → Nat) (d : Nat) : fo (fun a q => a + f q) d 0 0 = sm f d := by
  rw [fo_sm, Nat.zero_add]
  simp only [Nat.zero_add]
theorem sm_congr {f g : Nat → Nat} {n : Nat} (h : ∀ q, q < n → f q = g q) : sm f n = sm g n := by
  induction n with
  | zero => rfl
  | succ n ih => rw [sm, sm, ih (fun q hq => h q (by omega)), h n (by omega)]
theorem sm_add (f g : Nat → Nat) (n : Nat) : sm (fun q => f q + g q) n = sm f n + sm g n := by
  induction n with
  | zero => rfl
  | succ n ih => simp only [sm, ih]; omega
theorem sm_mul (c : Nat) (f : Nat → Nat) (n : Nat) : sm (fun q => c * f q) n = c * sm f n := by
  induction n with
  | zero => rfl
  | succ n ih => simp only [sm, ih, Nat.mul_add]
theorem sm_le {f g : Nat → Nat} {n : Nat} (h : ∀ q, q < n → f q ≤ g q) : sm f n ≤ sm g n := by
  induction n with
  | zero => exact Nat.le_refl _
  | succ n ih =>
    have h1 := ih (fun q hq => h q (by omega))
    have h2 := h n (by omega)
    simp only [sm]
    omega
theorem sm_const (c n : Nat) : sm (fun _ => c) n = c * n := by
  induction n with
  | zero => rfl
  | succ n ih => simp only [sm, ih, Nat.mul_add, Nat.mul_one]
/-- one value changed -/
theorem sm_1 {f g : Nat → Nat} {n i : Nat} (hi : i < n) (h : ∀ q, q < n → q ≠ i → g q = f q) : sm g n + f i = sm f n + g i := by
  induction n with
  | zero => omega
  | succ n ih =>
    by_cases e : i = n
    · subst e
      have := sm_congr (f := g) (g := f) (n := i) (fun q hq => h q (by omega) (by omega))
      simp only [sm, this]
      omega
    · have h1 := ih (by omega) (fun q hq => h q (by omega))
      have h2 := h n (by omega) (fun q => e q.symm)
      simp only [sm, h2]
      omega
theorem sm_pos {f : Nat → Nat} {n i : Nat} (hi : i < n) : f i ≤ sm f n := by
  induction n with
  | zero => omega
  | succ n ih =>
    by_cases e : i = n
    · subst e; simp only [sm]; omega
    · have := ih (by omega); simp only [sm]; omega
theorem fo_congr {α : Type} {f g : α → Nat → α} : ∀ (d i : Nat) (a : α), (∀ a q, i ≤ q → q < i + d → f a q = g a q) → fo f d i a = fo g d i a := by
  intro d
  induction d with
  | zero => intro i a _; rfl
  | succ d ih =>
    intro i a h
    rw [fo, fo, h a i (Nat.le_refl _) (by omega)]
    exact ih (i + 1) _ (fun a q h1 h2 => h a q (by omega) (by omega))
theorem fi_congr {p q : Nat → Bool} : ∀ (d i : Nat), (∀ x, i ≤ x → x < i + d → p x = q x) → fi p d i = fi q d i := by
  intro d
  induction d with
  | zero => intro i _; rfl
  | succ d ih =>
    intro i h
    rw [fi, fi, h i (Nat.le_refl _) (by omega), ih (i + 1) (fun x h1 h2 => h x (by omega) (by omega))]
theorem fi_some {p : Nat → Bool} : ∀ {d i x : Nat}, fi p d i = some x → i ≤ x ∧ x < i + d ∧ p x = true := by
  intro d
  induction d with
  | zero => intro i x h; cases h
  | succ d ih =>
    intro i x h
    rw [fi] at h
    by_cases hp : p i = true
    · rw [if_pos hp] at h
      cases h
      exact ⟨Nat.le_refl _, by omega, hp⟩
    · rw [if_neg hp] at h
      have := ih h
      exact ⟨by omega, by omega, this.2.2⟩
theorem fi_none {p : Nat → Bool} : ∀ {d i : Nat}, fi p d i = none → ∀ x, i ≤ x → x < i + d → p x = false := by
  intro d
  induction d with
  | zero => intro i _ x h1 h2; omega
  | succ d ih =>
    intro i h x h1 h2
    rw [fi] at h
    by_cases hp : p i = true
    · rw [if_pos hp] at h; cases h
    · rw [if_neg hp] at h
      by_cases e : x = i
      · subst e; simpa using hp
      · exact ih h x (by omega) (by omega)
theorem gr_some {p : Nat → Bool} {n x : Nat} (h : gr p n = some x) : x < n ∧ p x = true := by
  induction n with
  | zero => cases h
  | succ n ih =>
    rw [gr] at h
    by_cases hp : p n = true
    · rw [if_pos hp] at h; cases h; exact ⟨Nat.lt_succ_self _, hp⟩
    · rw [if_neg hp] at h
      have := ih h
      exact ⟨by omega, this.2⟩
theorem gr_none {p : Nat → Bool} {n : Nat} (h : gr p n = none) : ∀ x, x < n → p x = false := by
  induction n with
  | zero => intro x hx; omega
  | succ n ih =>
    rw [gr] at h
    by_cases hp : p n = true
    · rw [if_pos hp] at h; cases h
    · rw [if_neg hp] at h
      intro x hx
      by_cases e : x = n
      · subst e; simpa using hp
      · exact ih h x (by omega)
theorem gr_cut {p : Nat → Bool} {n d : Nat} (h : ∀ x, n ≤ x → x < n + d → p x = false) : gr p (n + d) = gr p n := by
  induction d with
  | zero => rfl
  | succ d ih =>
    rw [Nat.add_succ, gr, h (n + d) (by omega) (by omega)]
    exact ih (fun x h1 h2 => h x h1 (by omega))
/-- a best of what stands where nothing was found yet -/
theorem fo_fi {p : Nat → Bool} : ∀ (d i : Nat), fo (fun a q => if a = none then (if p q = true then some q else none) else a) d i none = fi p d i := by
  have keep : ∀ (d i x : Nat), fo (fun a q => if a = none then (if p q = true then some q else none) else a) d i (some x) = some x := by
    intro d
    induction d with
    | zero => intro i x; rfl
    | succ d ih => intro i x; rw [fo]; simp only [reduceCtorEq, if_false]; exact ih _ _
  intro d
  induction d with
  | zero => intro i; rfl
  | succ d ih =>
    intro i
    rw [fo, fi]
    by_cases hp : p i = true
    · simp only [hp, if_true]
      exact keep _ _ _
    · simp only [if_neg hp, if_true]
      exact ih _
