/-! masks of less than twelve bits -/
theorem all4096 {P : Nat → Bool} (h : (∀ a, a < 64 → ∀ b, b < 64 → P (64 * a + b) = true)) : ∀ x, x < 4096 → P x = true := fun x hx => by
  have := h (x / 64) (by omega) (x % 64) (by omega)
  rwa [Nat.div_add_mod] at this
theorem bit_0 : ∀ x, x < 4096 → pc x = 0 → x = 0 := fun x hx h0 => by
  have h := all4096 (P := fun x => !decide (pc x = 0) || decide (x = 0)) (by decide +kernel) x hx
  simp only [Bool.or_eq_true, Bool.not_eq_true', decide_eq_true_eq, decide_eq_false_iff_not] at h
  rcases h with h | h
  · exact absurd h0 h
  · exact h
theorem nI_or (a b : Nat) : nI a ||| nI b = nI (a ||| b) := by
  apply Int32.toBitVec_inj.mp
  show (nI a).toBitVec ||| (nI b).toBitVec = (nI (a ||| b)).toBitVec
  show BitVec.ofNat 32 a ||| BitVec.ofNat 32 b = BitVec.ofNat 32 (a ||| b)
  apply BitVec.eq_of_toNat_eq
  simp only [BitVec.toNat_or, BitVec.toNat_ofNat]
  exact (Nat.or_mod_two_pow (n := 32)).symm
theorem tb_or (x q y : Nat) : (x ||| 2 ^ q).testBit y = (x.testBit y || decide (q = y)) := by rw [Nat.testBit_or, Nat.testBit_two_pow]
theorem tb_xor (x q y : Nat) : (x ^^^ 2 ^ q).testBit y = (x.testBit y != decide (q = y)) := by
  rw [Nat.testBit_xor, Nat.testBit_two_pow]
theorem pc_or {x q : Nat} (hq : q < 12) (hb : x.testBit q = false) : pc (x ||| 2 ^ q) = pc x + 1 := by
  have h := sm_1 (f := fun y => b1 (x.testBit y)) (g := fun y => b1 ((x ||| 2 ^ q).testBit y)) (n := 12) (i := q) hq (fun y _ hy => by
    simp only [tb_or]
    rw [show decide (q = y) = false from decide_eq_false (fun e => hy e.symm), Bool.or_false])
  simp only [tb_or, hb, decide_true, Bool.false_or, b1] at h
  simp only [pc, b1, tb_or]
  simp only [if_true, Bool.false_eq_true, if_false, Nat.add_zero] at h
  exact h
theorem pc_xor {x q : Nat} (hq : q < 12) (hb : x.testBit q = true) : pc (x ^^^ 2 ^ q) + 1 = pc x := by
  have h := sm_1 (f := fun y => b1 (x.testBit y)) (g := fun y => b1 ((x ^^^ 2 ^ q).testBit y)) (n := 12) (i := q) hq (fun y _ hy => by
    simp only [tb_xor]
    rw [show decide (q = y) = false from decide_eq_false (fun e => hy e.symm), Bool.bne_false])
  simp only [tb_xor, hb, decide_true, bne_self_eq_false, b1] at h
  simp only [pc, b1, tb_xor]
  simp only [if_true, Bool.false_eq_true, if_false, Nat.add_zero] at h
  exact h
theorem or_lt {x q P : Nat} (hx : x < 2 ^ P) (hq : q < P) : x ||| 2 ^ q < 2 ^ P := Nat.or_lt_two_pow hx (Nat.pow_lt_pow_right (by omega) hq)
theorem xor_lt {x q P : Nat} (hx : x < 2 ^ P) (hq : q < P) : x ^^^ 2 ^ q < 2 ^ P := Nat.xor_lt_two_pow hx (Nat.pow_lt_pow_right (by omega) hq)
theorem m_4096 {x P : Nat} (hx : x < 2 ^ P) (hP : P ≤ 12) : x < 4096 := Nat.lt_of_lt_of_le hx (Nat.pow_le_pow_right (by omega) hP)
theorem tb_lt {x P q : Nat} (hx : x < 2 ^ P) (hq : P ≤ q) : x.testBit q = false := Nat.testBit_lt_two_pow (Nat.lt_of_lt_of_le hx (Nat.pow_le_pow_right (by omega) hq))
/-- with fewer places there are at most as many bits -/
theorem pc_le {x P : Nat} (hx : x < 2 ^ P) (hP : P ≤ 12) : pc x ≤ P := by
  have e : ∀ d, P + d ≤ 12 → sm (fun q => b1 (x.testBit q)) (P + d) = sm (fun q => b1 (x.testBit q)) P := by
    intro d
    induction d with
    | zero => intro _; rfl
    | succ d ih =>
      intro h
      rw [Nat.add_succ, sm, ih (by omega), tb_lt hx (by omega)]
      rfl
  have h1 := e (12 - P) (by omega)
  rw [show P + (12 - P) = 12 by omega] at h1
  unfold pc
  rw [h1]
  have h2 := sm_le (f := fun q => b1 (x.testBit q)) (g := fun _ => 1) (n := P) (fun q _ => by show b1 _ ≤ 1; unfold b1; split <;> omega)
  rw [sm_const] at h2
  omega
/-- fewer bits than places: there is a hole -/
theorem hole_ex {x P : Nat} (hx : x < 2 ^ P) (hP : P ≤ 12) (h : pc x < P) : ∃ q, fi (fun q => !x.testBit q) P 0 = some q ∧ q < P ∧ x.testBit q = false := by
  cases hf : fi (fun q => !x.testBit q) P 0 with
  | some q =>
    obtain ⟨-, h2, h3⟩ := fi_some hf
    exact ⟨q, rfl, by omega, by simpa using h3⟩
  | none =>
    exfalso
    have h1 := fi_none hf
    have h2 : sm (fun q => b1 (x.testBit q)) P = P := by
      have := sm_congr (f := fun q => b1 (x.testBit q)) (g := fun _ => 1) (n := P) (fun q hq => by
        have := h1 q (Nat.zero_le _) (by omega)
        have e : x.testBit q = true := by simpa using this
        rw [e]; rfl)
      rw [this, sm_const]; omega
    have h3 : sm (fun q => b1 (x.testBit q)) P ≤ pc x := by
      have : ∀ d, P + d ≤ 12 → sm (fun q => b1 (x.testBit q)) P ≤ sm (fun q => b1 (x.testBit q)) (P + d) := by
        intro d
        induction d with
        | zero => intro _; exact Nat.le_refl _
        | succ d ih => intro h; rw [Nat.add_succ, sm]; exact Nat.le_trans (ih (by omega)) (Nat.le_add_right _ _)
      have h4 := this (12 - P) (by omega)
      rw [show P + (12 - P) = 12 by omega] at h4
      exact h4
    omega
theorem last_ex {x P : Nat} (hx : x < 2 ^ P) (h : x ≠ 0) : ∃ q, gr (fun q => x.testBit q) P = some q ∧ q < P ∧ x.testBit q = true := by
  cases e : gr (fun q => x.testBit q) P with
  | some q =>
    obtain ⟨h4, h5⟩ := gr_some e
    exact ⟨q, rfl, h4, h5⟩
  | none =>
    refine absurd (Nat.eq_of_testBit_eq (fun q => ?_)) h
    rw [Nat.zero_testBit]
    by_cases hq : q < P
    · exact gr_none e q hq
    · exact tb_lt hx (by omega)
