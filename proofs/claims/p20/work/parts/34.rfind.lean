/-! the same on the reference's side -/
section LP
variable {n : Nat} {A : AS} {k : KSt}
theorem b1_t {c : Bool} (h : c = true) : ¬ nI (b1 c) = 0 := fun e => by rw [b1_0] at e; rw [e] at h; cases h
theorem b1_f {c : Bool} (h : ¬ c = true) : nI (b1 c) = 0 := by rw [b1_0, ← Bool.not_eq_true]; exact h
theorem s_lastFew (h : WF n A) (hk : KR k A) {j : Nat} (hj : j < p_n A) : R_X2_lastFewestBowls k j = some (fo (laF A j) 12 0 none) :=
  s_lastFL h hk hj 12 0 FU none rfl (by decide) (fun b hb => by cases hb)
theorem s_most (h : WF n A) (hk : KR k A) {j : Nat} (hj : j < p_n A) (but : Option Nat) : R_X2_mostBowls k j but = some (fo (moF A j but) 12 0 none) :=
  s_mostL h hk hj but 12 0 FU none rfl (by decide) (fun b hb => by cases hb)
end LP
