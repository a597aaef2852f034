/-! what the small methods of both sides answer, in the abstract kitchen's words -/
def ofK (A : AS) (j i : Nat) : Bool := p_o A i == j + 1
def us (A : AS) (j i : Nat) : Bool := p_o A i == j + 1 && (p_b A i != 0 && decide (pc (p_b A i) < p_ps A i))
def em (A : AS) (j i : Nat) : Bool := p_o A i == j + 1 && p_b A i == 0
def fr (A : AS) (i : Nat) : Bool := p_o A i == 0
def stN (A : AS) (i : Nat) : Nat := if p_o A i = 0 then 0 else if p_b A i = 0 then 1 else if pc (p_b A i) < p_ps A i then 2 else 3
theorem b1_0 {c : Bool} : (nI (b1 c) = 0) ↔ (c = false) := by cases c <;> decide
theorem b1_le (c : Bool) : b1 c ≤ 1 := by cases c <;> decide
theorem bz_b1 (c : Bool) : bz (nI (b1 c)) = true := by cases c <;> decide
theorem pc_12 (x : Nat) : pc x ≤ 12 := by
  have h2 := sm_le (f := fun q => b1 (x.testBit q)) (g := fun _ => 1) (n := 12) (fun q _ => b1_le _)
  rw [sm_const] at h2
  exact h2
theorem nI_m1 {n : Nat} (h : n < 2 ^ 31) : ¬ nI n = (-1 : Int32) := fun e => by
  have h1 := nI_pos' h
  rw [e] at h1
  exact absurd h1 (by decide)
theorem inb_nI {i n : Nat} (h : i < n) (hn : n < 2 ^ 31) : inb (nI i) n = true := by
  simp only [inb, Bool.and_eq_true, decide_eq_true_eq, nI_toInt (show i < 2 ^ 31 by omega)]
  omega
theorem cl {i : Nat} (h : i < 2 ^ 31) : (nI i).toNatClampNeg = i := nI_clamp h
section SP
variable {n : Nat} {A : AS} {k : KSt}
theorem w_n (h : WF n A) : p_n A ≤ 5 := h.1
theorem w_z (h : WF n A) {j : Nat} (hj : j < p_n A) : 2 ≤ p_z A j ∧ p_z A j ≤ 12 := ⟨(h.2.1 j hj).1, (h.2.1 j hj).2.1⟩
theorem w_pl (h : WF n A) {j : Nat} (hj : j < p_n A) : 2 ≤ p_pl A j ∧ p_pl A j ≤ 12 := by
  obtain ⟨h1, h2⟩ := w_z h hj
  unfold p_pl
  exact ⟨(Nat.le_div_iff_mul_le (by omega)).mpr (by omega), Nat.div_le_of_le_mul (by omega)⟩
theorem w_o (h : WF n A) {i : Nat} (hi : i < 12) : p_o A i ≤ p_n A := (h.2.2 i hi).1
theorem w_ps (h : WF n A) {i : Nat} (hi : i < 12) : p_ps A i ≤ 12 := by
  unfold p_ps
  split
  · omega
  · have := w_o h hi
    exact (w_pl h (j := p_o A i - 1) (by omega)).2
theorem w_zs (h : WF n A) {i : Nat} (hi : i < 12) : p_zs A i ≤ 12 := by
  unfold p_zs
  split
  · omega
  · have := w_o h hi
    exact (w_z h (j := p_o A i - 1) (by omega)).2
theorem w_b (h : WF n A) {i : Nat} (hi : i < 12) : p_b A i < 2 ^ p_ps A i := (h.2.2 i hi).2.2.2.1
theorem w_b4 (h : WF n A) {i : Nat} (hi : i < 12) : p_b A i < 4096 := m_4096 (w_b h hi) (w_ps h hi)
theorem w_pc (h : WF n A) {i : Nat} (hi : i < 12) : pc (p_b A i) ≤ p_ps A i := pc_le (w_b h hi) (w_ps h hi)
theorem w_fr (h : WF n A) {i : Nat} (hi : i < 12) (h0 : p_o A i = 0) : p_b A i = 0 ∧ p_s A i = -1 := (h.2.2 i hi).2.1 h0
theorem w_s (h : WF n A) {i : Nat} (hi : i < 12) (h0 : p_b A i ≠ 0) : p_s A i = -1 := (h.2.2 i hi).2.2.2.2 h0
theorem w_r (h : WF n A) {i : Nat} (hi : i < 12) (h0 : p_o A i ≠ 0) : p_r A i ≤ 24 % p_z A (p_o A i - 1) := (h.2.2 i hi).2.2.1 h0
theorem pc_b0 (h : WF n A) {i : Nat} (hi : i < 12) : pc (p_b A i) = 0 ↔ p_b A i = 0 := ⟨bit_0 _ (w_b4 h hi), fun e => by rw [e]; decide +kernel⟩
theorem oI_eq (h : WF n A) {i j : Nat} (hi : i < 12) (hj : j < 5) : p_oI A i = nI j ↔ p_o A i = j + 1 := by
  have h1 := w_o h hi
  have h5 := h.1
  unfold p_oI
  by_cases h0 : p_o A i = 0
  · rw [if_pos h0, h0]
    refine ⟨fun e => absurd e.symm (nI_m1 (by omega)), fun e => by omega⟩
  · rw [if_neg h0, nI_eq (by omega) (by omega)]
    omega
theorem oI_m1 (h : WF n A) {i : Nat} (hi : i < 12) : p_oI A i = -1 ↔ p_o A i = 0 := by
  have h1 := w_o h hi
  have h5 := h.1
  unfold p_oI
  by_cases h0 : p_o A i = 0
  · rw [if_pos h0]; exact ⟨fun _ => h0, fun _ => rfl⟩
  · rw [if_neg h0]
    exact ⟨fun e => absurd e (nI_m1 (by omega)), fun e => absurd e h0⟩
/-! the class -/
theorem s_isOf (h : WF n A) (hk : KR k A) {i j : Nat} (hi : i < 12) (hj : j < p_n A) : R_X1_isOf k i j = some (nI (b1 (ofK A j i))) := by
  have h5 := h.1
  unfold R_X1_isOf
  rw [(hk.2.2 i hi).1]
  by_cases e : p_o A i = j + 1
  · rw [if_neg (fun q => q ((oI_eq h hi (by omega)).mpr e))]
    simp [ofK, e, b1]; rfl
  · rw [if_pos (fun q => e ((oI_eq h hi (by omega)).mp q))]
    simp [ofK, e, b1]; rfl
theorem s_state (h : WF n A) (hk : KR k A) {i : Nat} (hi : i < 12) : R_X1_state k i = some (nI (stN A i)) := by
  obtain ⟨e2, -, e4, -, e6, -, -⟩ := hk.2.2 i hi
  have h1 := pc_12 (p_b A i)
  have h2 := w_ps h hi
  unfold R_X1_state stN
  rw [e2, e4, e6]
  by_cases h0 : p_o A i = 0
  · rw [if_neg (fun q => q ((oI_m1 h hi).mpr h0)), if_pos h0]; rfl
  · rw [if_pos (fun q => h0 ((oI_m1 h hi).mp q)), if_neg h0]
    by_cases hb : p_b A i = 0
    · rw [if_neg (fun q => q (by rw [(pc_b0 h hi).mpr hb]; rfl)), if_pos hb]; rfl
    · rw [if_pos (nI_ne0 (Nat.pos_of_ne_zero (fun e => hb ((pc_b0 h hi).mp e))) (by omega)), if_neg hb]
      by_cases hp : pc (p_b A i) < p_ps A i
      · rw [if_neg (nI_ge hp (by omega)), if_pos hp]; rfl
      · rw [if_pos (nI_le (by omega) (by omega)), if_neg hp]; rfl
theorem s_stands (hk : KR k A) {i q : Nat} (hi : i < 12) (hq : q < 12) : R_X1_standsOn k i (nI q) = some (nI (b1 ((p_b A i).testBit q))) := by
  have e := (hk.2.2 i hi).2.2.2.2.2.2 q hq
  unfold R_X1_standsOn
  rw [if_neg (nI_pos (by omega)), if_neg (nI_nge hq), if_pos (nI_inb hq), nI_cl hq, e]
  by_cases hb : (p_b A i).testBit q = true
  · rw [hb]; rfl
  · rw [Bool.not_eq_true] at hb; rw [hb]; rfl
theorem s_gapL (h : WF n A) (hk : KR k A) {i : Nat} (hi : i < 12) : ∀ (d q f : Nat), q + d = p_ps A i → d < f → R_X1_firstGap_L2 k i f (nI q) = some (oI (fi (fun x => !(p_b A i).testBit x) d q)) := by
  have h2 := w_ps h hi
  have e4 := (hk.2.2 i hi).2.2.1
  intro d
  induction d with
  | zero =>
    intro q f hq hf
    obtain ⟨f, rfl⟩ : ∃ g, f = g + 1 := ⟨f - 1, by omega⟩
    rw [R_X1_firstGap_L2, e4, if_pos (nI_le (by omega) (by omega))]
    rfl
  | succ d ih =>
    intro q f hq hf
    obtain ⟨f, rfl⟩ : ∃ g, f = g + 1 := ⟨f - 1, by omega⟩
    rw [R_X1_firstGap_L2, e4, if_neg (nI_ge (by omega) (by omega)), s_stands hk hi (by omega), Option.bind_some, fi]
    by_cases hb : (p_b A i).testBit q = true
    · rw [if_pos (fun e => by rw [b1_0] at e; rw [e] at hb; cases hb), nI_1, ih (q + 1) f (by omega) (by omega)]
      simp [hb]
    · rw [Bool.not_eq_true] at hb
      rw [if_neg (fun e => e (b1_0.mpr hb))]
      simp [hb, oI]
theorem s_gap (h : WF n A) (hk : KR k A) {i : Nat} (hi : i < 12) : R_X1_firstGap k i = some (oI (fi (fun x => !(p_b A i).testBit x) (p_ps A i) 0)) :=
  s_gapL h hk hi _ 0 FU (Nat.zero_add _) (by have := w_ps h hi; unfold FU; omega)
theorem s_lastL (hk : KR k A) {i : Nat} (hi : i < 12) : ∀ (d f : Nat), d ≤ 12 → d < f → R_X1_lastBowl_L7 k i f (nI d - 1) = some (oI (gr (fun x => (p_b A i).testBit x) d)) := by
  intro d
  induction d with
  | zero =>
    intro f _ hf
    obtain ⟨f, rfl⟩ : ∃ g, f = g + 1 := ⟨f - 1, by omega⟩
    rw [R_X1_lastBowl_L7, if_pos (by decide)]
    rfl
  | succ d ih =>
    intro f hd hf
    obtain ⟨f, rfl⟩ : ∃ g, f = g + 1 := ⟨f - 1, by omega⟩
    rw [nI_pred, R_X1_lastBowl_L7, if_neg (nI_pos (by omega)), s_stands hk hi (by omega), Option.bind_some, gr]
    by_cases hb : (p_b A i).testBit d = true
    · rw [if_neg (fun e => by rw [b1_0] at e; rw [e] at hb; cases hb), if_pos hb]
      rfl
    · rw [Bool.not_eq_true] at hb
      rw [if_pos (b1_0.mpr hb), if_neg (by rw [hb]; decide), show nI d + (-1 : Int32) = nI d - 1 by rw [Int32.sub_eq_add_neg]]
      exact ih f (by omega) (by omega)
theorem s_last (h : WF n A) (hk : KR k A) {i : Nat} (hi : i < 12) : R_X1_lastBowl k i = some (oI (gr (fun x => (p_b A i).testBit x) (p_ps A i))) := by
  unfold R_X1_lastBowl
  rw [(hk.2.2 i hi).2.2.1]
  exact s_lastL hk hi _ FU (w_ps h hi) (by have := w_ps h hi; unfold FU; omega)
theorem s_begin (hk : KR k A) {i q : Nat} (hi : i < 12) : R_X1_beginOf k i (nI q) = some (nI (24 * i + p_rs A i + q * p_zs A i)) := by
  obtain ⟨-, e3, -, e5, -, -, -⟩ := hk.2.2 i hi
  unfold R_X1_beginOf
  rw [e3, e5, pk_mul, nI_add, nI_add]
/-! the reference -/
theorem ow_I {i : Nat} (h0 : p_o A i ≠ 0) : p_oI A i = nI (p_o A i - 1) := if_neg h0
theorem ow_lt (h : WF n A) {i : Nat} (hi : i < 12) (h0 : p_o A i ≠ 0) : p_o A i - 1 < p_n A := by have := w_o h hi; omega
theorem ps_I {i : Nat} (h0 : p_o A i ≠ 0) : p_ps A i = p_pl A (p_o A i - 1) := if_neg h0
theorem zs_I {i : Nat} (h0 : p_o A i ≠ 0) : p_zs A i = p_z A (p_o A i - 1) := if_neg h0
theorem rs_I {i : Nat} (h0 : p_o A i ≠ 0) : p_rs A i = p_r A i := if_neg h0
end SP
