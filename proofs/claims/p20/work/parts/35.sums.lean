/-! sums over the shelves, on both sides -/
def nS (A : AS) (j : Nat) : Nat := sm (fun q => b1 (ofK A j q)) 12
def nX (A : AS) (j x : Nat) : Nat := sm (fun q => b1 (p_o A q == j + 1 && stN A q == x)) 12
def vB (A : AS) (j q : Nat) : Nat := if p_o A q = j + 1 then pc (p_b A q) else 0
def nB (A : AS) (j : Nat) : Nat := sm (vB A j) 12
def nF (A : AS) : Nat := sm (fun q => b1 (fr A q)) 12
def nA (A : AS) : Nat := sm (fun q => pc (p_b A q)) 12
def nU (A : AS) : Nat := sm (fun q => pc (p_b A q) * p_zs A q) 12
def vN (A : AS) (q : Nat) : Nat := if p_o A q = 0 then 0 else 24 - p_ps A q * p_zs A q
def nN (A : AS) : Nat := sm (vN A) 12
section LP
variable {n : Nat} {A : AS} {k : KSt}
theorem ps_zs (h : WF n A) {i : Nat} (hi : i < 12) : p_ps A i * p_zs A i ≤ 24 := by
  unfold p_ps p_zs p_pl
  split
  · omega
  · exact Nat.div_mul_le_self _ _
theorem pc_zs (h : WF n A) {i : Nat} (hi : i < 12) : pc (p_b A i) * p_zs A i ≤ 24 := Nat.le_trans (Nat.mul_le_mul_right _ (w_pc h hi)) (ps_zs h hi)

theorem s_shOfL (h : WF n A) (hk : KR k A) {j : Nat} (hj : j < p_n A) : ∀ (d i f a : Nat), i + d = 12 → d < f → R_X2_shelvesOf_L14 k j f (nI a) (nI i) = some (nI (fo (fun a q => a + b1 (ofK A j q)) d i a)) := by
  intro d
  induction d with
  | zero =>
    intro i f a hi hf
    obtain ⟨f, rfl⟩ : ∃ g, f = g + 1 := ⟨f - 1, by omega⟩
    obtain rfl : i = 12 := by omega
    rw [R_X2_shelvesOf_L14, if_pos (by decide)]
    rfl
  | succ d ih =>
    intro i f a hi hf
    obtain ⟨f, rfl⟩ : ∃ g, f = g + 1 := ⟨f - 1, by omega⟩
    have hi2 : i < 12 := by omega
    have go : ∀ a', a' = a + b1 (ofK A j i) → R_X2_shelvesOf_L14 k j f (nI a') (nI (i + 1)) = some (nI (fo (fun a q => a + b1 (ofK A j q)) d (i + 1) (a + b1 (ofK A j i)))) := fun a' e => by rw [ih (i + 1) f a' (by omega) (by omega), e]
    rw [R_X2_shelvesOf_L14, if_neg (nI_nge hi2), if_pos (nI_inb hi2), nI_1 i, fo]
    rw [nI_cl hi2, s_isOf h hk hi2 hj, Option.bind_some]
    by_cases ho : ofK A j i = true
    · rw [if_neg (b1_t ho)]
      rw [nI_1 a]
      exact go (a + 1) (by rw [ho]; rfl)
    · rw [if_pos (b1_f ho)]
      exact go a (by rw [Bool.not_eq_true] at ho; rw [ho]; rfl)
theorem s_inStL (h : WF n A) (hk : KR k A) {j x : Nat} (hj : j < p_n A) (hx : x < 100) : ∀ (d i f a : Nat), i + d = 12 → d < f → R_X2_shelvesInState_L16 k j (nI x) f (nI a) (nI i) = some (nI (fo (fun a q => a + b1 (p_o A q == j + 1 && stN A q == x)) d i a)) := by
  intro d
  induction d with
  | zero =>
    intro i f a hi hf
    obtain ⟨f, rfl⟩ : ∃ g, f = g + 1 := ⟨f - 1, by omega⟩
    obtain rfl : i = 12 := by omega
    rw [R_X2_shelvesInState_L16, if_pos (by decide)]
    rfl
  | succ d ih =>
    intro i f a hi hf
    obtain ⟨f, rfl⟩ : ∃ g, f = g + 1 := ⟨f - 1, by omega⟩
    have hi2 : i < 12 := by omega
    have go : ∀ a', a' = a + b1 (p_o A i == j + 1 && stN A i == x) → R_X2_shelvesInState_L16 k j (nI x) f (nI a') (nI (i + 1)) = some (nI (fo (fun a q => a + b1 (p_o A q == j + 1 && stN A q == x)) d (i + 1) (a + b1 (p_o A i == j + 1 && stN A i == x)))) := fun a' e => by rw [ih (i + 1) f a' (by omega) (by omega), e]
    rw [R_X2_shelvesInState_L16, if_neg (nI_nge hi2), if_pos (nI_inb hi2), nI_1 i, fo]
    rw [nI_cl hi2, s_isOf h hk hi2 hj, Option.bind_some]
    by_cases ho : ofK A j i = true
    · rw [if_neg (b1_t ho)]
      rw [s_state h hk hi2, Option.bind_some]
      have ho2 := ofK_t.mp ho
      by_cases hs : stN A i = x
      · rw [if_neg (show ¬ ¬ nI (stN A i) = nI x from fun q => q (by rw [hs])), nI_1 a]
        exact go (a + 1) (by simp [ho2, hs, b1])
      · rw [if_pos (show ¬ nI (stN A i) = nI x from fun q => hs ((st_I hx).mp q))]
        exact go a (by simp [hs, b1])
    · rw [if_pos (b1_f ho)]
      exact go a (by have ho2 : ¬ p_o A i = j + 1 := fun q => ho (ofK_t.mpr q); simp [ho2, b1])
theorem s_bwOfL (h : WF n A) (hk : KR k A) {j : Nat} (hj : j < p_n A) : ∀ (d i f a : Nat), i + d = 12 → d < f → R_X2_bowlsOf_L14 k j f (nI a) (nI i) = some (nI (fo (fun a q => a + vB A j q) d i a)) := by
  intro d
  induction d with
  | zero =>
    intro i f a hi hf
    obtain ⟨f, rfl⟩ : ∃ g, f = g + 1 := ⟨f - 1, by omega⟩
    obtain rfl : i = 12 := by omega
    rw [R_X2_bowlsOf_L14, if_pos (by decide)]
    rfl
  | succ d ih =>
    intro i f a hi hf
    obtain ⟨f, rfl⟩ : ∃ g, f = g + 1 := ⟨f - 1, by omega⟩
    have hi2 : i < 12 := by omega
    have go : ∀ a', a' = a + vB A j i → R_X2_bowlsOf_L14 k j f (nI a') (nI (i + 1)) = some (nI (fo (fun a q => a + vB A j q) d (i + 1) (a + vB A j i))) := fun a' e => by rw [ih (i + 1) f a' (by omega) (by omega), e]
    rw [R_X2_bowlsOf_L14, if_neg (nI_nge hi2), if_pos (nI_inb hi2), nI_1 i, fo]
    rw [nI_cl hi2, s_isOf h hk hi2 hj, Option.bind_some]
    by_cases ho : ofK A j i = true
    · rw [if_neg (b1_t ho)]
      rw [(hk.2.2 i hi2).2.2.2.2.1, nI_add]
      exact go _ (by unfold vB; rw [if_pos (ofK_t.mp ho)])
    · rw [if_pos (b1_f ho)]
      exact go a (by unfold vB; rw [if_neg (fun q => ho (ofK_t.mpr q))]; rfl)
theorem s_frL (h : WF n A) (hk : KR k A) : ∀ (d i f a : Nat), i + d = 12 → d < f → R_X2_freeShelves_L13 k f (nI a) (nI i) = some (nI (fo (fun a q => a + b1 (fr A q)) d i a)) := by
  intro d
  induction d with
  | zero =>
    intro i f a hi hf
    obtain ⟨f, rfl⟩ : ∃ g, f = g + 1 := ⟨f - 1, by omega⟩
    obtain rfl : i = 12 := by omega
    rw [R_X2_freeShelves_L13, if_pos (by decide)]
    rfl
  | succ d ih =>
    intro i f a hi hf
    obtain ⟨f, rfl⟩ : ∃ g, f = g + 1 := ⟨f - 1, by omega⟩
    have hi2 : i < 12 := by omega
    have go : ∀ a', a' = a + b1 (fr A i) → R_X2_freeShelves_L13 k f (nI a') (nI (i + 1)) = some (nI (fo (fun a q => a + b1 (fr A q)) d (i + 1) (a + b1 (fr A i)))) := fun a' e => by rw [ih (i + 1) f a' (by omega) (by omega), e]
    rw [R_X2_freeShelves_L13, if_neg (nI_nge hi2), if_pos (nI_inb hi2), nI_1 i, fo]
    rw [nI_cl hi2, s_state h hk hi2, Option.bind_some]
    by_cases hs : fr A i = true
    · rw [if_neg (show ¬ ¬ nI (stN A i) = 0 from fun q => q (by rw [fr_st.mp hs]; rfl)), nI_1 a]
      exact go (a + 1) (by rw [hs]; rfl)
    · rw [if_pos (show ¬ nI (stN A i) = 0 from fun q => hs (fr_st.mpr ((st_I (x := 0) (by omega)).mp q)))]
      exact go a (by rw [Bool.not_eq_true] at hs; rw [hs]; rfl)
theorem s_allL (hk : KR k A) : ∀ (d i f a : Nat), i + d = 12 → d < f → R_X2_bowlsInAll_L13 k f (nI a) (nI i) = some (nI (fo (fun a q => a + pc (p_b A q)) d i a)) := by
  intro d
  induction d with
  | zero =>
    intro i f a hi hf
    obtain ⟨f, rfl⟩ : ∃ g, f = g + 1 := ⟨f - 1, by omega⟩
    obtain rfl : i = 12 := by omega
    rw [R_X2_bowlsInAll_L13, if_pos (by decide)]
    rfl
  | succ d ih =>
    intro i f a hi hf
    obtain ⟨f, rfl⟩ : ∃ g, f = g + 1 := ⟨f - 1, by omega⟩
    have hi2 : i < 12 := by omega
    have go : ∀ a', a' = a + pc (p_b A i) → R_X2_bowlsInAll_L13 k f (nI a') (nI (i + 1)) = some (nI (fo (fun a q => a + pc (p_b A q)) d (i + 1) (a + pc (p_b A i)))) := fun a' e => by rw [ih (i + 1) f a' (by omega) (by omega), e]
    rw [R_X2_bowlsInAll_L13, if_neg (nI_nge hi2), if_pos (nI_inb hi2), nI_1 i, fo]
    rw [nI_cl hi2, (hk.2.2 i hi2).2.2.2.2.1, nI_add]
    exact go _ rfl
theorem s_undL (hk : KR k A) : ∀ (d i f a : Nat), i + d = 12 → d < f → R_X2_spansUnderBowls_L13 k f (nI a) (nI i) = some (nI (fo (fun a q => a + pc (p_b A q) * p_zs A q) d i a)) := by
  intro d
  induction d with
  | zero =>
    intro i f a hi hf
    obtain ⟨f, rfl⟩ : ∃ g, f = g + 1 := ⟨f - 1, by omega⟩
    obtain rfl : i = 12 := by omega
    rw [R_X2_spansUnderBowls_L13, if_pos (by decide)]
    rfl
  | succ d ih =>
    intro i f a hi hf
    obtain ⟨f, rfl⟩ : ∃ g, f = g + 1 := ⟨f - 1, by omega⟩
    have hi2 : i < 12 := by omega
    have go : ∀ a', a' = a + pc (p_b A i) * p_zs A i → R_X2_spansUnderBowls_L13 k f (nI a') (nI (i + 1)) = some (nI (fo (fun a q => a + pc (p_b A q) * p_zs A q) d (i + 1) (a + pc (p_b A i) * p_zs A i))) := fun a' e => by rw [ih (i + 1) f a' (by omega) (by omega), e]
    rw [R_X2_spansUnderBowls_L13, if_neg (nI_nge hi2), if_pos (nI_inb hi2), nI_1 i, fo]
    rw [nI_cl hi2, (hk.2.2 i hi2).2.2.2.2.1, (hk.2.2 i hi2).2.1, pk_mul, nI_add]
    exact go _ rfl
theorem s_noL (h : WF n A) (hk : KR k A) : ∀ (d i f a : Nat), i + d = 12 → d < f → R_X2_spansOfNoPlace_L13 k f (nI a) (nI i) = some (nI (fo (fun a q => a + vN A q) d i a)) := by
  intro d
  induction d with
  | zero =>
    intro i f a hi hf
    obtain ⟨f, rfl⟩ : ∃ g, f = g + 1 := ⟨f - 1, by omega⟩
    obtain rfl : i = 12 := by omega
    rw [R_X2_spansOfNoPlace_L13, if_pos (by decide)]
    rfl
  | succ d ih =>
    intro i f a hi hf
    obtain ⟨f, rfl⟩ : ∃ g, f = g + 1 := ⟨f - 1, by omega⟩
    have hi2 : i < 12 := by omega
    have go : ∀ a', a' = a + vN A i → R_X2_spansOfNoPlace_L13 k f (nI a') (nI (i + 1)) = some (nI (fo (fun a q => a + vN A q) d (i + 1) (a + vN A i))) := fun a' e => by rw [ih (i + 1) f a' (by omega) (by omega), e]
    rw [R_X2_spansOfNoPlace_L13, if_neg (nI_nge hi2), if_pos (nI_inb hi2), nI_1 i, fo]
    rw [nI_cl hi2, s_state h hk hi2, Option.bind_some]
    by_cases hs : fr A i = true
    · rw [if_pos (show nI (stN A i) = 0 from by rw [fr_st.mp hs]; rfl)]
      exact go a (by unfold vN; rw [if_pos (by simpa [fr] using hs)]; rfl)
    · rw [if_neg (show ¬ nI (stN A i) = 0 from fun q => hs (fr_st.mpr ((st_I (x := 0) (by omega)).mp q))), (hk.2.2 i hi2).2.2.1, (hk.2.2 i hi2).2.1, pk_mul, show (24 : Int32) = nI 24 from rfl, pk_sub (ps_zs h hi2), nI_add]
      exact go _ (by unfold vN; rw [if_neg (by simpa [fr] using hs)])
theorem s_shelvesOf (h : WF n A) (hk : KR k A) {j : Nat} (hj : j < p_n A) : R_X2_shelvesOf k j = some (nI (nS A j)) := by
  unfold R_X2_shelvesOf
  rw [show (0 : Int32) = nI 0 from rfl, s_shOfL h hk hj 12 0 FU 0 rfl (by decide), fo_sm0]
  rfl
theorem s_inState (h : WF n A) (hk : KR k A) {j x : Nat} (hj : j < p_n A) (hx : x < 100) : R_X2_shelvesInState k j (nI x) = some (nI (nX A j x)) := by
  unfold R_X2_shelvesInState
  rw [show (0 : Int32) = nI 0 from rfl, s_inStL h hk hj hx 12 0 FU 0 rfl (by decide), fo_sm0]
  rfl
theorem s_bowlsOf (h : WF n A) (hk : KR k A) {j : Nat} (hj : j < p_n A) : R_X2_bowlsOf k j = some (nI (nB A j)) := by
  unfold R_X2_bowlsOf
  rw [show (0 : Int32) = nI 0 from rfl, s_bwOfL h hk hj 12 0 FU 0 rfl (by decide), fo_sm0]
  rfl
theorem s_free (h : WF n A) (hk : KR k A) : R_X2_freeShelves k = some (nI (nF A)) := by
  unfold R_X2_freeShelves
  rw [show (0 : Int32) = nI 0 from rfl, s_frL h hk 12 0 FU 0 rfl (by decide), fo_sm0]
  rfl
theorem s_all (hk : KR k A) : R_X2_bowlsInAll k = some (nI (nA A)) := by
  unfold R_X2_bowlsInAll
  rw [show (0 : Int32) = nI 0 from rfl, s_allL hk 12 0 FU 0 rfl (by decide), fo_sm0]
  rfl
theorem s_und (hk : KR k A) : R_X2_spansUnderBowls k = some (nI (nU A)) := by
  unfold R_X2_spansUnderBowls
  rw [show (0 : Int32) = nI 0 from rfl, s_undL hk 12 0 FU 0 rfl (by decide), fo_sm0]
  rfl
theorem s_no (h : WF n A) (hk : KR k A) : R_X2_spansOfNoPlace k = some (nI (nN A)) := by
  unfold R_X2_spansOfNoPlace
  rw [show (0 : Int32) = nI 0 from rfl, s_noL h hk 12 0 FU 0 rfl (by decide), fo_sm0]
  rfl
theorem nF_le (A : AS) : nF A ≤ 12 := by
  have := sm_le (f := fun q => b1 (fr A q)) (g := fun _ => 1) (n := 12) (fun q _ => b1_le _)
  rw [sm_const] at this
  exact this
theorem s_taken (h : WF n A) (hk : KR k A) : R_X2_takenShelves k = some (nI (12 - nF A)) := by
  unfold R_X2_takenShelves
  rw [s_free h hk, Option.bind_some, show (12 : Int32) = nI 12 from rfl, pk_sub (nF_le A)]

def vs2 (A : AS) (q : Nat) : Nat := if p_o A q = 0 then 1 else 0
def vs3 (A : AS) (q : Nat) : Nat := if p_o A q = 0 then 0 else pc (p_b A q)
def vs4 (A : AS) (q : Nat) : Nat := if p_o A q = 0 then 0 else pc (p_b A q) * p_zs A q
def vs5 (A : AS) (q : Nat) : Nat := if p_o A q = 0 then 0 else 24 - pc (p_b A q) * p_zs A q
def vs6 (A : AS) (q : Nat) : Nat := if p_o A q = 0 then 0 else 24 % p_zs A q
theorem us_b (A : AS) (j q : Nat) : us A j q = (p_o A q == j + 1 && stN A q == 2) := by rw [Bool.eq_iff_iff, us_st]; simp
theorem em_b (A : AS) (j q : Nat) : em A j q = (p_o A q == j + 1 && stN A q == 1) := by rw [Bool.eq_iff_iff, em_st]; simp
theorem nU_le (h : WF n A) : nU A ≤ (12 - nF A) * 24 := by
  have h1 : nU A ≤ sm (fun q => 24 * (1 - b1 (fr A q))) 12 := sm_le (fun q hq => by
    have := pc_zs h hq
    by_cases ho : p_o A q = 0
    · simp [fr, ho, p_zs, b1]
    · simp [fr, ho, b1]; omega)
  rw [sm_mul] at h1
  have h2 : sm (fun q => 1 - b1 (fr A q)) 12 + nF A = 12 := by
    unfold nF
    rw [← sm_add, sm_congr (g := fun _ => 1) (fun q _ => by have := b1_le (fr A q); omega), sm_const]
  omega

end LP
