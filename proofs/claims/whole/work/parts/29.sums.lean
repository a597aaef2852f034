/-! sums over the shelves, on both sides -/
def nS (A : AS) (j : Nat) : Nat := sm (fun q => b1 (ofK A j q)) 12
def nX (A : AS) (j x : Nat) : Nat := sm (fun q => b1 (p_o A q == j + 1 && stN A q == x)) 12
def vB (A : AS) (j q : Nat) : Nat := if p_o A q = j + 1 then pc (p_b A q) else 0
def nB (A : AS) (j : Nat) : Nat := sm (vB A j) 12
def nF (A : AS) : Nat := sm (fun q => b1 (fr A q)) 12
def nA (A : AS) : Nat := sm (fun q => pc (p_b A q)) 12
def nU (A : AS) : Nat := sm (fun q => pc (p_b A q) * p_zs A q) 12
def vN (A : AS) (q : Nat) : Nat := if p_o A q = 0 then 0 else 24 - p_ps A q * p_zs A q
def nN (A : AS) : Nat := sm (vN A) 12
section LP
variable {n : Nat} {A : AS} {k : KSt} {m : MSt}
theorem ps_zs (h : WF n A) {i : Nat} (hi : i < 12) : p_ps A i * p_zs A i ≤ 24 := by
  unfold p_ps p_zs p_pl
  split
  · omega
  · exact Nat.div_mul_le_self _ _
theorem pc_zs (h : WF n A) {i : Nat} (hi : i < 12) : pc (p_b A i) * p_zs A i ≤ 24 := Nat.le_trans (Nat.mul_le_mul_right _ (w_pc h hi)) (ps_zs h hi)

theorem s_shOfL (h : WF n A) (hk : KR k A) {j : Nat} (hj : j < p_n A) : ∀ (d i f a : Nat), i + d = 12 → d < f → R_X2_shelvesOf_L14 k j f (nI a) (nI i) = some (nI (fo (fun a q => a + b1 (ofK A j q)) d i a)) := by
  intro d
  induction d with
  | zero =>
    intro i f a hi hf
    obtain ⟨f, rfl⟩ : ∃ g, f = g + 1 := ⟨f - 1, by omega⟩
    obtain rfl : i = 12 := by omega
    rw [R_X2_shelvesOf_L14, if_pos (by decide)]
    rfl
  | succ d ih =>
    intro i f a hi hf
    obtain ⟨f, rfl⟩ : ∃ g, f = g + 1 := ⟨f - 1, by omega⟩
    have hi2 : i < 12 := by omega
    have go : ∀ a', a' = a + b1 (ofK A j i) → R_X2_shelvesOf_L14 k j f (nI a') (nI (i + 1)) = some (nI (fo (fun a q => a + b1 (ofK A j q)) d (i + 1) (a + b1 (ofK A j i)))) := fun a' e => by rw [ih (i + 1) f a' (by omega) (by omega), e]
    rw [R_X2_shelvesOf_L14, if_neg (nI_nge hi2), if_pos (nI_inb hi2), nI_1 i, fo]
    rw [nI_cl hi2, s_isOf h hk hi2 hj, Option.bind_some]
    by_cases ho : ofK A j i = true
    · rw [if_neg (b1_t ho)]
      rw [nI_1 a]
      exact go (a + 1) (by rw [ho]; rfl)
    · rw [if_pos (b1_f ho)]
      exact go a (by rw [Bool.not_eq_true] at ho; rw [ho]; rfl)
theorem s_inStL (h : WF n A) (hk : KR k A) {j x : Nat} (hj : j < p_n A) (hx : x < 100) : ∀ (d i f a : Nat), i + d = 12 → d < f → R_X2_shelvesInState_L16 k j (nI x) f (nI a) (nI i) = some (nI (fo (fun a q => a + b1 (p_o A q == j + 1 && stN A q == x)) d i a)) := by
  intro d
  induction d with
  | zero =>
    intro i f a hi hf
    obtain ⟨f, rfl⟩ : ∃ g, f = g + 1 := ⟨f - 1, by omega⟩
    obtain rfl : i = 12 := by omega
    rw [R_X2_shelvesInState_L16, if_pos (by decide)]
    rfl
  | succ d ih =>
    intro i f a hi hf
    obtain ⟨f, rfl⟩ : ∃ g, f = g + 1 := ⟨f - 1, by omega⟩
    have hi2 : i < 12 := by omega
    have go : ∀ a', a' = a + b1 (p_o A i == j + 1 && stN A i == x) → R_X2_shelvesInState_L16 k j (nI x) f (nI a') (nI (i + 1)) = some (nI (fo (fun a q => a + b1 (p_o A q == j + 1 && stN A q == x)) d (i + 1) (a + b1 (p_o A i == j + 1 && stN A i == x)))) := fun a' e => by rw [ih (i + 1) f a' (by omega) (by omega), e]
    rw [R_X2_shelvesInState_L16, if_neg (nI_nge hi2), if_pos (nI_inb hi2), nI_1 i, fo]
    rw [nI_cl hi2, s_isOf h hk hi2 hj, Option.bind_some]
    by_cases ho : ofK A j i = true
    · rw [if_neg (b1_t ho)]
      rw [s_state h hk hi2, Option.bind_some]
      have ho2 := ofK_t.mp ho
      by_cases hs : stN A i = x
      · rw [if_neg (show ¬ ¬ nI (stN A i) = nI x from fun q => q (by rw [hs])), nI_1 a]
        exact go (a + 1) (by simp [ho2, hs, b1])
      · rw [if_pos (show ¬ nI (stN A i) = nI x from fun q => hs ((st_I hx).mp q))]
        exact go a (by simp [hs, b1])
    · rw [if_pos (b1_f ho)]
      exact go a (by have ho2 : ¬ p_o A i = j + 1 := fun q => ho (ofK_t.mpr q); simp [ho2, b1])
theorem s_bwOfL (h : WF n A) (hk : KR k A) {j : Nat} (hj : j < p_n A) : ∀ (d i f a : Nat), i + d = 12 → d < f → R_X2_bowlsOf_L14 k j f (nI a) (nI i) = some (nI (fo (fun a q => a + vB A j q) d i a)) := by
  intro d
  induction d with
  | zero =>
    intro i f a hi hf
    obtain ⟨f, rfl⟩ : ∃ g, f = g + 1 := ⟨f - 1, by omega⟩
    obtain rfl : i = 12 := by omega
    rw [R_X2_bowlsOf_L14, if_pos (by decide)]
    rfl
  | succ d ih =>
    intro i f a hi hf
    obtain ⟨f, rfl⟩ : ∃ g, f = g + 1 := ⟨f - 1, by omega⟩
    have hi2 : i < 12 := by omega
    have go : ∀ a', a' = a + vB A j i → R_X2_bowlsOf_L14 k j f (nI a') (nI (i + 1)) = some (nI (fo (fun a q => a + vB A j q) d (i + 1) (a + vB A j i))) := fun a' e => by rw [ih (i + 1) f a' (by omega) (by omega), e]
    rw [R_X2_bowlsOf_L14, if_neg (nI_nge hi2), if_pos (nI_inb hi2), nI_1 i, fo]
    rw [nI_cl hi2, s_isOf h hk hi2 hj, Option.bind_some]
    by_cases ho : ofK A j i = true
    · rw [if_neg (b1_t ho)]
      rw [(hk.2.2 i hi2).2.2.2.2.1, nI_add]
      exact go _ (by unfold vB; rw [if_pos (ofK_t.mp ho)])
    · rw [if_pos (b1_f ho)]
      exact go a (by unfold vB; rw [if_neg (fun q => ho (ofK_t.mpr q))]; rfl)
theorem s_frL (h : WF n A) (hk : KR k A) : ∀ (d i f a : Nat), i + d = 12 → d < f → R_X2_freeShelves_L13 k f (nI a) (nI i) = some (nI (fo (fun a q => a + b1 (fr A q)) d i a)) := by
  intro d
  induction d with
  | zero =>
    intro i f a hi hf
    obtain ⟨f, rfl⟩ : ∃ g, f = g + 1 := ⟨f - 1, by omega⟩
    obtain rfl : i = 12 := by omega
    rw [R_X2_freeShelves_L13, if_pos (by decide)]
    rfl
  | succ d ih =>
    intro i f a hi hf
    obtain ⟨f, rfl⟩ : ∃ g, f = g + 1 := ⟨f - 1, by omega⟩
    have hi2 : i < 12 := by omega
    have go : ∀ a', a' = a + b1 (fr A i) → R_X2_freeShelves_L13 k f (nI a') (nI (i + 1)) = some (nI (fo (fun a q => a + b1 (fr A q)) d (i + 1) (a + b1 (fr A i)))) := fun a' e => by rw [ih (i + 1) f a' (by omega) (by omega), e]
    rw [R_X2_freeShelves_L13, if_neg (nI_nge hi2), if_pos (nI_inb hi2), nI_1 i, fo]
    rw [nI_cl hi2, s_state h hk hi2, Option.bind_some]
    by_cases hs : fr A i = true
    · rw [if_neg (show ¬ ¬ nI (stN A i) = 0 from fun q => q (by rw [fr_st.mp hs]; rfl)), nI_1 a]
      exact go (a + 1) (by rw [hs]; rfl)
    · rw [if_pos (show ¬ nI (stN A i) = 0 from fun q => hs (fr_st.mpr ((st_I (x := 0) (by omega)).mp q)))]
      exact go a (by rw [Bool.not_eq_true] at hs; rw [hs]; rfl)
theorem s_allL (hk : KR k A) : ∀ (d i f a : Nat), i + d = 12 → d < f → R_X2_bowlsInAll_L13 k f (nI a) (nI i) = some (nI (fo (fun a q => a + pc (p_b A q)) d i a)) := by
  intro d
  induction d with
  | zero =>
    intro i f a hi hf
    obtain ⟨f, rfl⟩ : ∃ g, f = g + 1 := ⟨f - 1, by omega⟩
    obtain rfl : i = 12 := by omega
    rw [R_X2_bowlsInAll_L13, if_pos (by decide)]
    rfl
  | succ d ih =>
    intro i f a hi hf
    obtain ⟨f, rfl⟩ : ∃ g, f = g + 1 := ⟨f - 1, by omega⟩
    have hi2 : i < 12 := by omega
    have go : ∀ a', a' = a + pc (p_b A i) → R_X2_bowlsInAll_L13 k f (nI a') (nI (i + 1)) = some (nI (fo (fun a q => a + pc (p_b A q)) d (i + 1) (a + pc (p_b A i)))) := fun a' e => by rw [ih (i + 1) f a' (by omega) (by omega), e]
    rw [R_X2_bowlsInAll_L13, if_neg (nI_nge hi2), if_pos (nI_inb hi2), nI_1 i, fo]
    rw [nI_cl hi2, (hk.2.2 i hi2).2.2.2.2.1, nI_add]
    exact go _ rfl
theorem s_undL (hk : KR k A) : ∀ (d i f a : Nat), i + d = 12 → d < f → R_X2_spansUnderBowls_L13 k f (nI a) (nI i) = some (nI (fo (fun a q => a + pc (p_b A q) * p_zs A q) d i a)) := by
  intro d
  induction d with
  | zero =>
    intro i f a hi hf
    obtain ⟨f, rfl⟩ : ∃ g, f = g + 1 := ⟨f - 1, by omega⟩
    obtain rfl : i = 12 := by omega
    rw [R_X2_spansUnderBowls_L13, if_pos (by decide)]
    rfl
  | succ d ih =>
    intro i f a hi hf
    obtain ⟨f, rfl⟩ : ∃ g, f = g + 1 := ⟨f - 1, by omega⟩
    have hi2 : i < 12 := by omega
    have go : ∀ a', a' = a + pc (p_b A i) * p_zs A i → R_X2_spansUnderBowls_L13 k f (nI a') (nI (i + 1)) = some (nI (fo (fun a q => a + pc (p_b A q) * p_zs A q) d (i + 1) (a + pc (p_b A i) * p_zs A i))) := fun a' e => by rw [ih (i + 1) f a' (by omega) (by omega), e]
    rw [R_X2_spansUnderBowls_L13, if_neg (nI_nge hi2), if_pos (nI_inb hi2), nI_1 i, fo]
    rw [nI_cl hi2, (hk.2.2 i hi2).2.2.2.2.1, (hk.2.2 i hi2).2.1, pk_mul, nI_add]
    exact go _ rfl
theorem s_noL (h : WF n A) (hk : KR k A) : ∀ (d i f a : Nat), i + d = 12 → d < f → R_X2_spansOfNoPlace_L13 k f (nI a) (nI i) = some (nI (fo (fun a q => a + vN A q) d i a)) := by
  intro d
  induction d with
  | zero =>
    intro i f a hi hf
    obtain ⟨f, rfl⟩ : ∃ g, f = g + 1 := ⟨f - 1, by omega⟩
    obtain rfl : i = 12 := by omega
    rw [R_X2_spansOfNoPlace_L13, if_pos (by decide)]
    rfl
  | succ d ih =>
    intro i f a hi hf
    obtain ⟨f, rfl⟩ : ∃ g, f = g + 1 := ⟨f - 1, by omega⟩
    have hi2 : i < 12 := by omega
    have go : ∀ a', a' = a + vN A i → R_X2_spansOfNoPlace_L13 k f (nI a') (nI (i + 1)) = some (nI (fo (fun a q => a + vN A q) d (i + 1) (a + vN A i))) := fun a' e => by rw [ih (i + 1) f a' (by omega) (by omega), e]
    rw [R_X2_spansOfNoPlace_L13, if_neg (nI_nge hi2), if_pos (nI_inb hi2), nI_1 i, fo]
    rw [nI_cl hi2, s_state h hk hi2, Option.bind_some]
    by_cases hs : fr A i = true
    · rw [if_pos (show nI (stN A i) = 0 from by rw [fr_st.mp hs]; rfl)]
      exact go a (by unfold vN; rw [if_pos (by simpa [fr] using hs)]; rfl)
    · rw [if_neg (show ¬ nI (stN A i) = 0 from fun q => hs (fr_st.mpr ((st_I (x := 0) (by omega)).mp q))), (hk.2.2 i hi2).2.2.1, (hk.2.2 i hi2).2.1, pk_mul, show (24 : Int32) = nI 24 from rfl, pk_sub (ps_zs h hi2), nI_add]
      exact go _ (by unfold vN; rw [if_neg (by simpa [fr] using hs)])
theorem s_shelvesOf (h : WF n A) (hk : KR k A) {j : Nat} (hj : j < p_n A) : R_X2_shelvesOf k j = some (nI (nS A j)) := by
  unfold R_X2_shelvesOf
  rw [show (0 : Int32) = nI 0 from rfl, s_shOfL h hk hj 12 0 FU 0 rfl (by decide), fo_sm0]
  rfl
theorem s_inState (h : WF n A) (hk : KR k A) {j x : Nat} (hj : j < p_n A) (hx : x < 100) : R_X2_shelvesInState k j (nI x) = some (nI (nX A j x)) := by
  unfold R_X2_shelvesInState
  rw [show (0 : Int32) = nI 0 from rfl, s_inStL h hk hj hx 12 0 FU 0 rfl (by decide), fo_sm0]
  rfl
theorem s_bowlsOf (h : WF n A) (hk : KR k A) {j : Nat} (hj : j < p_n A) : R_X2_bowlsOf k j = some (nI (nB A j)) := by
  unfold R_X2_bowlsOf
  rw [show (0 : Int32) = nI 0 from rfl, s_bwOfL h hk hj 12 0 FU 0 rfl (by decide), fo_sm0]
  rfl
theorem s_free (h : WF n A) (hk : KR k A) : R_X2_freeShelves k = some (nI (nF A)) := by
  unfold R_X2_freeShelves
  rw [show (0 : Int32) = nI 0 from rfl, s_frL h hk 12 0 FU 0 rfl (by decide), fo_sm0]
  rfl
theorem s_all (hk : KR k A) : R_X2_bowlsInAll k = some (nI (nA A)) := by
  unfold R_X2_bowlsInAll
  rw [show (0 : Int32) = nI 0 from rfl, s_allL hk 12 0 FU 0 rfl (by decide), fo_sm0]
  rfl
theorem s_und (hk : KR k A) : R_X2_spansUnderBowls k = some (nI (nU A)) := by
  unfold R_X2_spansUnderBowls
  rw [show (0 : Int32) = nI 0 from rfl, s_undL hk 12 0 FU 0 rfl (by decide), fo_sm0]
  rfl
theorem s_no (h : WF n A) (hk : KR k A) : R_X2_spansOfNoPlace k = some (nI (nN A)) := by
  unfold R_X2_spansOfNoPlace
  rw [show (0 : Int32) = nI 0 from rfl, s_noL h hk 12 0 FU 0 rfl (by decide), fo_sm0]
  rfl
theorem nF_le (A : AS) : nF A ≤ 12 := by
  have := sm_le (f := fun q => b1 (fr A q)) (g := fun _ => 1) (n := 12) (fun q _ => b1_le _)
  rw [sm_const] at this
  exact this
theorem s_taken (h : WF n A) (hk : KR k A) : R_X2_takenShelves k = some (nI (12 - nF A)) := by
  unfold R_X2_takenShelves
  rw [s_free h hk, Option.bind_some, show (12 : Int32) = nI 12 from rfl, pk_sub (nF_le A)]

theorem t_sh0L (h : WF n A) (hm : MR m A) {j : Nat} (hj : j < p_n A) : ∀ (d i f a : Nat), i + d = 12 → d < f → R_X3_shelvesOf_L5 m (nI j) (0 : Int32) f (nI a) (nI i) = some (nI (fo (fun a q => a + b1 (ofK A j q)) d i a)) := by
  intro d
  induction d with
  | zero =>
    intro i f a hi hf
    obtain ⟨f, rfl⟩ : ∃ g, f = g + 1 := ⟨f - 1, by omega⟩
    obtain rfl : i = 12 := by omega
    rw [R_X3_shelvesOf_L5, if_pos (by decide)]
    rfl
  | succ d ih =>
    intro i f a hi hf
    obtain ⟨f, rfl⟩ : ∃ g, f = g + 1 := ⟨f - 1, by omega⟩
    have hi2 : i < 12 := by omega
    have go : ∀ a', a' = a + b1 (ofK A j i) → R_X3_shelvesOf_L5 m (nI j) (0 : Int32) f (nI a') (nI (i + 1)) = some (nI (fo (fun a q => a + b1 (ofK A j q)) d (i + 1) (a + b1 (ofK A j i)))) := fun a' e => by rw [ih (i + 1) f a' (by omega) (by omega), e]
    rw [R_X3_shelvesOf_L5, if_neg (nI_nge hi2), if_pos (nI_inb hi2), nI_1 i, fo]
    have h5 := h.1
    have hf : ¬ (p_oI A i = nI j) → R_X3_shelvesOf_L5 m (nI j) (0 : Int32) f (nI a) (nI (i + 1)) = some (nI (fo (fun a q => a + b1 (ofK A j q)) d (i + 1) (a + b1 (ofK A j i)))) := fun ho => go a (by have ho2 : ¬ p_o A i = j + 1 := fun q => ho ((oI_eq h hi2 (by omega)).mpr q); simp [ofK, ho2, b1])
    have h0 : (0 : Int32) = nI 0 := rfl
    rw [nI_cl hi2, (hm.2.2.2 i hi2).1]
    by_cases ho : p_oI A i = nI j
    · have ho2 := (oI_eq h hi2 (by omega)).mp ho
      rw [if_pos ho]
      rw [if_pos rfl, nI_1 a]
      exact go (a + 1) (by rw [ofK_t.mpr ho2]; rfl)
    · rw [if_neg ho]
      exact hf ho
theorem t_sh1L (h : WF n A) (hm : MR m A) {j : Nat} (hj : j < p_n A) : ∀ (d i f a : Nat), i + d = 12 → d < f → R_X3_shelvesOf_L5 m (nI j) (1 : Int32) f (nI a) (nI i) = some (nI (fo (fun a q => a + b1 (p_o A q == j + 1 && stN A q == 3)) d i a)) := by
  intro d
  induction d with
  | zero =>
    intro i f a hi hf
    obtain ⟨f, rfl⟩ : ∃ g, f = g + 1 := ⟨f - 1, by omega⟩
    obtain rfl : i = 12 := by omega
    rw [R_X3_shelvesOf_L5, if_pos (by decide)]
    rfl
  | succ d ih =>
    intro i f a hi hf
    obtain ⟨f, rfl⟩ : ∃ g, f = g + 1 := ⟨f - 1, by omega⟩
    have hi2 : i < 12 := by omega
    have go : ∀ a', a' = a + b1 (p_o A i == j + 1 && stN A i == 3) → R_X3_shelvesOf_L5 m (nI j) (1 : Int32) f (nI a') (nI (i + 1)) = some (nI (fo (fun a q => a + b1 (p_o A q == j + 1 && stN A q == 3)) d (i + 1) (a + b1 (p_o A i == j + 1 && stN A i == 3)))) := fun a' e => by rw [ih (i + 1) f a' (by omega) (by omega), e]
    rw [R_X3_shelvesOf_L5, if_neg (nI_nge hi2), if_pos (nI_inb hi2), nI_1 i, fo]
    have h5 := h.1
    have hf : ¬ (p_oI A i = nI j) → R_X3_shelvesOf_L5 m (nI j) (1 : Int32) f (nI a) (nI (i + 1)) = some (nI (fo (fun a q => a + b1 (p_o A q == j + 1 && stN A q == 3)) d (i + 1) (a + b1 (p_o A i == j + 1 && stN A i == 3)))) := fun ho => go a (by have ho2 : ¬ p_o A i = j + 1 := fun q => ho ((oI_eq h hi2 (by omega)).mpr q); simp [ofK, ho2, b1])
    have h0 : (0 : Int32) = nI 0 := rfl
    rw [nI_cl hi2, (hm.2.2.2 i hi2).1]
    by_cases ho : p_oI A i = nI j
    · have ho2 := (oI_eq h hi2 (by omega)).mp ho
      rw [if_pos ho]
      have hfu : (pc (p_b A i) == p_ps A i) = (stN A i == 3) := by
        have h1 := w_pc h hi2
        have h2 := (w_pl h (j := j) (by omega)).1
        have h3 : p_ps A i = p_pl A j := by rw [ps_I (by omega), ho2]; rfl
        have hz := pc_b0 h hi2
        unfold stN
        rw [Bool.eq_iff_iff]
        by_cases hb : p_b A i = 0
        · have e0 : pc 0 = 0 := by decide +kernel
          simp [ho2, hb, e0]; omega
        · by_cases hp : pc (p_b A i) < p_ps A i
          · simp [ho2, hb, hp]; omega
          · simp [ho2, hb, hp]; omega
      rw [if_neg (by decide), if_neg (fun q => q rfl), t_isFull h hm hi2 (by omega), Option.bind_some, hfu]
      by_cases hs : stN A i = 3
      · rw [if_pos (b1_t (by simp [hs])), nI_1 a]
        exact go (a + 1) (by simp [ho2, hs, b1])
      · rw [if_neg (fun q => q (b1_f (by simp [hs]))), if_pos (by decide), if_pos (by decide), h0, nI_add]
        exact go (a + 0) (by simp [hs, b1])
    · rw [if_neg ho]
      exact hf ho
theorem t_sh2L (h : WF n A) (hm : MR m A) {j : Nat} (hj : j < p_n A) : ∀ (d i f a : Nat), i + d = 12 → d < f → R_X3_shelvesOf_L5 m (nI j) (2 : Int32) f (nI a) (nI i) = some (nI (fo (fun a q => a + b1 (us A j q)) d i a)) := by
  intro d
  induction d with
  | zero =>
    intro i f a hi hf
    obtain ⟨f, rfl⟩ : ∃ g, f = g + 1 := ⟨f - 1, by omega⟩
    obtain rfl : i = 12 := by omega
    rw [R_X3_shelvesOf_L5, if_pos (by decide)]
    rfl
  | succ d ih =>
    intro i f a hi hf
    obtain ⟨f, rfl⟩ : ∃ g, f = g + 1 := ⟨f - 1, by omega⟩
    have hi2 : i < 12 := by omega
    have go : ∀ a', a' = a + b1 (us A j i) → R_X3_shelvesOf_L5 m (nI j) (2 : Int32) f (nI a') (nI (i + 1)) = some (nI (fo (fun a q => a + b1 (us A j q)) d (i + 1) (a + b1 (us A j i)))) := fun a' e => by rw [ih (i + 1) f a' (by omega) (by omega), e]
    rw [R_X3_shelvesOf_L5, if_neg (nI_nge hi2), if_pos (nI_inb hi2), nI_1 i, fo]
    have h5 := h.1
    have hf : ¬ (p_oI A i = nI j) → R_X3_shelvesOf_L5 m (nI j) (2 : Int32) f (nI a) (nI (i + 1)) = some (nI (fo (fun a q => a + b1 (us A j q)) d (i + 1) (a + b1 (us A j i)))) := fun ho => go a (by have ho2 : ¬ p_o A i = j + 1 := fun q => ho ((oI_eq h hi2 (by omega)).mpr q); simp [us, ho2, b1])
    have h0 : (0 : Int32) = nI 0 := rfl
    rw [nI_cl hi2, (hm.2.2.2 i hi2).1]
    by_cases ho : p_oI A i = nI j
    · have ho2 := (oI_eq h hi2 (by omega)).mp ho
      rw [if_pos ho]
      rw [if_neg (by decide), if_pos (by decide), if_neg (fun q => q rfl), t_isUsed h hm hi2 hj, Option.bind_some]
      by_cases hs : us A j i = true
      · rw [if_pos (b1_t hs), nI_1 a]
        exact go (a + 1) (by rw [hs]; rfl)
      · rw [if_neg (fun q => q (b1_f hs)), if_pos (by decide), h0, nI_add]
        exact go (a + 0) (by rw [Bool.not_eq_true] at hs; rw [hs]; rfl)
    · rw [if_neg ho]
      exact hf ho
theorem t_sh3L (h : WF n A) (hm : MR m A) {j : Nat} (hj : j < p_n A) : ∀ (d i f a : Nat), i + d = 12 → d < f → R_X3_shelvesOf_L5 m (nI j) (3 : Int32) f (nI a) (nI i) = some (nI (fo (fun a q => a + b1 (em A j q)) d i a)) := by
  intro d
  induction d with
  | zero =>
    intro i f a hi hf
    obtain ⟨f, rfl⟩ : ∃ g, f = g + 1 := ⟨f - 1, by omega⟩
    obtain rfl : i = 12 := by omega
    rw [R_X3_shelvesOf_L5, if_pos (by decide)]
    rfl
  | succ d ih =>
    intro i f a hi hf
    obtain ⟨f, rfl⟩ : ∃ g, f = g + 1 := ⟨f - 1, by omega⟩
    have hi2 : i < 12 := by omega
    have go : ∀ a', a' = a + b1 (em A j i) → R_X3_shelvesOf_L5 m (nI j) (3 : Int32) f (nI a') (nI (i + 1)) = some (nI (fo (fun a q => a + b1 (em A j q)) d (i + 1) (a + b1 (em A j i)))) := fun a' e => by rw [ih (i + 1) f a' (by omega) (by omega), e]
    rw [R_X3_shelvesOf_L5, if_neg (nI_nge hi2), if_pos (nI_inb hi2), nI_1 i, fo]
    have h5 := h.1
    have hf : ¬ (p_oI A i = nI j) → R_X3_shelvesOf_L5 m (nI j) (3 : Int32) f (nI a) (nI (i + 1)) = some (nI (fo (fun a q => a + b1 (em A j q)) d (i + 1) (a + b1 (em A j i)))) := fun ho => go a (by have ho2 : ¬ p_o A i = j + 1 := fun q => ho ((oI_eq h hi2 (by omega)).mpr q); simp [em, ho2, b1])
    have h0 : (0 : Int32) = nI 0 := rfl
    rw [nI_cl hi2, (hm.2.2.2 i hi2).1]
    by_cases ho : p_oI A i = nI j
    · have ho2 := (oI_eq h hi2 (by omega)).mp ho
      rw [if_pos ho]
      rw [if_neg (by decide), if_pos (by decide), if_pos (by decide), if_neg (fun q => q rfl), if_pos (nI_inb hi2), (hm.2.2.2 i hi2).2.2.1]
      have hb4 := w_b4 h hi2
      by_cases hs : p_b A i = 0
      · rw [if_neg (fun q => q (by rw [hs]; rfl)), nI_1 a]
        exact go (a + 1) (by simp [em, ho2, hs, b1])
      · rw [if_pos (nI_ne0 (by omega) (by omega)), h0, nI_add]
        exact go (a + 0) (by simp [em, hs, b1])
    · rw [if_neg ho]
      exact hf ho
theorem t_bwOfL (h : WF n A) (hm : MR m A) {j : Nat} (hj : j < p_n A) : ∀ (d i f a : Nat), i + d = 12 → d < f → R_X3_bowlsOf_L4 m (nI j) f (nI a) (nI i) = some (nI (fo (fun a q => a + vB A j q) d i a)) := by
  intro d
  induction d with
  | zero =>
    intro i f a hi hf
    obtain ⟨f, rfl⟩ : ∃ g, f = g + 1 := ⟨f - 1, by omega⟩
    obtain rfl : i = 12 := by omega
    rw [R_X3_bowlsOf_L4, if_pos (by decide)]
    rfl
  | succ d ih =>
    intro i f a hi hf
    obtain ⟨f, rfl⟩ : ∃ g, f = g + 1 := ⟨f - 1, by omega⟩
    have hi2 : i < 12 := by omega
    have go : ∀ a', a' = a + vB A j i → R_X3_bowlsOf_L4 m (nI j) f (nI a') (nI (i + 1)) = some (nI (fo (fun a q => a + vB A j q) d (i + 1) (a + vB A j i))) := fun a' e => by rw [ih (i + 1) f a' (by omega) (by omega), e]
    rw [R_X3_bowlsOf_L4, if_neg (nI_nge hi2), if_pos (nI_inb hi2), nI_1 i, fo]
    have h5 := h.1
    rw [nI_cl hi2, (hm.2.2.2 i hi2).1]
    by_cases ho : p_oI A i = nI j
    · have ho2 := (oI_eq h hi2 (by omega)).mp ho
      rw [if_neg (fun q => q ho), t_many h hm hi2, Option.bind_some, nI_add]
      exact go _ (by unfold vB; rw [if_pos ho2])
    · rw [if_pos ho, show (0 : Int32) = nI 0 from rfl, nI_add]
      exact go _ (by unfold vB; rw [if_neg (fun q => ho ((oI_eq h hi2 (by omega)).mpr q))])
def vs2 (A : AS) (q : Nat) : Nat := if p_o A q = 0 then 1 else 0
theorem t_sum2L (h : WF n A) (hm : MR m A) : ∀ (d i f a : Nat), i + d = 12 → d < f → R_X3_sum_L4 m (2 : Int32) f (nI a) (nI i) = some (nI (fo (fun a q => a + vs2 A q) d i a)) := by
  intro d
  induction d with
  | zero =>
    intro i f a hi hf
    obtain ⟨f, rfl⟩ : ∃ g, f = g + 1 := ⟨f - 1, by omega⟩
    obtain rfl : i = 12 := by omega
    rw [R_X3_sum_L4, if_pos (by decide)]
    rfl
  | succ d ih =>
    intro i f a hi hf
    obtain ⟨f, rfl⟩ : ∃ g, f = g + 1 := ⟨f - 1, by omega⟩
    have hi2 : i < 12 := by omega
    have go : ∀ a', a' = a + vs2 A i → R_X3_sum_L4 m (2 : Int32) f (nI a') (nI (i + 1)) = some (nI (fo (fun a q => a + vs2 A q) d (i + 1) (a + vs2 A i))) := fun a' e => by rw [ih (i + 1) f a' (by omega) (by omega), e]
    rw [R_X3_sum_L4, if_neg (nI_nge hi2), nI_1 i, fo]
    have h5 := h.1
    rw [t_isFree h hm hi2, Option.bind_some]
    by_cases ho : p_o A i = 0
    · rw [if_neg (b1_t (by simp [fr, ho])), if_neg (fun q => q rfl), nI_1 a]
      exact go _ (by unfold vs2; rw [if_pos ho])
    · have ho1 := ow_lt h hi2 ho
      rw [if_pos (b1_f (by simp [fr, ho])), t_many h hm hi2, Option.bind_some, if_pos (nI_inb hi2), nI_cl hi2, (hm.2.2.2 i hi2).1, ow_I ho, if_pos (inb_nI (by omega) (by omega)), cl (by omega), (hm.2.1 _ ho1).1]
      rw [if_pos (by decide), if_pos (by decide), if_pos (by decide), if_pos (by decide), show (0 : Int32) = nI 0 from rfl, nI_add]
      exact go _ (by unfold vs2; rw [if_neg ho])
def vs3 (A : AS) (q : Nat) : Nat := if p_o A q = 0 then 0 else pc (p_b A q)
theorem t_sum3L (h : WF n A) (hm : MR m A) : ∀ (d i f a : Nat), i + d = 12 → d < f → R_X3_sum_L4 m (3 : Int32) f (nI a) (nI i) = some (nI (fo (fun a q => a + vs3 A q) d i a)) := by
  intro d
  induction d with
  | zero =>
    intro i f a hi hf
    obtain ⟨f, rfl⟩ : ∃ g, f = g + 1 := ⟨f - 1, by omega⟩
    obtain rfl : i = 12 := by omega
    rw [R_X3_sum_L4, if_pos (by decide)]
    rfl
  | succ d ih =>
    intro i f a hi hf
    obtain ⟨f, rfl⟩ : ∃ g, f = g + 1 := ⟨f - 1, by omega⟩
    have hi2 : i < 12 := by omega
    have go : ∀ a', a' = a + vs3 A i → R_X3_sum_L4 m (3 : Int32) f (nI a') (nI (i + 1)) = some (nI (fo (fun a q => a + vs3 A q) d (i + 1) (a + vs3 A i))) := fun a' e => by rw [ih (i + 1) f a' (by omega) (by omega), e]
    rw [R_X3_sum_L4, if_neg (nI_nge hi2), nI_1 i, fo]
    have h5 := h.1
    rw [t_isFree h hm hi2, Option.bind_some]
    by_cases ho : p_o A i = 0
    · rw [if_neg (b1_t (by simp [fr, ho])), if_pos (by decide), show (0 : Int32) = nI 0 from rfl, nI_add]
      exact go _ (by unfold vs3; rw [if_pos ho])
    · have ho1 := ow_lt h hi2 ho
      rw [if_pos (b1_f (by simp [fr, ho])), t_many h hm hi2, Option.bind_some, if_pos (nI_inb hi2), nI_cl hi2, (hm.2.2.2 i hi2).1, ow_I ho, if_pos (inb_nI (by omega) (by omega)), cl (by omega), (hm.2.1 _ ho1).1]
      rw [if_neg (fun q => q rfl), Option.bind_some, nI_add]
      exact go _ (by unfold vs3; rw [if_neg ho])
def vs4 (A : AS) (q : Nat) : Nat := if p_o A q = 0 then 0 else pc (p_b A q) * p_zs A q
theorem t_sum4L (h : WF n A) (hm : MR m A) : ∀ (d i f a : Nat), i + d = 12 → d < f → R_X3_sum_L4 m (4 : Int32) f (nI a) (nI i) = some (nI (fo (fun a q => a + vs4 A q) d i a)) := by
  intro d
  induction d with
  | zero =>
    intro i f a hi hf
    obtain ⟨f, rfl⟩ : ∃ g, f = g + 1 := ⟨f - 1, by omega⟩
    obtain rfl : i = 12 := by omega
    rw [R_X3_sum_L4, if_pos (by decide)]
    rfl
  | succ d ih =>
    intro i f a hi hf
    obtain ⟨f, rfl⟩ : ∃ g, f = g + 1 := ⟨f - 1, by omega⟩
    have hi2 : i < 12 := by omega
    have go : ∀ a', a' = a + vs4 A i → R_X3_sum_L4 m (4 : Int32) f (nI a') (nI (i + 1)) = some (nI (fo (fun a q => a + vs4 A q) d (i + 1) (a + vs4 A i))) := fun a' e => by rw [ih (i + 1) f a' (by omega) (by omega), e]
    rw [R_X3_sum_L4, if_neg (nI_nge hi2), nI_1 i, fo]
    have h5 := h.1
    rw [t_isFree h hm hi2, Option.bind_some]
    by_cases ho : p_o A i = 0
    · rw [if_neg (b1_t (by simp [fr, ho])), if_pos (by decide), show (0 : Int32) = nI 0 from rfl, nI_add]
      exact go _ (by unfold vs4; rw [if_pos ho])
    · have ho1 := ow_lt h hi2 ho
      rw [if_pos (b1_f (by simp [fr, ho])), t_many h hm hi2, Option.bind_some, if_pos (nI_inb hi2), nI_cl hi2, (hm.2.2.2 i hi2).1, ow_I ho, if_pos (inb_nI (by omega) (by omega)), cl (by omega), (hm.2.1 _ ho1).1]
      rw [if_pos (by decide), if_neg (fun q => q rfl), pk_mul, nI_add, ← zs_I ho]
      exact go _ (by unfold vs4; rw [if_neg ho])
def vs5 (A : AS) (q : Nat) : Nat := if p_o A q = 0 then 0 else 24 - pc (p_b A q) * p_zs A q
theorem t_sum5L (h : WF n A) (hm : MR m A) : ∀ (d i f a : Nat), i + d = 12 → d < f → R_X3_sum_L4 m (5 : Int32) f (nI a) (nI i) = some (nI (fo (fun a q => a + vs5 A q) d i a)) := by
  intro d
  induction d with
  | zero =>
    intro i f a hi hf
    obtain ⟨f, rfl⟩ : ∃ g, f = g + 1 := ⟨f - 1, by omega⟩
    obtain rfl : i = 12 := by omega
    rw [R_X3_sum_L4, if_pos (by decide)]
    rfl
  | succ d ih =>
    intro i f a hi hf
    obtain ⟨f, rfl⟩ : ∃ g, f = g + 1 := ⟨f - 1, by omega⟩
    have hi2 : i < 12 := by omega
    have go : ∀ a', a' = a + vs5 A i → R_X3_sum_L4 m (5 : Int32) f (nI a') (nI (i + 1)) = some (nI (fo (fun a q => a + vs5 A q) d (i + 1) (a + vs5 A i))) := fun a' e => by rw [ih (i + 1) f a' (by omega) (by omega), e]
    rw [R_X3_sum_L4, if_neg (nI_nge hi2), nI_1 i, fo]
    have h5 := h.1
    rw [t_isFree h hm hi2, Option.bind_some]
    by_cases ho : p_o A i = 0
    · rw [if_neg (b1_t (by simp [fr, ho])), if_pos (by decide), show (0 : Int32) = nI 0 from rfl, nI_add]
      exact go _ (by unfold vs5; rw [if_pos ho])
    · have ho1 := ow_lt h hi2 ho
      rw [if_pos (b1_f (by simp [fr, ho])), t_many h hm hi2, Option.bind_some, if_pos (nI_inb hi2), nI_cl hi2, (hm.2.2.2 i hi2).1, ow_I ho, if_pos (inb_nI (by omega) (by omega)), cl (by omega), (hm.2.1 _ ho1).1]
      rw [if_pos (by decide), if_pos (by decide), if_neg (fun q => q rfl), pk_mul, show (24 : Int32) = nI 24 from rfl, ← zs_I ho, pk_sub (pc_zs h hi2), nI_add]
      exact go _ (by unfold vs5; rw [if_neg ho])
def vs6 (A : AS) (q : Nat) : Nat := if p_o A q = 0 then 0 else 24 % p_zs A q
theorem t_sum6L (h : WF n A) (hm : MR m A) : ∀ (d i f a : Nat), i + d = 12 → d < f → R_X3_sum_L4 m (6 : Int32) f (nI a) (nI i) = some (nI (fo (fun a q => a + vs6 A q) d i a)) := by
  intro d
  induction d with
  | zero =>
    intro i f a hi hf
    obtain ⟨f, rfl⟩ : ∃ g, f = g + 1 := ⟨f - 1, by omega⟩
    obtain rfl : i = 12 := by omega
    rw [R_X3_sum_L4, if_pos (by decide)]
    rfl
  | succ d ih =>
    intro i f a hi hf
    obtain ⟨f, rfl⟩ : ∃ g, f = g + 1 := ⟨f - 1, by omega⟩
    have hi2 : i < 12 := by omega
    have go : ∀ a', a' = a + vs6 A i → R_X3_sum_L4 m (6 : Int32) f (nI a') (nI (i + 1)) = some (nI (fo (fun a q => a + vs6 A q) d (i + 1) (a + vs6 A i))) := fun a' e => by rw [ih (i + 1) f a' (by omega) (by omega), e]
    rw [R_X3_sum_L4, if_neg (nI_nge hi2), nI_1 i, fo]
    have h5 := h.1
    rw [t_isFree h hm hi2, Option.bind_some]
    by_cases ho : p_o A i = 0
    · rw [if_neg (b1_t (by simp [fr, ho])), if_pos (by decide), show (0 : Int32) = nI 0 from rfl, nI_add]
      exact go _ (by unfold vs6; rw [if_pos ho])
    · have ho1 := ow_lt h hi2 ho
      rw [if_pos (b1_f (by simp [fr, ho])), t_many h hm hi2, Option.bind_some, if_pos (nI_inb hi2), nI_cl hi2, (hm.2.2.2 i hi2).1, ow_I ho, if_pos (inb_nI (by omega) (by omega)), cl (by omega), (hm.2.1 _ ho1).1]
      rw [if_pos (by decide), if_pos (by decide), if_pos (by decide), if_neg (fun q => q rfl), if_pos (nI_inb hi2), t_rest h hm ho1, Option.bind_some, nI_add, ← zs_I ho]
      exact go _ (by unfold vs6; rw [if_neg ho])
theorem t_shelves0 (h : WF n A) (hm : MR m A) {j : Nat} (hj : j < p_n A) : R_X3_shelvesOf m (nI j) 0 = some (nI (nS A j)) := by
  unfold R_X3_shelvesOf
  have e := t_sh0L h hm hj 12 0 FU 0 rfl (by decide)
  rw [fo_sm0] at e
  exact e
theorem t_shelves1 (h : WF n A) (hm : MR m A) {j : Nat} (hj : j < p_n A) : R_X3_shelvesOf m (nI j) 1 = some (nI (nX A j 3)) := by
  unfold R_X3_shelvesOf
  have e := t_sh1L h hm hj 12 0 FU 0 rfl (by decide)
  rw [fo_sm0] at e
  exact e
theorem us_b (A : AS) (j q : Nat) : us A j q = (p_o A q == j + 1 && stN A q == 2) := by rw [Bool.eq_iff_iff, us_st]; simp
theorem em_b (A : AS) (j q : Nat) : em A j q = (p_o A q == j + 1 && stN A q == 1) := by rw [Bool.eq_iff_iff, em_st]; simp
theorem t_shelves2 (h : WF n A) (hm : MR m A) {j : Nat} (hj : j < p_n A) : R_X3_shelvesOf m (nI j) 2 = some (nI (nX A j 2)) := by
  unfold R_X3_shelvesOf
  have e := t_sh2L h hm hj 12 0 FU 0 rfl (by decide)
  rw [fo_sm0] at e
  rw [show nX A j 2 = sm (fun q => b1 (us A j q)) 12 from by unfold nX; simp only [us_b]]
  exact e
theorem t_shelves3 (h : WF n A) (hm : MR m A) {j : Nat} (hj : j < p_n A) : R_X3_shelvesOf m (nI j) 3 = some (nI (nX A j 1)) := by
  unfold R_X3_shelvesOf
  have e := t_sh3L h hm hj 12 0 FU 0 rfl (by decide)
  rw [fo_sm0] at e
  rw [show nX A j 1 = sm (fun q => b1 (em A j q)) 12 from by unfold nX; simp only [em_b]]
  exact e
theorem t_bowlsOf (h : WF n A) (hm : MR m A) {j : Nat} (hj : j < p_n A) : R_X3_bowlsOf m (nI j) = some (nI (nB A j)) := by
  unfold R_X3_bowlsOf
  have e := t_bwOfL h hm hj 12 0 FU 0 rfl (by decide)
  rw [fo_sm0] at e
  exact e
theorem t_sum2 (h : WF n A) (hm : MR m A) : R_X3_sum m 2 = some (nI (nF A)) := by
  unfold R_X3_sum
  have e := t_sum2L h hm 12 0 FU 0 rfl (by decide)
  rw [fo_sm0, sm_congr (g := fun q => b1 (fr A q)) (fun q _ => by by_cases ho : p_o A q = 0 <;> simp [vs2, fr, ho, b1])] at e
  exact e
theorem t_sum3 (h : WF n A) (hm : MR m A) : R_X3_sum m 3 = some (nI (nA A)) := by
  unfold R_X3_sum
  have e := t_sum3L h hm 12 0 FU 0 rfl (by decide)
  rw [fo_sm0, sm_congr (g := fun q => pc (p_b A q)) (fun q hq => by
    by_cases ho : p_o A q = 0
    · unfold vs3; rw [if_pos ho, (pc_b0 h hq).mpr (w_fr h hq ho).1]
    · unfold vs3; rw [if_neg ho])] at e
  exact e
theorem t_sum4 (h : WF n A) (hm : MR m A) : R_X3_sum m 4 = some (nI (nU A)) := by
  unfold R_X3_sum
  have e := t_sum4L h hm 12 0 FU 0 rfl (by decide)
  rw [fo_sm0, sm_congr (g := fun q => pc (p_b A q) * p_zs A q) (fun q hq => by
    by_cases ho : p_o A q = 0
    · unfold vs4 p_zs; rw [if_pos ho, if_pos ho, Nat.mul_zero]
    · unfold vs4; rw [if_neg ho])] at e
  exact e
theorem t_sum5 (h : WF n A) (hm : MR m A) : R_X3_sum m 5 = some (nI ((12 - nF A) * 24 - nU A)) := by
  unfold R_X3_sum
  have e := t_sum5L h hm 12 0 FU 0 rfl (by decide)
  rw [fo_sm0] at e
  have e2 : sm (vs5 A) 12 = (12 - nF A) * 24 - nU A := by
    have h1 : sm (fun q => vs5 A q + pc (p_b A q) * p_zs A q) 12 = sm (fun q => 24 * (1 - b1 (fr A q))) 12 := sm_congr (fun q hq => by
      have := pc_zs h hq
      by_cases ho : p_o A q = 0
      · simp [vs5, fr, ho, p_zs, b1]
      · simp [vs5, fr, ho, b1]; omega)
    rw [sm_add, sm_mul] at h1
    have h2 : sm (fun q => 1 - b1 (fr A q)) 12 + nF A = 12 := by
      unfold nF
      rw [← sm_add, sm_congr (g := fun _ => 1) (fun q _ => by have := b1_le (fr A q); omega), sm_const]
    have h3 : nU A = sm (fun q => pc (p_b A q) * p_zs A q) 12 := rfl
    omega
  rw [e2] at e
  exact e
theorem t_sum6 (h : WF n A) (hm : MR m A) : R_X3_sum m 6 = some (nI (nN A)) := by
  unfold R_X3_sum
  have e := t_sum6L h hm 12 0 FU 0 rfl (by decide)
  rw [fo_sm0, sm_congr (g := vN A) (fun q hq => by
    by_cases ho : p_o A q = 0
    · unfold vs6 vN; rw [if_pos ho, if_pos ho]
    · unfold vs6 vN
      rw [if_neg ho, if_neg ho, ps_I ho, zs_I ho]
      unfold p_pl
      have := Nat.div_add_mod 24 (p_z A (p_o A q - 1))
      rw [Nat.mul_comm] at this
      omega)] at e
  exact e
theorem nU_le (h : WF n A) : nU A ≤ (12 - nF A) * 24 := by
  have h1 : nU A ≤ sm (fun q => 24 * (1 - b1 (fr A q))) 12 := sm_le (fun q hq => by
    have := pc_zs h hq
    by_cases ho : p_o A q = 0
    · simp [fr, ho, p_zs, b1]
    · simp [fr, ho, b1]; omega)
  rw [sm_mul] at h1
  have h2 : sm (fun q => 1 - b1 (fr A q)) 12 + nF A = 12 := by
    unfold nF
    rw [← sm_add, sm_congr (g := fun _ => 1) (fun q _ => by have := b1_le (fr A q); omega), sm_const]
  omega

end LP
