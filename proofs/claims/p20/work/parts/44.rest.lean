/-! advise, mean, digest -/
def aF (A : AS) (a : Option Nat) (j : Nat) : Option Nat := match a with
  | none => some j
  | some b => if gn A b < gn A j then some j else some b
def gI (A : AS) (a : Option Nat) : Int32 := match a with
  | none => -1
  | some b => nI (gn A b)
def qM (d : Int64) (v : Int32) : Int64 := d * 31 + v.toInt64
def qS (A : AS) (d : Int64) (i : Nat) : Int64 := fo (fun d q => qM d (nI (b1 ((p_b A i).testBit q)))) (p_ps A i) 0 (fo (fun d x => qM d (aSh A i x)) 6 0 d)
def qK (A : AS) (d : Int64) (j : Nat) : Int64 := qM (fo (fun d x => qM d (aAb A j x)) 9 0 d) (aNx A j)
def qD (A : AS) : Int64 := fo (qK A) (p_n A) 0 (fo (qS A) 12 0 (fo (fun d x => qM d (aCo A x)) 10 0 1733))
section LP
variable {n : Nat} {A : AS} {k : KSt}
theorem gn_12 (A : AS) (j : Nat) : gn A j ≤ 12 := by
  have : nX A j 2 ≤ 12 := by
    have := sm_le (f := fun q => b1 (p_o A q == j + 1 && stN A q == 2)) (g := fun _ => 1) (n := 12) (fun q _ => b1_le _)
    rw [sm_const] at this
    exact this
  exact Nat.le_trans (Nat.sub_le _ _) this
theorem s_advL (h : WF n A) (hk : KR k A) : ∀ (d i f : Nat) (a : Option Nat), i + d = 5 → d < f → R_X2_advise_L16 k f (oI a) (gI A a) (nI i) = some (oI (fo (aF A) (p_n A - i) i a)) := by
  have h5 := h.1
  intro d
  induction d with
  | zero =>
    intro i f a hi hf
    obtain ⟨f, rfl⟩ : ∃ g, f = g + 1 := ⟨f - 1, by omega⟩
    obtain rfl : i = 5 := by omega
    rw [R_X2_advise_L16, if_pos (by decide), show p_n A - 5 = 0 by omega]
    rfl
  | succ d ih =>
    intro i f a hi hf
    obtain ⟨f, rfl⟩ : ∃ g, f = g + 1 := ⟨f - 1, by omega⟩
    have hi5 : i < 5 := by omega
    rw [R_X2_advise_L16, if_neg (show ¬ (5 : Int32) ≤ nI i from nI_ge (b := 5) hi5 (by omega)), if_pos (inb_nI hi5 (by omega)), cl (by omega), nI_1]
    by_cases hj : i < p_n A
    · rw [show knd k i = some i from by unfold knd; rw [if_pos (by rw [hk.kn]; exact hj)]]
      show (if i < kN k then _ else none) = _
      have g1 := gn_12 A i
      rw [if_pos (by rw [hk.kn]; exact hj), s_gains h hk hj, Option.bind_some, Option.bind_some, show p_n A - i = (p_n A - (i + 1)) + 1 by omega, fo]
      cases a with
      | none =>
        rw [if_neg (show ¬ nI (gn A i) ≤ gI A none from le_of_lt (by
          have := nI_pos' (n := gn A i) (by omega)
          rw [Int32.le_iff_toInt_le] at this
          rw [Int32.lt_iff_toInt_lt]
          show (-1 : Int) < _
          have e0 : (0 : Int32).toInt = 0 := rfl
          omega))]
        exact ih (i + 1) f (some i) (by omega) (by omega)
      | some b =>
        have g2 := gn_12 A b
        by_cases hp : gn A b < gn A i
        · rw [if_neg (show ¬ nI (gn A i) ≤ gI A (some b) from nI_ge hp (by omega)), show aF A (some b) i = some i from if_pos hp]
          exact ih (i + 1) f (some i) (by omega) (by omega)
        · rw [if_pos (show nI (gn A i) ≤ gI A (some b) from nI_le (by omega) (by omega)), show aF A (some b) i = some b from if_neg hp]
          exact ih (i + 1) f (some b) (by omega) (by omega)
    · rw [show knd k i = none from by unfold knd; rw [if_neg (by rw [hk.kn]; exact hj)]]
      show R_X2_advise_L16 k f (oI a) (gI A a) (nI (i + 1)) = _
      rw [ih (i + 1) f a (by omega) (by omega), show p_n A - i = 0 by omega, show p_n A - (i + 1) = 0 by omega]
      rfl
theorem nA_le (A : AS) : nA A ≤ 144 := by
  have := sm_le (f := fun q => pc (p_b A q)) (g := fun _ => 12) (n := 12) (fun q _ => pc_12 _)
  rw [sm_const] at this
  exact this
theorem mean_ok : ∀ a, a < 145 → ∀ t, t < 12 → n64b (FP.ddiv (FP.i2d (nI a)) (FP.i2d (nI (t + 1)))) = true := by decide +kernel
/-! the checksum -/
theorem s_d33 (h : WF n A) (hk : KR k A) {i : Nat} (hi : i < 12) : ∀ (c q f : Nat) (d : Int64), q + c = p_ps A i → c < f → R_X2_mixedWithShelf_L33 k i f d (nI q) = some (fo (fun d q => qM d (nI (b1 ((p_b A i).testBit q)))) c q d) := by
  have h2 := w_ps h hi
  have e4 := (hk.2.2 i hi).2.2.1
  intro c
  induction c with
  | zero =>
    intro q f d hq hf
    obtain ⟨f, rfl⟩ : ∃ g, f = g + 1 := ⟨f - 1, by omega⟩
    rw [R_X2_mixedWithShelf_L33, e4, if_pos (nI_le (by omega) (by omega))]
    rfl
  | succ c ih =>
    intro q f d hq hf
    obtain ⟨f, rfl⟩ : ∃ g, f = g + 1 := ⟨f - 1, by omega⟩
    rw [R_X2_mixedWithShelf_L33, e4, if_neg (nI_ge (by omega) (by omega)), s_stands hk hi (by omega), Option.bind_some, nI_1, fo]
    by_cases hb : (p_b A i).testBit q = true
    · rw [if_neg (b1_t hb), hb]
      exact ih (q + 1) f _ (by omega) (by omega)
    · rw [if_pos (b1_f hb)]
      rw [Bool.not_eq_true] at hb
      rw [hb]
      exact ih (q + 1) f _ (by omega) (by omega)
theorem s_d5 (h : WF n A) (hk : KR k A) {i : Nat} (hi : i < 12) : ∀ (c x f : Nat) (d : Int64), x + c = 6 → c < f → R_X2_mixedWithShelf_L5 k i f d (nI x) = some (fo (fun d q => qM d (nI (b1 ((p_b A i).testBit q)))) (p_ps A i) 0 (fo (fun d x => qM d (aSh A i x)) c x d)) := by
  have h2 := w_ps h hi
  intro c
  induction c with
  | zero =>
    intro x f d hq hf
    obtain ⟨f, rfl⟩ : ∃ g, f = g + 1 := ⟨f - 1, by omega⟩
    obtain rfl : x = 6 := by omega
    rw [R_X2_mixedWithShelf_L5, if_pos (by decide)]
    exact s_d33 h hk hi (p_ps A i) 0 FU d (Nat.zero_add _) (by unfold FU; omega)
  | succ c ih =>
    intro x f d hq hf
    obtain ⟨f, rfl⟩ : ∃ g, f = g + 1 := ⟨f - 1, by omega⟩
    rw [R_X2_mixedWithShelf_L5, if_neg (show ¬ (6 : Int32) ≤ nI x from nI_ge (b := 6) (by omega) (by omega)), s_answer h hk hi (by omega), Option.bind_some, nI_1, fo]
    exact ih (x + 1) f _ (by omega) (by omega)
theorem s_dK (h : WF n A) (hk : KR k A) {j : Nat} (hj : j < p_n A) : ∀ (c x f : Nat) (d : Int64), x + c = 9 → c < f → R_X2_mixedWithKind_L6 k j f d (nI x) = some (qM (fo (fun d x => qM d (aAb A j x)) c x d) (aNx A j)) := by
  intro c
  induction c with
  | zero =>
    intro x f d hq hf
    obtain ⟨f, rfl⟩ : ∃ g, f = g + 1 := ⟨f - 1, by omega⟩
    obtain rfl : x = 9 := by omega
    rw [R_X2_mixedWithKind_L6, if_pos (by decide), s_next h hk hj]
    rfl
  | succ c ih =>
    intro x f d hq hf
    obtain ⟨f, rfl⟩ : ∃ g, f = g + 1 := ⟨f - 1, by omega⟩
    rw [R_X2_mixedWithKind_L6, if_neg (show ¬ (9 : Int32) ≤ nI x from nI_ge (b := 9) (by omega) (by omega)), s_about h hk hj (by omega), Option.bind_some, nI_1, fo]
    exact ih (x + 1) f _ (by omega) (by omega)
theorem s_d79 (h : WF n A) (hk : KR k A) : ∀ (c i f : Nat) (d : Int64), i + c = 5 → c < f → R_X2_digest_L79 k f d (nI i) = some (fo (qK A) (p_n A - i) i d) := by
  have h5 := h.1
  intro c
  induction c with
  | zero =>
    intro i f d hi hf
    obtain ⟨f, rfl⟩ : ∃ g, f = g + 1 := ⟨f - 1, by omega⟩
    obtain rfl : i = 5 := by omega
    rw [R_X2_digest_L79, if_pos (by decide), show p_n A - 5 = 0 by omega]
    rfl
  | succ c ih =>
    intro i f d hi hf
    obtain ⟨f, rfl⟩ : ∃ g, f = g + 1 := ⟨f - 1, by omega⟩
    have hi5 : i < 5 := by omega
    rw [R_X2_digest_L79, if_neg (show ¬ (5 : Int32) ≤ nI i from nI_ge (b := 5) hi5 (by omega)), if_pos (inb_nI hi5 (by omega)), cl (by omega), nI_1]
    by_cases hj : i < p_n A
    · rw [show knd k i = some i from by unfold knd; rw [if_pos (by rw [hk.kn]; exact hj)]]
      show (if i < kN k then _ else none) = _
      rw [if_pos (by rw [hk.kn]; exact hj), show R_X2_mixedWithKind k d i = some (qK A d i) from s_dK h hk hj 9 0 FU d rfl (by decide), Option.bind_some, show p_n A - i = (p_n A - (i + 1)) + 1 by omega, fo]
      exact ih (i + 1) f _ (by omega) (by omega)
    · rw [show knd k i = none from by unfold knd; rw [if_neg (by rw [hk.kn]; exact hj)]]
      show R_X2_digest_L79 k f d (nI (i + 1)) = _
      rw [ih (i + 1) f d (by omega) (by omega), show p_n A - i = 0 by omega, show p_n A - (i + 1) = 0 by omega]
      rfl
theorem s_d41 (h : WF n A) (hk : KR k A) : ∀ (c i f : Nat) (d : Int64), i + c = 12 → c < f → R_X2_digest_L41 k f d (nI i) = some (fo (qK A) (p_n A) 0 (fo (qS A) c i d)) := by
  intro c
  induction c with
  | zero =>
    intro i f d hi hf
    obtain ⟨f, rfl⟩ : ∃ g, f = g + 1 := ⟨f - 1, by omega⟩
    obtain rfl : i = 12 := by omega
    rw [R_X2_digest_L41, if_pos (by decide)]
    exact s_d79 h hk 5 0 FU d rfl (by decide)
  | succ c ih =>
    intro i f d hi hf
    obtain ⟨f, rfl⟩ : ∃ g, f = g + 1 := ⟨f - 1, by omega⟩
    have hi2 : i < 12 := by omega
    rw [R_X2_digest_L41, if_neg (nI_nge hi2), if_pos (nI_inb hi2), nI_cl hi2, nI_1, fo, show R_X2_mixedWithShelf k d i = some (qS A d i) from s_d5 h hk hi2 6 0 FU d rfl (by decide), Option.bind_some]
    exact ih (i + 1) f _ (by omega) (by omega)
theorem s_d6 (h : WF n A) (hk : KR k A) : ∀ (c x f : Nat) (d : Int64), x + c = 10 → c < f → R_X2_digest_L6 k f d (nI x) = some (fo (qK A) (p_n A) 0 (fo (qS A) 12 0 (fo (fun d x => qM d (aCo A x)) c x d))) := by
  intro c
  induction c with
  | zero =>
    intro x f d hi hf
    obtain ⟨f, rfl⟩ : ∃ g, f = g + 1 := ⟨f - 1, by omega⟩
    obtain rfl : x = 10 := by omega
    rw [R_X2_digest_L6, if_pos (by decide)]
    exact s_d41 h hk 12 0 FU d rfl (by decide)
  | succ c ih =>
    intro x f d hi hf
    obtain ⟨f, rfl⟩ : ∃ g, f = g + 1 := ⟨f - 1, by omega⟩
    rw [R_X2_digest_L6, if_neg (show ¬ (10 : Int32) ≤ nI x from nI_ge (b := 10) (by omega) (by omega)), s_count h hk (by omega), show fo (fun d x => qM d (aCo A x)) (c + 1) x d = fo (fun d x => qM d (aCo A x)) c (x + 1) (qM d (aCo A x)) from rfl]
    show R_X2_digest_L6 k f (qM d (aCo A x)) (nI x + 1) = _
    rw [nI_1]
    exact ih (x + 1) f _ (by omega) (by omega)
end LP
