/-! advise, mean, digest -/
def aF (A : AS) (a : Option Nat) (j : Nat) : Option Nat := match a with
  | none => some j
  | some b => if gn A b < gn A j then some j else some b
def gI (A : AS) (a : Option Nat) : Int32 := match a with
  | none => -1
  | some b => nI (gn A b)
def qM (d : Int64) (v : Int32) : Int64 := d * 31 + v.toInt64
def qS (A : AS) (d : Int64) (i : Nat) : Int64 := fo (fun d q => qM d (nI (b1 ((p_b A i).testBit q)))) (p_ps A i) 0 (fo (fun d x => qM d (aSh A i x)) 6 0 d)
def qK (A : AS) (d : Int64) (j : Nat) : Int64 := qM (fo (fun d x => qM d (aAb A j x)) 9 0 d) (aNx A j)
def qD (A : AS) : Int64 := fo (qK A) (p_n A) 0 (fo (qS A) 12 0 (fo (fun d x => qM d (aCo A x)) 10 0 1733))
section LP
variable {n : Nat} {A : AS} {k : KSt} {m : MSt}
theorem gn_12 (A : AS) (j : Nat) : gn A j ≤ 12 := by
  have : nX A j 2 ≤ 12 := by
    have := sm_le (f := fun q => b1 (p_o A q == j + 1 && stN A q == 2)) (g := fun _ => 1) (n := 12) (fun q _ => b1_le _)
    rw [sm_const] at this
    exact this
  exact Nat.le_trans (Nat.sub_le _ _) this
theorem s_advL (h : WF n A) (hk : KR k A) : ∀ (d i f : Nat) (a : Option Nat), i + d = 5 → d < f → R_X2_advise_L16 k f (oI a) (gI A a) (nI i) = some (oI (fo (aF A) (p_n A - i) i a)) := by
  have h5 := h.1
  intro d
  induction d with
  | zero =>
    intro i f a hi hf
    obtain ⟨f, rfl⟩ : ∃ g, f = g + 1 := ⟨f - 1, by omega⟩
    obtain rfl : i = 5 := by omega
    rw [R_X2_advise_L16, if_pos (by decide), show p_n A - 5 = 0 by omega]
    rfl
  | succ d ih =>
    intro i f a hi hf
    obtain ⟨f, rfl⟩ : ∃ g, f = g + 1 := ⟨f - 1, by omega⟩
    have hi5 : i < 5 := by omega
    rw [R_X2_advise_L16, if_neg (show ¬ (5 : Int32) ≤ nI i from nI_ge (b := 5) hi5 (by omega)), if_pos (inb_nI hi5 (by omega)), cl (by omega), nI_1]
    by_cases hj : i < p_n A
    · rw [show knd k i = some i from by unfold knd; rw [if_pos (by rw [hk.kn]; exact hj)]]
      show (if i < kN k then _ else none) = _
      have g1 := gn_12 A i
      rw [if_pos (by rw [hk.kn]; exact hj), s_gains h hk hj, Option.bind_some, Option.bind_some, show p_n A - i = (p_n A - (i + 1)) + 1 by omega, fo]
      cases a with
      | none =>
        rw [if_neg (show ¬ nI (gn A i) ≤ gI A none from le_of_lt (by
          have := nI_pos' (n := gn A i) (by omega)
          rw [Int32.le_iff_toInt_le] at this
          rw [Int32.lt_iff_toInt_lt]
          show (-1 : Int) < _
          have e0 : (0 : Int32).toInt = 0 := rfl
          omega))]
        exact ih (i + 1) f (some i) (by omega) (by omega)
      | some b =>
        have g2 := gn_12 A b
        by_cases hp : gn A b < gn A i
        · rw [if_neg (show ¬ nI (gn A i) ≤ gI A (some b) from nI_ge hp (by omega)), show aF A (some b) i = some i from if_pos hp]
          exact ih (i + 1) f (some i) (by omega) (by omega)
        · rw [if_pos (show nI (gn A i) ≤ gI A (some b) from nI_le (by omega) (by omega)), show aF A (some b) i = some b from if_neg hp]
          exact ih (i + 1) f (some b) (by omega) (by omega)
    · rw [show knd k i = none from by unfold knd; rw [if_neg (by rw [hk.kn]; exact hj)]]
      show R_X2_advise_L16 k f (oI a) (gI A a) (nI (i + 1)) = _
      rw [ih (i + 1) f a (by omega) (by omega), show p_n A - i = 0 by omega, show p_n A - (i + 1) = 0 by omega]
      rfl
theorem t_advL (h : WF n A) : ∀ (d i f : Nat) (a : Option Nat) (m : MSt), i + d = p_n A → d < f → MR m A → mF m 0 = 0 → (∀ b, a = some b → b < p_n A) → ∃ m', R_X3_advise_L9 f m (oI a) (nI i) = some (oI (fo (aF A) d i a), m') ∧ MR m' A ∧ mF m' 0 = 0 := by
  have h5 := h.1
  intro d
  induction d with
  | zero =>
    intro i f a m hi hf hm h0 ha
    obtain ⟨f, rfl⟩ : ∃ g, f = g + 1 := ⟨f - 1, by omega⟩
    refine ⟨m, ?_, hm, h0⟩
    rw [R_X3_advise_L9, hm.1.1, if_pos (nI_le (by omega) (by omega))]
    rfl
  | succ d ih =>
    intro i f a m hi hf hm h0 ha
    obtain ⟨f, rfl⟩ : ∃ g, f = g + 1 := ⟨f - 1, by omega⟩
    have hj : i < p_n A := by omega
    rw [R_X3_advise_L9, hm.1.1, if_neg (nI_ge hj (by omega)), nI_1, fo]
    cases a with
    | none =>
      rw [if_pos (show oI none = -1 from rfl)]
      exact ih (i + 1) f (some i) m (by omega) (by omega) hm h0 (fun b hb => by cases hb; exact hj)
    | some b =>
      have hb := ha b rfl
      obtain ⟨m1, e1, e2, e3⟩ := t_gained h hm hj
      obtain ⟨m2, f1, f2, f3⟩ := t_gained h e2 hb
      have g1 := gn_12 A i
      have g2 := gn_12 A b
      rw [if_neg (show ¬ oI (some b) = -1 from nI_m1 (by omega)), e1, Option.bind_some, show oI (some b) = nI b from rfl]
      show ∃ m', ((R_X3_gained m1 (nI b)).bind fun v29 => if nI (gn A i) ≤ v29.1 then R_X3_advise_L9 f v29.2 (nI b) (nI (i + 1)) else R_X3_advise_L9 f v29.2 (nI i) (nI (i + 1))) = _ ∧ _
      rw [f1, Option.bind_some]
      have z0 : mF m2 0 = 0 := by rw [f3, e3, h0]
      by_cases hp : gn A b < gn A i
      · rw [if_neg (nI_ge hp (by omega)), show aF A (some b) i = some i from if_pos hp]
        exact ih (i + 1) f (some i) m2 (by omega) (by omega) f2 z0 (fun b hb => by cases hb; exact hj)
      · rw [if_pos (nI_le (by omega) (by omega)), show aF A (some b) i = some b from if_neg hp]
        exact ih (i + 1) f (some b) m2 (by omega) (by omega) f2 z0 ha
theorem y_advise (h : WF n A) (hk : KR k A) (hm : MR m A) : ∃ (v : Int32) (m' : MSt), R_X2_advise k = some v ∧ R_X3_advise m = some (v, m') ∧ Rel0 (n + 1) k m' := by
  have h5 := h.1
  obtain ⟨m', e1, e2, e3⟩ := t_advL h (p_n A) 0 FU none (mFs m 0 0) (Nat.zero_add _) (by unfold FU; omega) (hm.f0 0) rfl (fun b hb => by cases hb)
  exact ⟨_, m', s_advL h hk 5 0 FU none rfl (by decide), e1, A, h.up, hk, e2⟩
theorem nA_le (A : AS) : nA A ≤ 144 := by
  have := sm_le (f := fun q => pc (p_b A q)) (g := fun _ => 12) (n := 12) (fun q _ => pc_12 _)
  rw [sm_const] at this
  exact this
theorem mean_ok : ∀ a, a < 145 → ∀ t, t < 12 → n64b (FP.ddiv (FP.i2d (nI a)) (FP.i2d (nI (t + 1)))) = true := by decide +kernel
theorem y_mean (h : WF n A) (hk : KR k A) (hm : MR m A) : ∃ (v : UInt64) (m' : MSt), R_X2_mean k = some v ∧ R_X3_mean m = some (v, m') ∧ Rel0 (n + 1) k m' := by
  have hF := nF_le A
  have hA := nA_le A
  have hm0 := hm.f0 0
  have e12 : (12 : Int32) - nI (nF A) = nI (12 - nF A) := pk_sub (a := 12) hF
  by_cases h0 : 12 - nF A = 0
  · refine ⟨FP.dconst0, mFs m 0 0, ?_, ?_, A, h.up, hk, hm0⟩
    · unfold R_X2_mean
      rw [s_taken h hk, Option.bind_some, h0, if_neg (fun q => q rfl)]
    · unfold R_X3_mean
      rw [t_sum2 h hm0, Option.bind_some, e12, h0, if_neg (fun q => q rfl)]
  · have hn := mean_ok (nA A) (by omega) (12 - nF A - 1) (by omega)
    rw [show 12 - nF A - 1 + 1 = 12 - nF A by omega] at hn
    refine ⟨FP.ddiv (FP.i2d (nI (nA A))) (FP.i2d (nI (12 - nF A))), mFs m 0 0, ?_, ?_, A, h.up, hk, hm0⟩
    · unfold R_X2_mean
      rw [s_taken h hk, Option.bind_some, if_pos (nI_ne0 (by omega) (by omega)), s_all hk, Option.bind_some, if_pos hn]
    · unfold R_X3_mean
      rw [t_sum2 h hm0, Option.bind_some, e12, if_pos (nI_ne0 (by omega) (by omega)), t_sum3 h hm0, Option.bind_some, if_pos hn]
/-! the checksum -/
theorem s_d33 (h : WF n A) (hk : KR k A) {i : Nat} (hi : i < 12) : ∀ (c q f : Nat) (d : Int64), q + c = p_ps A i → c < f → R_X2_mixedWithShelf_L33 k i f d (nI q) = some (fo (fun d q => qM d (nI (b1 ((p_b A i).testBit q)))) c q d) := by
  have h2 := w_ps h hi
  have e4 := (hk.2.2 i hi).2.2.1
  intro c
  induction c with
  | zero =>
    intro q f d hq hf
    obtain ⟨f, rfl⟩ : ∃ g, f = g + 1 := ⟨f - 1, by omega⟩
    rw [R_X2_mixedWithShelf_L33, e4, if_pos (nI_le (by omega) (by omega))]
    rfl
  | succ c ih =>
    intro q f d hq hf
    obtain ⟨f, rfl⟩ : ∃ g, f = g + 1 := ⟨f - 1, by omega⟩
    rw [R_X2_mixedWithShelf_L33, e4, if_neg (nI_ge (by omega) (by omega)), s_stands hk hi (by omega), Option.bind_some, nI_1, fo]
    by_cases hb : (p_b A i).testBit q = true
    · rw [if_neg (b1_t hb), hb]
      exact ih (q + 1) f _ (by omega) (by omega)
    · rw [if_pos (b1_f hb)]
      rw [Bool.not_eq_true] at hb
      rw [hb]
      exact ih (q + 1) f _ (by omega) (by omega)
theorem s_d5 (h : WF n A) (hk : KR k A) {i : Nat} (hi : i < 12) : ∀ (c x f : Nat) (d : Int64), x + c = 6 → c < f → R_X2_mixedWithShelf_L5 k i f d (nI x) = some (fo (fun d q => qM d (nI (b1 ((p_b A i).testBit q)))) (p_ps A i) 0 (fo (fun d x => qM d (aSh A i x)) c x d)) := by
  have h2 := w_ps h hi
  intro c
  induction c with
  | zero =>
    intro x f d hq hf
    obtain ⟨f, rfl⟩ : ∃ g, f = g + 1 := ⟨f - 1, by omega⟩
    obtain rfl : x = 6 := by omega
    rw [R_X2_mixedWithShelf_L5, if_pos (by decide)]
    exact s_d33 h hk hi (p_ps A i) 0 FU d (Nat.zero_add _) (by unfold FU; omega)
  | succ c ih =>
    intro x f d hq hf
    obtain ⟨f, rfl⟩ : ∃ g, f = g + 1 := ⟨f - 1, by omega⟩
    rw [R_X2_mixedWithShelf_L5, if_neg (show ¬ (6 : Int32) ≤ nI x from nI_ge (b := 6) (by omega) (by omega)), s_answer h hk hi (by omega), Option.bind_some, nI_1, fo]
    exact ih (x + 1) f _ (by omega) (by omega)
theorem s_dK (h : WF n A) (hk : KR k A) {j : Nat} (hj : j < p_n A) : ∀ (c x f : Nat) (d : Int64), x + c = 9 → c < f → R_X2_mixedWithKind_L6 k j f d (nI x) = some (qM (fo (fun d x => qM d (aAb A j x)) c x d) (aNx A j)) := by
  intro c
  induction c with
  | zero =>
    intro x f d hq hf
    obtain ⟨f, rfl⟩ : ∃ g, f = g + 1 := ⟨f - 1, by omega⟩
    obtain rfl : x = 9 := by omega
    rw [R_X2_mixedWithKind_L6, if_pos (by decide), s_next h hk hj]
    rfl
  | succ c ih =>
    intro x f d hq hf
    obtain ⟨f, rfl⟩ : ∃ g, f = g + 1 := ⟨f - 1, by omega⟩
    rw [R_X2_mixedWithKind_L6, if_neg (show ¬ (9 : Int32) ≤ nI x from nI_ge (b := 9) (by omega) (by omega)), s_about h hk hj (by omega), Option.bind_some, nI_1, fo]
    exact ih (x + 1) f _ (by omega) (by omega)
theorem s_d79 (h : WF n A) (hk : KR k A) : ∀ (c i f : Nat) (d : Int64), i + c = 5 → c < f → R_X2_digest_L79 k f d (nI i) = some (fo (qK A) (p_n A - i) i d) := by
  have h5 := h.1
  intro c
  induction c with
  | zero =>
    intro i f d hi hf
    obtain ⟨f, rfl⟩ : ∃ g, f = g + 1 := ⟨f - 1, by omega⟩
    obtain rfl : i = 5 := by omega
    rw [R_X2_digest_L79, if_pos (by decide), show p_n A - 5 = 0 by omega]
    rfl
  | succ c ih =>
    intro i f d hi hf
    obtain ⟨f, rfl⟩ : ∃ g, f = g + 1 := ⟨f - 1, by omega⟩
    have hi5 : i < 5 := by omega
    rw [R_X2_digest_L79, if_neg (show ¬ (5 : Int32) ≤ nI i from nI_ge (b := 5) hi5 (by omega)), if_pos (inb_nI hi5 (by omega)), cl (by omega), nI_1]
    by_cases hj : i < p_n A
    · rw [show knd k i = some i from by unfold knd; rw [if_pos (by rw [hk.kn]; exact hj)]]
      show (if i < kN k then _ else none) = _
      rw [if_pos (by rw [hk.kn]; exact hj), show R_X2_mixedWithKind k d i = some (qK A d i) from s_dK h hk hj 9 0 FU d rfl (by decide), Option.bind_some, show p_n A - i = (p_n A - (i + 1)) + 1 by omega, fo]
      exact ih (i + 1) f _ (by omega) (by omega)
    · rw [show knd k i = none from by unfold knd; rw [if_neg (by rw [hk.kn]; exact hj)]]
      show R_X2_digest_L79 k f d (nI (i + 1)) = _
      rw [ih (i + 1) f d (by omega) (by omega), show p_n A - i = 0 by omega, show p_n A - (i + 1) = 0 by omega]
      rfl
theorem s_d41 (h : WF n A) (hk : KR k A) : ∀ (c i f : Nat) (d : Int64), i + c = 12 → c < f → R_X2_digest_L41 k f d (nI i) = some (fo (qK A) (p_n A) 0 (fo (qS A) c i d)) := by
  intro c
  induction c with
  | zero =>
    intro i f d hi hf
    obtain ⟨f, rfl⟩ : ∃ g, f = g + 1 := ⟨f - 1, by omega⟩
    obtain rfl : i = 12 := by omega
    rw [R_X2_digest_L41, if_pos (by decide)]
    exact s_d79 h hk 5 0 FU d rfl (by decide)
  | succ c ih =>
    intro i f d hi hf
    obtain ⟨f, rfl⟩ : ∃ g, f = g + 1 := ⟨f - 1, by omega⟩
    have hi2 : i < 12 := by omega
    rw [R_X2_digest_L41, if_neg (nI_nge hi2), if_pos (nI_inb hi2), nI_cl hi2, nI_1, fo, show R_X2_mixedWithShelf k d i = some (qS A d i) from s_d5 h hk hi2 6 0 FU d rfl (by decide), Option.bind_some]
    exact ih (i + 1) f _ (by omega) (by omega)
theorem s_d6 (h : WF n A) (hk : KR k A) : ∀ (c x f : Nat) (d : Int64), x + c = 10 → c < f → R_X2_digest_L6 k f d (nI x) = some (fo (qK A) (p_n A) 0 (fo (qS A) 12 0 (fo (fun d x => qM d (aCo A x)) c x d))) := by
  intro c
  induction c with
  | zero =>
    intro x f d hi hf
    obtain ⟨f, rfl⟩ : ∃ g, f = g + 1 := ⟨f - 1, by omega⟩
    obtain rfl : x = 10 := by omega
    rw [R_X2_digest_L6, if_pos (by decide)]
    exact s_d41 h hk 12 0 FU d rfl (by decide)
  | succ c ih =>
    intro x f d hi hf
    obtain ⟨f, rfl⟩ : ∃ g, f = g + 1 := ⟨f - 1, by omega⟩
    rw [R_X2_digest_L6, if_neg (show ¬ (10 : Int32) ≤ nI x from nI_ge (b := 10) (by omega) (by omega)), s_count h hk (by omega), show fo (fun d x => qM d (aCo A x)) (c + 1) x d = fo (fun d x => qM d (aCo A x)) c (x + 1) (qM d (aCo A x)) from rfl]
    show R_X2_digest_L6 k f (qM d (aCo A x)) (nI x + 1) = _
    rw [nI_1]
    exact ih (x + 1) f _ (by omega) (by omega)
theorem t_d132 (h : WF n A) (hm : MR m A) {j : Nat} (hj : j < p_n A) : ∀ (c x f : Nat) (d : Int64), x + c = 9 → c < f → R_X3_digest_L132 m (nI j) f d (nI x) = some (fo (fun d x => qM d (aAb A j x)) c x d, nI 9) := by
  intro c
  induction c with
  | zero =>
    intro x f d hq hf
    obtain ⟨f, rfl⟩ : ∃ g, f = g + 1 := ⟨f - 1, by omega⟩
    obtain rfl : x = 9 := by omega
    rw [R_X3_digest_L132, if_pos (by decide)]
    rfl
  | succ c ih =>
    intro x f d hq hf
    obtain ⟨f, rfl⟩ : ∃ g, f = g + 1 := ⟨f - 1, by omega⟩
    rw [R_X3_digest_L132, if_neg (show ¬ (8 : Int32) < nI x from nI_nlt (a := 8) (by omega) (by omega)), t_about h (hm.f0 0) hj (by omega), Option.bind_some, nI_1, fo]
    exact ih (x + 1) f _ (by omega) (by omega)
theorem t_d121 (h : WF n A) (hm : MR m A) (hn : n ≤ 512) : ∀ (c i f : Nat) (d : Int64), i + c = p_n A → c < f → R_X3_digest_L121 m f d (nI i) = some (fo (qK A) c i d, mFs m 0 0) := by
  have h5 := h.1
  intro c
  induction c with
  | zero =>
    intro i f d hi hf
    obtain ⟨f, rfl⟩ : ∃ g, f = g + 1 := ⟨f - 1, by omega⟩
    rw [R_X3_digest_L121, show mF (mFs m 0 0) 5 = nI (p_n A) from hm.1.1, if_pos (nI_le (by omega) (by omega))]
    rfl
  | succ c ih =>
    intro i f d hi hf
    obtain ⟨f, rfl⟩ : ∃ g, f = g + 1 := ⟨f - 1, by omega⟩
    have hj : i < p_n A := by omega
    rw [R_X3_digest_L121, show mF (mFs m 0 0) 5 = nI (p_n A) from hm.1.1, if_neg (nI_ge hj (by omega)), show (0 : Int32) = nI 0 from rfl, t_d132 h hm hj 9 0 FU d rfl (by decide), Option.bind_some, show (nI 0 : Int32) = 0 from rfl, t_next h (hm.f0 0) hn hj, Option.bind_some, nI_1, fo]
    exact ih (i + 1) f _ (by omega) (by omega)
theorem t_d47 (h : WF n A) (hm : MR m A) {i : Nat} (hi : i < 12) : ∀ (c x f : Nat) (d : Int64), x + c = 6 → c < f → R_X3_digest_L47 m (nI i) f d (nI x) = some (fo (fun d x => qM d (aSh A i x)) c x d, nI 6) := by
  intro c
  induction c with
  | zero =>
    intro x f d hq hf
    obtain ⟨f, rfl⟩ : ∃ g, f = g + 1 := ⟨f - 1, by omega⟩
    obtain rfl : x = 6 := by omega
    rw [R_X3_digest_L47, if_pos (by decide)]
    rfl
  | succ c ih =>
    intro x f d hq hf
    obtain ⟨f, rfl⟩ : ∃ g, f = g + 1 := ⟨f - 1, by omega⟩
    rw [R_X3_digest_L47, if_neg (show ¬ (5 : Int32) < nI x from nI_nlt (a := 5) (by omega) (by omega)), t_told h (hm.f0 0) hi (by omega), Option.bind_some, nI_1, fo]
    exact ih (x + 1) f _ (by omega) (by omega)
theorem t_d77 (h : WF n A) (hm : MR m A) {i : Nat} (hi : i < 12) : ∀ (c q f : Nat) (d : Int64), q + c = p_ps A i → c < f → R_X3_digest_L77 m (nI i) f d (nI q) = some (fo (fun d q => qM d (nI (b1 ((p_b A i).testBit q)))) c q d, nI (p_ps A i)) := by
  have h2 := w_ps h hi
  have e3 : R_X3_shelfTold (mFs m 0 0) (nI i) 3 = some (nI (p_ps A i)) := t_told h (hm.f0 0) hi (x := 3) (by omega)
  intro c
  induction c with
  | zero =>
    intro q f d hq hf
    obtain ⟨f, rfl⟩ : ∃ g, f = g + 1 := ⟨f - 1, by omega⟩
    rw [R_X3_digest_L77, e3, Option.bind_some, if_pos (nI_le (by omega) (by omega)), show q = p_ps A i by omega]
    rfl
  | succ c ih =>
    intro q f d hq hf
    obtain ⟨f, rfl⟩ : ∃ g, f = g + 1 := ⟨f - 1, by omega⟩
    rw [R_X3_digest_L77, e3, Option.bind_some, if_neg (nI_ge (by omega) (by omega)), if_pos (nI_inb hi), nI_cl hi, show mA (mFs m 0 0) 4 i = nI (p_b A i) from (hm.2.2.2 i hi).2.2.1, bit_at _ (w_b4 h hi) q (by omega), nI_1, fo]
    exact ih (q + 1) f _ (by omega) (by omega)
theorem t_d38 (h : WF n A) (hm : MR m A) (hn : n ≤ 512) : ∀ (c i f : Nat) (d : Int64), i + c = 12 → c < f → R_X3_digest_L38 m f d (nI i) = some (fo (qK A) (p_n A) 0 (fo (qS A) c i d), mFs m 0 0) := by
  have h5 := h.1
  intro c
  induction c with
  | zero =>
    intro i f d hi hf
    obtain ⟨f, rfl⟩ : ∃ g, f = g + 1 := ⟨f - 1, by omega⟩
    obtain rfl : i = 12 := by omega
    rw [R_X3_digest_L38, if_pos (by decide)]
    exact t_d121 h hm hn (p_n A) 0 FU d (Nat.zero_add _) (by unfold FU; omega)
  | succ c ih =>
    intro i f d hi hf
    obtain ⟨f, rfl⟩ : ∃ g, f = g + 1 := ⟨f - 1, by omega⟩
    have hi2 : i < 12 := by omega
    have h2 := w_ps h hi2
    rw [R_X3_digest_L38, if_neg (nI_nge hi2), show R_X3_digest_L47 m (nI i) FU d 0 = _ from t_d47 h hm hi2 6 0 FU d rfl (by decide), Option.bind_some, nI_1, fo]
    show ((R_X3_digest_L77 m (nI i) FU (fo (fun d x => qM d (aSh A i x)) 6 0 d) 0).bind fun v77 => R_X3_digest_L38 m f v77.1 (nI (i + 1))) = _
    rw [show R_X3_digest_L77 m (nI i) FU (fo (fun d x => qM d (aSh A i x)) 6 0 d) 0 = _ from t_d77 h hm hi2 (p_ps A i) 0 FU _ (Nat.zero_add _) (by unfold FU; omega), Option.bind_some]
    exact ih (i + 1) f _ (by omega) (by omega)
theorem t_d11 (h : WF n A) (hm : MR m A) (hn : n ≤ 512) : ∀ (c x f : Nat) (d : Int64), x + c = 10 → c < f → R_X3_digest_L11 m f d (nI x) = some (fo (qK A) (p_n A) 0 (fo (qS A) 12 0 (fo (fun d x => qM d (aCo A x)) c x d)), mFs m 0 0) := by
  intro c
  induction c with
  | zero =>
    intro x f d hi hf
    obtain ⟨f, rfl⟩ : ∃ g, f = g + 1 := ⟨f - 1, by omega⟩
    obtain rfl : x = 10 := by omega
    rw [R_X3_digest_L11, if_pos (by decide)]
    exact t_d38 h hm hn 12 0 FU d rfl (by decide)
  | succ c ih =>
    intro x f d hi hf
    obtain ⟨f, rfl⟩ : ∃ g, f = g + 1 := ⟨f - 1, by omega⟩
    rw [R_X3_digest_L11, if_neg (show ¬ (9 : Int32) < nI x from nI_nlt (a := 9) (by omega) (by omega)), t_count h (hm.f0 0) (by omega), Option.bind_some, nI_1, show fo (fun d x => qM d (aCo A x)) (c + 1) x d = fo (fun d x => qM d (aCo A x)) c (x + 1) (qM d (aCo A x)) from rfl]
    exact ih (x + 1) f _ (by omega) (by omega)
theorem y_digest (hn : n < 512) (h : WF n A) (hk : KR k A) (hm : MR m A) : ∃ (v : Int64) (m' : MSt), R_X2_digest k = some v ∧ R_X3_digest m = some (v, m') ∧ Rel0 (n + 1) k m' :=
  ⟨qD A, mFs m 0 0, s_d6 h hk 10 0 FU 1733 rfl (by decide), t_d11 h hm (by omega) 10 0 FU 1733 rfl (by decide), A, h.up, hk, hm.f0 0⟩
end LP
theorem sync_ok : Sync Rel0 := by
  intro n k m hn hR
  obtain ⟨A, h, hk, hm⟩ := hR
  exact ⟨y_kind h hk hm, y_setWay h hk hm, y_put hn h hk hm, y_take h hk hm, y_reap h hk hm, y_pack h hk hm, y_shelf h hk hm, y_about h hk hm, y_place h hk hm, y_count h hk hm, y_next hn h hk hm, y_fits h hk hm, y_would h hk hm, y_gains h hk hm, y_advise h hk hm, y_mean h hk hm, y_digest hn h hk hm⟩
