/-! gains -/
def vU (A : AS) (j q : Nat) : Nat := if us A j q = true then pc (p_b A q) else 0
def nBu (A : AS) (j : Nat) : Nat := sm (vU A j) 12
def gn (A : AS) (j : Nat) : Nat := nX A j 2 - (nBu A j + p_pl A j - 1) / p_pl A j
section LP
variable {n : Nat} {A : AS} {k : KSt}
theorem s_for (h : WF n A) (hk : KR k A) {j : Nat} (hj : j < p_n A) (b : Nat) (hb : b < 100000) : R_X0_shelvesFor k j (nI b) = some (nI ((b + p_pl A j - 1) / p_pl A j)) := by
  have hp := w_pl h hj
  unfold R_X0_shelvesFor
  rw [(hk.2.1 j hj).2.1, if_pos (show (1 : Int32) ≤ nI (p_pl A j) from nI_le (a := 1) (by omega) (by omega)), if_pos (nI_ne0 (by omega) (by omega)), nI_add, show (1 : Int32) = nI 1 from rfl, pk_sub (by omega), pk_div (by omega) (by omega) (by omega)]
theorem s_gainL (h : WF n A) (hk : KR k A) {j : Nat} (hj : j < p_n A) : ∀ (d i f b u : Nat), i + d = 12 → d < f → b + 12 * d < 90000 → R_X2_gainsOf_L18 k j f (nI b) (nI u) (nI i) = some (nI (fo (fun a q => a + b1 (us A j q)) d i u) - nI ((fo (fun a q => a + vU A j q) d i b + p_pl A j - 1) / p_pl A j)) := by
  intro d
  induction d with
  | zero =>
    intro i f b u hi hf hb
    obtain ⟨f, rfl⟩ : ∃ g, f = g + 1 := ⟨f - 1, by omega⟩
    obtain rfl : i = 12 := by omega
    rw [R_X2_gainsOf_L18, if_pos (by decide), s_for h hk hj b (by omega)]
    rfl
  | succ d ih =>
    intro i f b u hi hf hb
    obtain ⟨f, rfl⟩ : ∃ g, f = g + 1 := ⟨f - 1, by omega⟩
    have hi2 : i < 12 := by omega
    have p12 := pc_12 (p_b A i)
    rw [R_X2_gainsOf_L18, if_neg (nI_nge hi2), if_pos (nI_inb hi2), nI_1 i, fo, fo, nI_cl hi2, s_isOf h hk hi2 hj, Option.bind_some]
    have skip : us A j i = false → R_X2_gainsOf_L18 k j f (nI b) (nI u) (nI (i + 1)) = some (nI (fo (fun a q => a + b1 (us A j q)) d (i + 1) (u + b1 (us A j i))) - nI ((fo (fun a q => a + vU A j q) d (i + 1) (b + vU A j i) + p_pl A j - 1) / p_pl A j)) := fun e => by
      rw [ih (i + 1) f b u (by omega) (by omega) (by omega), e, show vU A j i = 0 from if_neg (by rw [e]; decide)]
      rfl
    by_cases ho : ofK A j i = true
    · rw [if_neg (b1_t ho), s_state h hk hi2, Option.bind_some]
      by_cases hs : stN A i = 2
      · have hu : us A j i = true := us_st.mpr ⟨ofK_t.mp ho, hs⟩
        rw [if_neg (show ¬ ¬ nI (stN A i) = 2 from fun q => q (by rw [hs]; rfl)), (hk.2.2 i hi2).2.2.2.2.1, nI_add, nI_1 u, ih (i + 1) f (b + pc (p_b A i)) (u + 1) (by omega) (by omega) (by omega), hu, show vU A j i = pc (p_b A i) from if_pos hu]
        rfl
      · rw [if_pos (show ¬ nI (stN A i) = 2 from fun q => hs ((st_I (x := 2) (by omega)).mp q))]
        exact skip (by rw [← Bool.not_eq_true]; exact fun q => hs (us_st.mp q).2)
    · rw [if_pos (b1_f ho)]
      exact skip (by rw [← Bool.not_eq_true]; exact fun q => ho (ofK_t.mpr (us_st.mp q).1))
theorem nX_us (A : AS) (j : Nat) : nX A j 2 = sm (fun q => b1 (us A j q)) 12 := by unfold nX; simp only [us_b]
theorem gn_S (h : WF n A) {j : Nat} (hj : j < p_n A) : nS A j = nX A j 1 + nX A j 2 + nX A j 3 ∧ nB A j = nBu A j + p_pl A j * nX A j 3 ∧ nX A j 2 ≤ nBu A j ∧ nBu A j + nX A j 2 ≤ p_pl A j * nX A j 2 := by
  have key : ∀ q, q < 12 → b1 (ofK A j q) = b1 (p_o A q == j + 1 && stN A q == 1) + b1 (p_o A q == j + 1 && stN A q == 2) + b1 (p_o A q == j + 1 && stN A q == 3) ∧ vB A j q = vU A j q + p_pl A j * b1 (p_o A q == j + 1 && stN A q == 3) ∧ b1 (p_o A q == j + 1 && stN A q == 2) ≤ vU A j q ∧ vU A j q + b1 (p_o A q == j + 1 && stN A q == 2) ≤ p_pl A j * b1 (p_o A q == j + 1 && stN A q == 2) := by
    intro q hq
    have h1 := w_pc h hq
    have hz := pc_b0 h hq
    have e0 : pc 0 = 0 := by decide +kernel
    by_cases ho : p_o A q = j + 1
    · have hps : p_ps A q = p_pl A j := by rw [ps_I (by omega), ho]; rfl
      by_cases hb : p_b A q = 0
      · simp [vB, vU, us, ofK, stN, ho, hb, b1, e0]
      · have hne : pc (p_b A q) ≠ 0 := fun e => hb (hz.mp e)
        by_cases hp : pc (p_b A q) < p_ps A q
        · simp [vB, vU, us, ofK, stN, ho, hb, hp, b1]; omega
        · simp [vB, vU, us, ofK, stN, ho, hb, hp, b1]; omega
    · simp [vB, vU, us, ofK, ho, b1]
  refine ⟨?_, ?_, ?_, ?_⟩
  · unfold nS nX
    rw [← sm_add, ← sm_add]
    exact sm_congr (fun q hq => (key q hq).1)
  · unfold nB nBu nX
    rw [← sm_mul, ← sm_add]
    exact sm_congr (fun q hq => (key q hq).2.1)
  · unfold nBu nX
    exact sm_le (fun q hq => (key q hq).2.2.1)
  · unfold nBu nX
    rw [← sm_mul, ← sm_add]
    exact sm_le (fun q hq => (key q hq).2.2.2)
theorem gn_c (h : WF n A) {j : Nat} (hj : j < p_n A) : (nBu A j + p_pl A j - 1) / p_pl A j ≤ nX A j 2 ∧ nS A j = nX A j 1 + (nX A j 2 - (nBu A j + p_pl A j - 1) / p_pl A j) + (nB A j + p_pl A j - 1) / p_pl A j := by
  obtain ⟨h1, h2, h3, h4⟩ := gn_S h hj
  have hp := w_pl h hj
  have c1 : (nBu A j + p_pl A j - 1) / p_pl A j ≤ nX A j 2 := by
    by_cases h0 : nX A j 2 = 0
    · have : nBu A j = 0 := by rw [h0] at h4; omega
      rw [this, h0, Nat.div_eq_of_lt (by omega)]
      exact Nat.le_refl _
    · refine Nat.le_of_lt_succ ((Nat.div_lt_iff_lt_mul (by omega)).mpr ?_)
      have : (nX A j 2).succ * p_pl A j = p_pl A j * nX A j 2 + p_pl A j := by rw [Nat.succ_mul, Nat.mul_comm]
      rw [this]
      omega
  have c2 : (nB A j + p_pl A j - 1) / p_pl A j = (nBu A j + p_pl A j - 1) / p_pl A j + nX A j 3 := by
    rw [h2, show nBu A j + p_pl A j * nX A j 3 + p_pl A j - 1 = (nBu A j + p_pl A j - 1) + p_pl A j * nX A j 3 by omega, Nat.add_mul_div_left _ _ (by omega)]
  exact ⟨c1, by omega⟩
theorem s_gains (h : WF n A) (hk : KR k A) {j : Nat} (hj : j < p_n A) : R_X2_gainsOf k j = some (nI (gn A j)) := by
  unfold R_X2_gainsOf
  rw [show (0 : Int32) = nI 0 from rfl, s_gainL h hk hj 12 0 FU 0 0 rfl (by decide) (by omega), fo_sm0, fo_sm0, ← nX_us]
  show some (nI (nX A j 2) - nI ((nBu A j + p_pl A j - 1) / p_pl A j)) = _
  rw [pk_sub (gn_c h hj).1]
  rfl
theorem sm_one (f n : Nat) : sm (fun q => b1 (q == f)) n ≤ 1 := by
  have : sm (fun q => b1 (q == f)) n = if f < n then 1 else 0 := by
    induction n with
    | zero => rfl
    | succ n ih =>
      rw [sm, ih]
      by_cases e : n = f
      · subst e; simp [b1]
      · have e2 : (n == f) = false := by simpa using e
        rw [e2]
        by_cases hlt : f < n
        · rw [if_pos hlt, if_pos (by omega)]; rfl
        · rw [if_neg hlt, if_neg (by omega)]; rfl
  rw [this]
  split <;> omega
/-- where no bowl moves any more, one shelf at most is in use -/
theorem end_one {j : Nat} (et : toQ A j = none) : nX A j 2 ≤ 1 := by
  rw [nX_us]
  have hone : ∀ x, x < 12 → us A j x = true → some x = frP A j := fun x hx hu => Decidable.byContradiction fun hn => (toQ_ok A j).2 x hx hu hn et
  cases ef : frP A j with
  | none =>
    rw [sm_congr (g := fun _ => 0) (fun q hq => by
      have : us A j q = false := by rw [← Bool.not_eq_true]; intro hu; have := hone q hq hu; rw [ef] at this; cases this
      rw [this]; rfl), sm_const]
    omega
  | some f =>
    refine Nat.le_trans (sm_le (g := fun q => b1 (q == f)) (fun q hq => ?_)) (sm_one f 12)
    by_cases hu : us A j q = true
    · have := hone q hq hu
      rw [ef] at this
      cases this
      rw [hu]; simp
    · rw [Bool.not_eq_true] at hu; rw [hu]; exact Nat.zero_le _
theorem same_S {B : AS} (hs : same A B) (j : Nat) : nS B j = nS A j ∧ p_n B = p_n A ∧ (∀ x, p_pl B x = p_pl A x) := by
  obtain ⟨h1, h2, h3, h4, h5⟩ := hs
  refine ⟨?_, congrArg (fun z => z.1) h1, fun x => ?_⟩
  · unfold nS ofK p_o; rw [h4]
  · unfold p_pl p_z; rw [h2]
theorem pk_gn (h : WF n A) {j : Nat} (hj : j < p_n A) : nX (pkA j 864 A) j 1 = nX A j 1 + gn A j := by
  obtain ⟨g1, g2, g3, g4, g5⟩ := pk_all 864 A j h (by omega)
  obtain ⟨e1, e2, e3⟩ := same_S g2 j
  have hj2 : j < p_n (pkA j 864 A) := by rw [e2]; exact hj
  have hp := w_pl h hj
  obtain ⟨a1, a2⟩ := gn_c h hj
  obtain ⟨b1', b2⟩ := gn_c g1 hj2
  obtain ⟨s1, s2, s3, s4⟩ := gn_S g1 hj2
  have hu := end_one g4
  rw [e3] at b1' b2 s4
  rw [e1, g3] at b2
  have hz : nX (pkA j 864 A) j 2 - (nBu (pkA j 864 A) j + p_pl A j - 1) / p_pl A j = 0 := by
    by_cases h0 : nX (pkA j 864 A) j 2 = 0
    · rw [h0]; exact Nat.zero_sub _
    · have h1 : nX (pkA j 864 A) j 2 = 1 := by omega
      have h2 : 1 ≤ (nBu (pkA j 864 A) j + p_pl A j - 1) / p_pl A j := (Nat.le_div_iff_mul_le (by omega)).mpr (by omega)
      omega
  unfold gn
  omega
end LP
