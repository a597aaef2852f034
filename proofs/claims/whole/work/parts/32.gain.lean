/-! gains -/
def vU (A : AS) (j q : Nat) : Nat := if us A j q = true then pc (p_b A q) else 0
def nBu (A : AS) (j : Nat) : Nat := sm (vU A j) 12
def gn (A : AS) (j : Nat) : Nat := nX A j 2 - (nBu A j + p_pl A j - 1) / p_pl A j
section LP
variable {n : Nat} {A : AS} {k : KSt} {m : MSt}
theorem s_for (h : WF n A) (hk : KR k A) {j : Nat} (hj : j < p_n A) (b : Nat) (hb : b < 100000) : R_X0_shelvesFor k j (nI b) = some (nI ((b + p_pl A j - 1) / p_pl A j)) := by
  have hp := w_pl h hj
  unfold R_X0_shelvesFor
  rw [(hk.2.1 j hj).2.1, if_pos (show (1 : Int32) ≤ nI (p_pl A j) from nI_le (a := 1) (by omega) (by omega)), if_pos (nI_ne0 (by omega) (by omega)), nI_add, show (1 : Int32) = nI 1 from rfl, pk_sub (by omega), pk_div (by omega) (by omega) (by omega)]
theorem s_gainL (h : WF n A) (hk : KR k A) {j : Nat} (hj : j < p_n A) : ∀ (d i f b u : Nat), i + d = 12 → d < f → b + 12 * d < 90000 → R_X2_gainsOf_L18 k j f (nI b) (nI u) (nI i) = some (nI (fo (fun a q => a + b1 (us A j q)) d i u) - nI ((fo (fun a q => a + vU A j q) d i b + p_pl A j - 1) / p_pl A j)) := by
  intro d
  induction d with
  | zero =>
    intro i f b u hi hf hb
    obtain ⟨f, rfl⟩ : ∃ g, f = g + 1 := ⟨f - 1, by omega⟩
    obtain rfl : i = 12 := by omega
    rw [R_X2_gainsOf_L18, if_pos (by decide), s_for h hk hj b (by omega)]
    rfl
  | succ d ih =>
    intro i f b u hi hf hb
    obtain ⟨f, rfl⟩ : ∃ g, f = g + 1 := ⟨f - 1, by omega⟩
    have hi2 : i < 12 := by omega
    have p12 := pc_12 (p_b A i)
    rw [R_X2_gainsOf_L18, if_neg (nI_nge hi2), if_pos (nI_inb hi2), nI_1 i, fo, fo, nI_cl hi2, s_isOf h hk hi2 hj, Option.bind_some]
    have skip : us A j i = false → R_X2_gainsOf_L18 k j f (nI b) (nI u) (nI (i + 1)) = some (nI (fo (fun a q => a + b1 (us A j q)) d (i + 1) (u + b1 (us A j i))) - nI ((fo (fun a q => a + vU A j q) d (i + 1) (b + vU A j i) + p_pl A j - 1) / p_pl A j)) := fun e => by
      rw [ih (i + 1) f b u (by omega) (by omega) (by omega), e, show vU A j i = 0 from if_neg (by rw [e]; decide)]
      rfl
    by_cases ho : ofK A j i = true
    · rw [if_neg (b1_t ho), s_state h hk hi2, Option.bind_some]
      by_cases hs : stN A i = 2
      · have hu : us A j i = true := us_st.mpr ⟨ofK_t.mp ho, hs⟩
        rw [if_neg (show ¬ ¬ nI (stN A i) = 2 from fun q => q (by rw [hs]; rfl)), (hk.2.2 i hi2).2.2.2.2.1, nI_add, nI_1 u, ih (i + 1) f (b + pc (p_b A i)) (u + 1) (by omega) (by omega) (by omega), hu, show vU A j i = pc (p_b A i) from if_pos hu]
        rfl
      · rw [if_pos (show ¬ nI (stN A i) = 2 from fun q => hs ((st_I (x := 2) (by omega)).mp q))]
        exact skip (by rw [← Bool.not_eq_true]; exact fun q => hs (us_st.mp q).2)
    · rw [if_pos (b1_f ho)]
      exact skip (by rw [← Bool.not_eq_true]; exact fun q => ho (ofK_t.mpr (us_st.mp q).1))
theorem nX_us (A : AS) (j : Nat) : nX A j 2 = sm (fun q => b1 (us A j q)) 12 := by unfold nX; simp only [us_b]
theorem gn_S (h : WF n A) {j : Nat} (hj : j < p_n A) : nS A j = nX A j 1 + nX A j 2 + nX A j 3 ∧ nB A j = nBu A j + p_pl A j * nX A j 3 ∧ nX A j 2 ≤ nBu A j ∧ nBu A j + nX A j 2 ≤ p_pl A j * nX A j 2 := by
  have key : ∀ q, q < 12 → b1 (ofK A j q) = b1 (p_o A q == j + 1 && stN A q == 1) + b1 (p_o A q == j + 1 && stN A q == 2) + b1 (p_o A q == j + 1 && stN A q == 3) ∧ vB A j q = vU A j q + p_pl A j * b1 (p_o A q == j + 1 && stN A q == 3) ∧ b1 (p_o A q == j + 1 && stN A q == 2) ≤ vU A j q ∧ vU A j q + b1 (p_o A q == j + 1 && stN A q == 2) ≤ p_pl A j * b1 (p_o A q == j + 1 && stN A q == 2) := by
    intro q hq
    have h1 := w_pc h hq
    have hz := pc_b0 h hq
    have e0 : pc 0 = 0 := by decide +kernel
    by_cases ho : p_o A q = j + 1
    · have hps : p_ps A q = p_pl A j := by rw [ps_I (by omega), ho]; rfl
      by_cases hb : p_b A q = 0
      · simp [vB, vU, us, ofK, stN, ho, hb, b1, e0]
      · have hne : pc (p_b A q) ≠ 0 := fun e => hb (hz.mp e)
        by_cases hp : pc (p_b A q) < p_ps A q
        · simp [vB, vU, us, ofK, stN, ho, hb, hp, b1]; omega
        · simp [vB, vU, us, ofK, stN, ho, hb, hp, b1]; omega
    · simp [vB, vU, us, ofK, ho, b1]
  refine ⟨?_, ?_, ?_, ?_⟩
  · unfold nS nX
    rw [← sm_add, ← sm_add]
    exact sm_congr (fun q hq => (key q hq).1)
  · unfold nB nBu nX
    rw [← sm_mul, ← sm_add]
    exact sm_congr (fun q hq => (key q hq).2.1)
  · unfold nBu nX
    exact sm_le (fun q hq => (key q hq).2.2.1)
  · unfold nBu nX
    rw [← sm_mul, ← sm_add]
    exact sm_le (fun q hq => (key q hq).2.2.2)
theorem gn_c (h : WF n A) {j : Nat} (hj : j < p_n A) : (nBu A j + p_pl A j - 1) / p_pl A j ≤ nX A j 2 ∧ nS A j = nX A j 1 + (nX A j 2 - (nBu A j + p_pl A j - 1) / p_pl A j) + (nB A j + p_pl A j - 1) / p_pl A j := by
  obtain ⟨h1, h2, h3, h4⟩ := gn_S h hj
  have hp := w_pl h hj
  have c1 : (nBu A j + p_pl A j - 1) / p_pl A j ≤ nX A j 2 := by
    by_cases h0 : nX A j 2 = 0
    · have : nBu A j = 0 := by rw [h0] at h4; omega
      rw [this, h0, Nat.div_eq_of_lt (by omega)]
      exact Nat.le_refl _
    · refine Nat.le_of_lt_succ ((Nat.div_lt_iff_lt_mul (by omega)).mpr ?_)
      have : (nX A j 2).succ * p_pl A j = p_pl A j * nX A j 2 + p_pl A j := by rw [Nat.succ_mul, Nat.mul_comm]
      rw [this]
      omega
  have c2 : (nB A j + p_pl A j - 1) / p_pl A j = (nBu A j + p_pl A j - 1) / p_pl A j + nX A j 3 := by
    rw [h2, show nBu A j + p_pl A j * nX A j 3 + p_pl A j - 1 = (nBu A j + p_pl A j - 1) + p_pl A j * nX A j 3 by omega, Nat.add_mul_div_left _ _ (by omega)]
  exact ⟨c1, by omega⟩
theorem s_gains (h : WF n A) (hk : KR k A) {j : Nat} (hj : j < p_n A) : R_X2_gainsOf k j = some (nI (gn A j)) := by
  unfold R_X2_gainsOf
  rw [show (0 : Int32) = nI 0 from rfl, s_gainL h hk hj 12 0 FU 0 0 rfl (by decide) (by omega), fo_sm0, fo_sm0, ← nX_us]
  show some (nI (nX A j 2) - nI ((nBu A j + p_pl A j - 1) / p_pl A j)) = _
  rw [pk_sub (gn_c h hj).1]
  rfl
theorem sm_one (f n : Nat) : sm (fun q => b1 (q == f)) n ≤ 1 := by
  have : sm (fun q => b1 (q == f)) n = if f < n then 1 else 0 := by
    induction n with
    | zero => rfl
    | succ n ih =>
      rw [sm, ih]
      by_cases e : n = f
      · subst e; simp [b1]
      · have e2 : (n == f) = false := by simpa using e
        rw [e2]
        by_cases hlt : f < n
        · rw [if_pos hlt, if_pos (by omega)]; rfl
        · rw [if_neg hlt, if_neg (by omega)]; rfl
  rw [this]
  split <;> omega
/-- where no bowl moves any more, one shelf at most is in use -/
theorem end_one {j : Nat} (et : toQ A j = none) : nX A j 2 ≤ 1 := by
  rw [nX_us]
  have hone : ∀ x, x < 12 → us A j x = true → some x = frP A j := fun x hx hu => Decidable.byContradiction fun hn => (toQ_ok A j).2 x hx hu hn et
  cases ef : frP A j with
  | none =>
    rw [sm_congr (g := fun _ => 0) (fun q hq => by
      have : us A j q = false := by rw [← Bool.not_eq_true]; intro hu; have := hone q hq hu; rw [ef] at this; cases this
      rw [this]; rfl), sm_const]
    omega
  | some f =>
    refine Nat.le_trans (sm_le (g := fun q => b1 (q == f)) (fun q hq => ?_)) (sm_one f 12)
    by_cases hu : us A j q = true
    · have := hone q hq hu
      rw [ef] at this
      cases this
      rw [hu]; simp
    · rw [Bool.not_eq_true] at hu; rw [hu]; exact Nat.zero_le _
theorem same_S {B : AS} (hs : same A B) (j : Nat) : nS B j = nS A j ∧ p_n B = p_n A ∧ (∀ x, p_pl B x = p_pl A x) := by
  obtain ⟨h1, h2, h3, h4, h5⟩ := hs
  refine ⟨?_, congrArg (fun z => z.1) h1, fun x => ?_⟩
  · unfold nS ofK p_o; rw [h4]
  · unfold p_pl p_z; rw [h2]
theorem pk_gn (h : WF n A) {j : Nat} (hj : j < p_n A) : nX (pkA j 864 A) j 1 = nX A j 1 + gn A j := by
  obtain ⟨g1, g2, g3, g4, g5⟩ := pk_all 864 A j h (by omega)
  obtain ⟨e1, e2, e3⟩ := same_S g2 j
  have hj2 : j < p_n (pkA j 864 A) := by rw [e2]; exact hj
  have hp := w_pl h hj
  obtain ⟨a1, a2⟩ := gn_c h hj
  obtain ⟨b1', b2⟩ := gn_c g1 hj2
  obtain ⟨s1, s2, s3, s4⟩ := gn_S g1 hj2
  have hu := end_one g4
  rw [e3] at b1' b2 s4
  rw [e1, g3] at b2
  have hz : nX (pkA j 864 A) j 2 - (nBu (pkA j 864 A) j + p_pl A j - 1) / p_pl A j = 0 := by
    by_cases h0 : nX (pkA j 864 A) j 2 = 0
    · rw [h0]; exact Nat.zero_sub _
    · have h1 : nX (pkA j 864 A) j 2 = 1 := by omega
      have h2 : 1 ≤ (nBu (pkA j 864 A) j + p_pl A j - 1) / p_pl A j := (Nat.le_div_iff_mul_le (by omega)).mpr (by omega)
      omega
  unfold gn
  omega
theorem MR.same6 (hm : MR m A) {m' : MSt} (hF : ∀ f, mF m' f = mF m f) (hA : ∀ x, x < 6 → mA m' x = mA m x) : MR m' A := by
  obtain ⟨⟨e1, e2, e3, e4, e5⟩, e6, e7, e8⟩ := hm
  refine ⟨⟨(hF 5).trans e1, (hF 1).trans e2, (hF 2).trans e3, (hF 3).trans e4, (hF 4).trans e5⟩, fun j hj => ?_, fun j h1 h2 => ?_, fun x hx => ?_⟩
  · rw [hA 0 (by omega), hA 1 (by omega)]; exact e6 j hj
  · rw [hA 1 (by omega)]; exact e7 j h1 h2
  · rw [hA 2 (by omega), hA 3 (by omega), hA 4 (by omega), hA 5 (by omega)]; exact e8 x hx
theorem t_gained (h : WF n A) (hm : MR m A) {j : Nat} (hj : j < p_n A) : ∃ m', R_X3_gained m (nI j) = some (nI (gn A j), m') ∧ MR m' A ∧ mF m' 0 = mF m 0 := by
  unfold R_X3_gained
  generalize hm1 : mAs m 6 (va_cpy (mA m 4) (mA m 6) 0 0 12) = m1
  have a1 : ∀ x, x ≠ 6 → mA m1 x = mA m x := fun x hx => by rw [← hm1, mA_As, if_neg hx]
  have a6 : mA m1 6 = va_cpy (mA m 4) (mA m 6) 0 0 12 := by rw [← hm1, mA_As, if_pos rfl]
  generalize hm2 : mAs m1 7 (va_cpy (mA m1 5) (mA m1 7) 0 0 12) = m2
  have b1 : ∀ x, x ≠ 7 → mA m2 x = mA m1 x := fun x hx => by rw [← hm2, mA_As, if_neg hx]
  have b7 : mA m2 7 = va_cpy (mA m1 5) (mA m1 7) 0 0 12 := by rw [← hm2, mA_As, if_pos rfl]
  have hm2' : MR m2 A := hm.same6 (fun f => by rw [← hm2, mF_As, ← hm1, mF_As]) (fun x hx => by rw [b1 x (by omega), a1 x (by omega)])
  obtain ⟨m3, p1, p2, p3, p4, p5⟩ := t_packed h hm2' hj
  obtain ⟨g1, g2, g3, g4, g5⟩ := pk_all 864 A j h (by omega)
  have hj2 : j < p_n (pkA j 864 A) := by rw [(same_S g2 j).2.1]; exact hj
  rw [t_shelves3 h hm2' hj, Option.bind_some, p1, Option.bind_some, t_shelves3 g1 p2 hj2, Option.bind_some]
  refine ⟨_, by rw [pk_gn h hj, pk_sub (by omega), Nat.add_sub_cancel_left], ?_, by show mF m3 0 = _; rw [p5, ← hm2, mF_As, ← hm1, mF_As]⟩
  show MR (mAs (mAs m3 4 (va_cpy (mA m3 6) (mA m3 4) 0 0 12)) 5 (va_cpy (mA (mAs m3 4 (va_cpy (mA m3 6) (mA m3 4) 0 0 12)) 7) (mA (mAs m3 4 (va_cpy (mA m3 6) (mA m3 4) 0 0 12)) 5) 0 0 12)) A
  generalize hm4 : mAs m3 4 (va_cpy (mA m3 6) (mA m3 4) 0 0 12) = m4
  have c1 : ∀ x, x ≠ 4 → mA m4 x = mA m3 x := fun x hx => by rw [← hm4, mA_As, if_neg hx]
  have c4 : mA m4 4 = va_cpy (mA m3 6) (mA m3 4) 0 0 12 := by rw [← hm4, mA_As, if_pos rfl]
  generalize hm5 : mAs m4 5 (va_cpy (mA m4 7) (mA m4 5) 0 0 12) = m5
  have d1 : ∀ x, x ≠ 5 → mA m5 x = mA m4 x := fun x hx => by rw [← hm5, mA_As, if_neg hx]
  have d5 : mA m5 5 = va_cpy (mA m4 7) (mA m4 5) 0 0 12 := by rw [← hm5, mA_As, if_pos rfl]
  have dF : ∀ f, mF m5 f = mF m3 f := fun f => by rw [← hm5, mF_As, ← hm4, mF_As]
  obtain ⟨q1, q2, q3, q4, q5⟩ := g2
  obtain ⟨⟨e1, e2, e3, e4, e5⟩, e6, e7, e8⟩ := p2
  have cp : ∀ (f g : Nat → Int32) (x : Nat), x < 12 → va_cpy f g 0 0 12 x = f x := fun f g x hx => by
    unfold va_cpy
    rw [if_pos ⟨Nat.zero_le _, by omega⟩, Nat.zero_add, Nat.sub_zero]
  have en : p_n (pkA j 864 A) = p_n A := congrArg (fun z => z.1) q1
  refine ⟨⟨?_, ?_, ?_, ?_, ?_⟩, fun i hi => ?_, fun i i1 i2 => ?_, fun x hx => ?_⟩
  · rw [dF, e1, en]
  · rw [dF, e2]; exact congrArg (fun z => z.2.2.1) q1
  · rw [dF, e3]; exact congrArg (fun z => z.2.1) q1
  · rw [dF, e4]; exact congrArg (fun z => z.2.2.2.1) q1
  · rw [dF, e5]; exact congrArg (fun z => z.2.2.2.2) q1
  · rw [d1 0 (by omega), d1 1 (by omega), c1 0 (by omega), c1 1 (by omega)]
    have := e6 i (by rw [en]; exact hi)
    refine ⟨this.1.trans (congrArg nI (congrFun q2 i)), this.2.trans (congrArg nI (congrFun q3 i))⟩
  · rw [d1 1 (by omega), c1 1 (by omega)]
    exact e7 i (by rw [en]; exact i1) i2
  · obtain ⟨r1, r2, r3, r4⟩ := e8 x hx
    have eo : p_o (pkA j 864 A) x = p_o A x := congrFun q4 x
    refine ⟨?_, fun h0 => ?_, ?_, ?_⟩
    · rw [d1 2 (by omega), c1 2 (by omega), r1]
      unfold p_oI
      rw [eo]
    · rw [d1 3 (by omega), c1 3 (by omega), r2 (by rw [eo]; exact h0)]
      exact congrArg nI (congrFun q5 x)
    · rw [d1 4 (by omega), c4, cp _ _ x hx, p3, b1 6 (by omega), a6, cp _ _ x hx]
      exact (hm.2.2.2 x hx).2.2.1
    · rw [d5, cp _ _ x hx, c1 7 (by omega), p4, b7, cp _ _ x hx, a1 5 (by omega)]
      exact (hm.2.2.2 x hx).2.2.2
end LP
