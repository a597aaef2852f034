/-! what is told: the same on both sides -/
section LP
variable {n : Nat} {A : AS} {k : KSt}
theorem in_cases (p : Int32) (lo hi : Nat) (hh : hi < 2 ^ 31) (hl : lo ≤ hi) : (∃ a, lo ≤ a ∧ a ≤ hi ∧ p = nI a) ∨ p < nI lo ∨ (¬ p < nI lo ∧ nI hi < p) := by
  by_cases h1 : p < nI lo
  · exact Or.inr (Or.inl h1)
  · by_cases h2 : nI hi < p
    · exact Or.inr (Or.inr ⟨h1, h2⟩)
    · have h0 : ¬ p < 0 := by
        intro h0
        refine h1 ?_
        have := nI_pos' (n := lo) (by omega)
        rw [Int32.lt_iff_toInt_lt] at h0 ⊢
        rw [Int32.le_iff_toInt_le] at this
        omega
      obtain ⟨a, ha, rfl⟩ := nI_of h0
      rw [nI_ltI ha (by omega)] at h1
      rw [nI_ltI (by omega) ha] at h2
      exact Or.inl ⟨a, by omega, by omega, rfl⟩
theorem le_of_lt {x y : Int32} (h : x < y) : ¬ y ≤ x := by
  rw [Int32.lt_iff_toInt_lt] at h
  rw [Int32.le_iff_toInt_le]
  omega
theorem le_of_nlt {x y : Int32} (h : ¬ x < y) : y ≤ x := by
  rw [Int32.lt_iff_toInt_lt] at h
  rw [Int32.le_iff_toInt_le]
  omega
theorem req_ok {x N : Nat} (h : x < N) (hN : N < 2 ^ 31) : R_X2_requireAnswer (nI x) (nI N) = some (.ok ()) := by
  unfold R_X2_requireAnswer
  rw [if_neg (nI_pos (by omega)), if_pos (nI_lt h hN)]
theorem req_lo {p : Int32} {N : Nat} (h : p < 0) : R_X2_requireAnswer p (nI N) = some (.error exIO) := by
  unfold R_X2_requireAnswer
  rw [if_pos h]; rfl
theorem req_hi {p : Int32} {N : Nat} (h1 : ¬ p < 0) (h : nI N < p) (hN : N < 2 ^ 30) : R_X2_requireAnswer p (nI (N + 1)) = some (.error exIO) := by
  unfold R_X2_requireAnswer
  obtain ⟨a, ha, rfl⟩ := nI_of h1
  rw [nI_ltI (by omega) ha] at h
  rw [if_neg h1, if_neg (nI_nlt h ha)]; rfl
/-! the answers -/
def aSh (A : AS) (i x : Nat) : Int32 := match x with
  | 0 => p_oI A i
  | 1 => nI (pc (p_b A i))
  | 2 => nI (p_rs A i)
  | 3 => nI (p_ps A i)
  | 4 => oI (fi (fun y => !(p_b A i).testBit y) (p_ps A i) 0)
  | _ => p_s A i
theorem s_answer (h : WF n A) (hk : KR k A) {i x : Nat} (hi : i < 12) (hx : x ≤ 5) : R_X1_answer k i (nI x) = some (aSh A i x) := by
  obtain ⟨g2, g3, g4, g5, g6, g7, -⟩ := hk.2.2 i hi
  unfold R_X1_answer
  match x, hx with
  | 0, _ => rw [if_pos (by decide), g2]; rfl
  | 1, _ => rw [if_neg (by decide), if_pos (by decide), g6]; rfl
  | 2, _ => rw [if_neg (by decide), if_neg (by decide), if_pos (by decide), g5]; rfl
  | 3, _ => rw [if_neg (by decide), if_neg (by decide), if_neg (by decide), if_pos (by decide), g4]; rfl
  | 4, _ => rw [if_neg (by decide), if_neg (by decide), if_neg (by decide), if_neg (by decide), if_pos (by decide), s_gap h hk hi]; rfl
  | 5, _ => rw [if_neg (by decide), if_neg (by decide), if_neg (by decide), if_neg (by decide), if_neg (by decide), g7]; rfl
def aAb (A : AS) (j x : Nat) : Int32 := match x with
  | 0 => nI (p_z A j)
  | 1 => nI (p_pl A j)
  | 2 => nI (24 % p_z A j)
  | 3 => nI (nS A j)
  | 4 => nI (nX A j 3)
  | 5 => nI (nX A j 2)
  | 6 => nI (nX A j 1)
  | 7 => nI (nB A j)
  | _ => nI (p_g A j)
theorem s_about (h : WF n A) (hk : KR k A) {j x : Nat} (hj : j < p_n A) (hx : x ≤ 8) : R_X2_answerAbout k j (nI x) = some (aAb A j x) := by
  obtain ⟨g1, g2, g3, g4, g5⟩ := hk.2.1 j hj
  unfold R_X2_answerAbout
  match x, hx with
  | 0, _ => rw [if_pos (by decide), g1]; rfl
  | 1, _ => rw [if_neg (by decide), if_pos (by decide), g2]; rfl
  | 2, _ => rw [if_neg (by decide), if_neg (by decide), if_pos (by decide), g3]; rfl
  | 3, _ => rw [if_neg (by decide), if_neg (by decide), if_neg (by decide), if_pos (by decide), s_shelvesOf h hk hj]; rfl
  | 4, _ => rw [if_neg (by decide), if_neg (by decide), if_neg (by decide), if_neg (by decide), if_pos (by decide), show (3 : Int32) = nI 3 from rfl, s_inState h hk hj (by omega)]; rfl
  | 5, _ => rw [if_neg (by decide), if_neg (by decide), if_neg (by decide), if_neg (by decide), if_neg (by decide), if_pos (by decide), show (2 : Int32) = nI 2 from rfl, s_inState h hk hj (by omega)]; rfl
  | 6, _ => rw [if_neg (by decide), if_neg (by decide), if_neg (by decide), if_neg (by decide), if_neg (by decide), if_neg (by decide), if_pos (by decide), show (1 : Int32) = nI 1 from rfl, s_inState h hk hj (by omega)]; rfl
  | 7, _ => rw [if_neg (by decide), if_neg (by decide), if_neg (by decide), if_neg (by decide), if_neg (by decide), if_neg (by decide), if_neg (by decide), if_pos (by decide), s_bowlsOf h hk hj]; rfl
  | 8, _ => rw [if_neg (by decide), if_neg (by decide), if_neg (by decide), if_neg (by decide), if_neg (by decide), if_neg (by decide), if_neg (by decide), if_neg (by decide), g4]; rfl
def aCo (A : AS) (x : Nat) : Int32 := match x with
  | 0 => p_t A
  | 1 => nI (p_n A)
  | 2 => nI (nF A)
  | 3 => nI (nA A)
  | 4 => nI (nU A)
  | 5 => nI ((12 - nF A) * 24 - nU A)
  | 6 => nI (nN A)
  | 7 => p_p A
  | 8 => p_m A
  | _ => p_w A
theorem s_count (h : WF n A) (hk : KR k A) {x : Nat} (hx : x ≤ 9) : R_X2_count k (nI x) = some (.ok (aCo A x)) := by
  obtain ⟨g0, g1, g2, g3, g4, g5⟩ := hk.1
  unfold R_X2_count
  rw [show (10 : Int32) = nI 10 from rfl, req_ok (by omega) (by omega)]
  show (if _ then _ else _) = _
  match x, hx with
  | 0, _ => rw [if_pos (by decide), g2]; rfl
  | 1, _ => rw [if_neg (by decide), if_pos (by decide), g0]; rfl
  | 2, _ => rw [if_neg (by decide), if_neg (by decide), if_pos (by decide), s_free h hk]; rfl
  | 3, _ => rw [if_neg (by decide), if_neg (by decide), if_neg (by decide), if_pos (by decide), s_all hk]; rfl
  | 4, _ => rw [if_neg (by decide), if_neg (by decide), if_neg (by decide), if_neg (by decide), if_pos (by decide), s_und hk]; rfl
  | 5, _ =>
    rw [if_neg (by decide), if_neg (by decide), if_neg (by decide), if_neg (by decide), if_neg (by decide), if_pos (by decide), s_taken h hk, Option.bind_some, s_und hk, Option.bind_some, show (24 : Int32) = nI 24 from rfl, pk_mul, pk_sub (nU_le h)]
    rfl
  | 6, _ => rw [if_neg (by decide), if_neg (by decide), if_neg (by decide), if_neg (by decide), if_neg (by decide), if_neg (by decide), if_pos (by decide), s_no h hk]; rfl
  | 7, _ => rw [if_neg (by decide), if_neg (by decide), if_neg (by decide), if_neg (by decide), if_neg (by decide), if_neg (by decide), if_neg (by decide), if_pos (by decide), g3]; rfl
  | 8, _ => rw [if_neg (by decide), if_neg (by decide), if_neg (by decide), if_neg (by decide), if_neg (by decide), if_neg (by decide), if_neg (by decide), if_neg (by decide), if_pos (by decide), g4]; rfl
  | 9, _ => rw [if_neg (by decide), if_neg (by decide), if_neg (by decide), if_neg (by decide), if_neg (by decide), if_neg (by decide), if_neg (by decide), if_neg (by decide), if_neg (by decide), g1]; rfl
/-! where the next bowl would come -/
theorem toP_ok (h : WF n A) {j i : Nat} (e : toP A j = some i) : i < 12 ∧ (p_o A i = 0 ∨ (p_o A i = j + 1 ∧ pc (p_b A i) < p_ps A i)) := by
  unfold toP at e
  have byI : ∀ (d i : Nat) (a : Option Nat), i + d = 12 → (∀ b, a = some b → b < 12 ∧ us A j b = true) → ∀ b, fo (byF A j) d i a = some b → b < 12 ∧ us A j b = true := by
    intro d
    induction d with
    | zero => intro i a _ ha; exact ha
    | succ d ih =>
      intro i a hi ha
      rw [fo]
      refine ih (i + 1) _ (by omega) (fun b hb => ?_)
      by_cases hu : us A j i = true
      · rcases byF_or A j a i with q | q
        · rw [q] at hb; exact ha b hb
        · rw [q] at hb; cases hb; exact ⟨by omega, hu⟩
      · rw [show byF A j a i = a from if_neg hu] at hb; exact ha b hb
  cases hf : fo (byF A j) 12 0 none with
  | some x =>
    rw [hf] at e
    cases e
    obtain ⟨g1, g2⟩ := byI 12 0 none rfl (fun b hb => by cases hb) i hf
    exact ⟨g1, Or.inr ⟨(us_o g2).1, (us_o g2).2.2⟩⟩
  | none =>
    rw [hf] at e
    cases hg : fi (em A j) 12 0 with
    | some x =>
      rw [hg] at e
      cases e
      obtain ⟨-, g1, g2⟩ := fi_some hg
      simp only [em, Bool.and_eq_true, beq_iff_eq] at g2
      have hi : i < 12 := by omega
      have := w_o h hi
      have hp := (w_pl h (j := j) (by omega)).1
      have hps : p_ps A i = p_pl A j := by rw [ps_I (by omega), g2.1]; rfl
      refine ⟨hi, Or.inr ⟨g2.1, ?_⟩⟩
      rw [(pc_b0 h hi).mpr g2.2]; omega
    | none =>
      rw [hg] at e
      have e : fi (fr A) 12 0 = some i := e
      obtain ⟨-, g1, g2⟩ := fi_some e
      exact ⟨by omega, Or.inl (by simpa [fr] using g2)⟩
def aNx (A : AS) (j : Nat) : Int32 := match toP A j with
  | none => -1
  | some i => if p_o A i = 0 then nI (24 * i + p_g A j % (24 % p_z A j + 1)) else nI (24 * i + p_rs A i + hq A i * p_zs A i)
theorem s_next (h : WF n A) (hk : KR k A) {j : Nat} (hj : j < p_n A) : R_X2_nextSpot k j = some (aNx A j) := by
  unfold R_X2_nextSpot aNx
  rw [s_toPut h hk hj, Option.bind_some]
  cases e : toP A j with
  | none => rfl
  | some i =>
    obtain ⟨hi, ho⟩ := toP_ok h e
    show (if i < 12 then _ else none) = _
    rw [if_pos hi, s_state h hk hi, Option.bind_some]
    by_cases h0 : p_o A i = 0
    · have hst : stN A i = 0 := by unfold stN; rw [if_pos h0]
      rw [if_neg (fun q => q (by rw [hst]; rfl)), (hk.2.1 j hj).2.2.2.2, nI_add]
      simp only [h0, if_true]
    · have hst : ¬ stN A i = 0 := fun q => h0 (by have := fr_st.mpr q; simpa [fr] using this)
      obtain ⟨q1, q2, q3⟩ := hq_ok h hi (ho.resolve_left h0).2
      rw [if_pos (show ¬ nI (stN A i) = 0 from fun q => hst ((st_I (x := 0) (by omega)).mp q)), s_gap h hk hi, Option.bind_some, q1, show oI (some (hq A i)) = nI (hq A i) from rfl, s_begin hk hi]
      simp only [h0, if_false]
      rfl
end LP
