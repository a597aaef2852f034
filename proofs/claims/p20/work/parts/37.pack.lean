/-! packing on both sides; what it gains -/
def pkA (j : Nat) : Nat → AS → AS
  | 0, A => A
  | w + 1, A => match frP A j, toQ A j with
    | some f, some t => pkA j w (mvA A f t)
    | _, _ => A
def pkC (j : Nat) : Nat → AS → Nat
  | 0, _ => 0
  | w + 1, A => match frP A j, toQ A j with
    | some f, some t => pkC j w (mvA A f t) + 1
    | _, _ => 0
def phi (A : AS) (j : Nat) : Nat := sm (fun q => vB A j q * vB A j q) 12
section LP
variable {n : Nat} {A : AS} {k : KSt}
theorem KR.kn (hk : KR k A) : kN k = p_n A := hk.1.2.2.2.2.2
theorem WF.mv (h : WF n A) {j f t : Nat} (hf : f < 12) (hfu : us A j f = true) (ht : t < 12) (htu : us A j t = true) (hne : t ≠ f) : WF n (mvA A f t) := by
  obtain ⟨-, l2, l3, -⟩ := lf_ok h hf hfu
  obtain ⟨-, q2, q3⟩ := hq_ok h ht (us_o htu).2.2
  refine WF.set (WF.set h (xor_lt (w_b h hf) l2) (fun e => ?_) (by have := us_o hfu; omega)) (or_lt (w_b h ht) q2) (fun _ => rfl) (by have := us_o htu; show p_o A t ≠ 0; omega)
  unfold sF
  rw [if_neg e]
theorem s_move (h : WF n A) (hk : KR k A) {j f t : Nat} (hj : j < p_n A) (ef : frP A j = some f) (et : toQ A j = some t) : ∃ k', R_X2_moveToPack k j = some ((1 : Int32), k') ∧ KR k' (mvA A f t) := by
  obtain ⟨f', e1, hf, hfu, ht, htu, hne, hle⟩ := toQ_fr et
  obtain rfl : f' = f := Option.some.inj (e1.symm.trans ef)
  obtain ⟨l1, l2, l3, -⟩ := lf_ok h hf hfu
  obtain ⟨q1, q2, q3⟩ := hq_ok h ht (us_o htu).2.2
  have hps := w_ps h hf
  have hpt := w_ps h ht
  obtain ⟨k1, g1, g2, g3, g4⟩ := s_remove h hk hf (show lf A f' < 12 by omega) l3 (kG k 2)
  rw [hk.1.2.2.1] at g1 g2
  have hw : WF n (p_set A f' (p_b A f' ^^^ 2 ^ lf A f') (sF A f')) := WF.set h (xor_lt (w_b h hf) l2) (fun e => by unfold sF; rw [if_neg e]) (by have := us_o hfu; omega)
  have gt := s_gap hw g2 ht
  have ebt : p_b (p_set A f' (p_b A f' ^^^ 2 ^ lf A f') (sF A f')) t = p_b A t := by rw [b_set, if_neg hne]
  obtain ⟨k2, c1, c2, -, -⟩ := s_add (A := p_set A f' (p_b A f' ^^^ 2 ^ lf A f') (sF A f')) g2 ht (show hq A t < 12 by omega) (by rw [ebt]; exact q3)
  rw [ebt] at c2
  refine ⟨k2, ?_, c2⟩
  unfold R_X2_moveToPack
  rw [s_lastFew h hk hj, Option.bind_some, show fo (laF A j) 12 0 none = some f' from ef, if_pos (by simpa [obn] using hf), s_most h hk hj, Option.bind_some, show fo (moF A j (some f')) 12 0 none = some t from by rw [← ef]; exact et]
  show (if f' < 12 then (if t < 12 then _ else none) else none) = _
  rw [if_pos hf, if_pos ht, s_last h hk hf, Option.bind_some, l1, show oI (some (lf A f')) = nI (lf A f') from rfl, hk.1.2.2.1, g1, Option.bind_some]
  have gt2 : R_X1_firstGap k1 t = some (nI (hq A t)) := by
    have e2 : fi (fun x => !(p_b (p_set A f' (p_b A f' ^^^ 2 ^ lf A f') (sF A f')) t).testBit x) (p_ps A t) 0 = some (hq A t) := by rw [ebt]; exact q1
    exact gt.trans (congrArg some (congrArg oI e2))
  rw [gt2, Option.bind_some, c1]
  rfl
theorem s_stay (h : WF n A) (hk : KR k A) {j : Nat} (hj : j < p_n A) (et : toQ A j = none) : R_X2_moveToPack k j = some ((0 : Int32), k) := by
  unfold R_X2_moveToPack
  rw [s_lastFew h hk hj, Option.bind_some]
  have hlt : ∀ f, fo (laF A j) 12 0 none = some f → f < 12 := fun f e => ((frP_ok A j).1 f e).1
  rw [if_pos (by
    cases e : fo (laF A j) 12 0 none with
    | none => rfl
    | some f => simpa [obn] using hlt f e), s_most h hk hj, Option.bind_some, show fo (moF A j (fo (laF A j) 12 0 none)) 12 0 none = none from et]
  cases e : fo (laF A j) 12 0 none with
  | none => rfl
  | some f =>
    show (if f < 12 then _ else none) = _
    rw [if_pos (hlt f e)]
    rfl
/-- what a move keeps, and that it ends -/
theorem mv_phi (h : WF n A) {j f t : Nat} (ef : frP A j = some f) (et : toQ A j = some t) : phi A j + 2 ≤ phi (mvA A f t) j ∧ nB (mvA A f t) j = nB A j := by
  obtain ⟨f', e1, hf, hfu, ht, htu, hne, hle⟩ := toQ_fr et
  obtain rfl : f' = f := Option.some.inj (e1.symm.trans ef)
  obtain ⟨l1, l2, l3, -⟩ := lf_ok h hf hfu
  obtain ⟨q1, q2, q3⟩ := hq_ok h ht (us_o htu).2.2
  have hps := w_ps h hf
  have hpt := w_ps h ht
  have x1 := pc_xor (show lf A f' < 12 by omega) l3
  have x2 := pc_or (show hq A t < 12 by omega) q3
  have hof := us_o hfu
  have hot := us_o htu
  have vf : vB A j f' = pc (p_b A f') := if_pos hof.1
  have vt : vB A j t = pc (p_b A t) := if_pos hot.1
  have eo : ∀ q b s i, p_o (p_set A i b s) q = p_o A q := fun _ _ _ _ => rfl
  have hne' : f' ≠ t := fun e => hne e.symm
  have v1f : vB (p_set A f' (p_b A f' ^^^ 2 ^ lf A f') (sF A f')) j f' = pc (p_b A f' ^^^ 2 ^ lf A f') := by
    unfold vB; rw [eo, if_pos hof.1, b_set, if_pos rfl]
  have v1o : ∀ q, q ≠ f' → vB (p_set A f' (p_b A f' ^^^ 2 ^ lf A f') (sF A f')) j q = vB A j q := fun q hq => by
    unfold vB; rw [eo, b_set, if_neg hq]
  have v2t : vB (mvA A f' t) j t = pc (p_b A t ||| 2 ^ hq A t) := by
    unfold vB mvA; rw [b_set, if_pos rfl]; exact if_pos hot.1
  have v2o : ∀ q, q ≠ t → vB (mvA A f' t) j q = vB (p_set A f' (p_b A f' ^^^ 2 ^ lf A f') (sF A f')) j q := fun q hq => by
    unfold vB mvA; rw [b_set, if_neg hq]; rfl
  have s1 := sm_1 (f := fun q => vB A j q * vB A j q) (g := fun q => vB (p_set A f' (p_b A f' ^^^ 2 ^ lf A f') (sF A f')) j q * vB (p_set A f' (p_b A f' ^^^ 2 ^ lf A f') (sF A f')) j q) hf (fun q _ hq => by simp only [v1o q hq])
  have s2 := sm_1 (f := fun q => vB (p_set A f' (p_b A f' ^^^ 2 ^ lf A f') (sF A f')) j q * vB (p_set A f' (p_b A f' ^^^ 2 ^ lf A f') (sF A f')) j q) (g := fun q => vB (mvA A f' t) j q * vB (mvA A f' t) j q) ht (fun q _ hq => by simp only [v2o q hq])
  have s3 := sm_1 (f := vB A j) (g := vB (p_set A f' (p_b A f' ^^^ 2 ^ lf A f') (sF A f')) j) hf (fun q _ hq => v1o q hq)
  have s4 := sm_1 (f := vB (p_set A f' (p_b A f' ^^^ 2 ^ lf A f') (sF A f')) j) (g := vB (mvA A f' t) j) ht (fun q _ hq => v2o q hq)
  simp only [v1f, vf, v2t, v1o t hne, vt, x2] at s1 s2 s3 s4
  rw [← x1] at s1 s3 hle
  generalize pc (p_b A f' ^^^ 2 ^ lf A f') = x at *
  generalize pc (p_b A t) = y at *
  have q1 : (x + 1) * (x + 1) = x * x + 2 * x + 1 := by simp only [Nat.mul_add, Nat.add_mul]; omega
  have q2 : (y + 1) * (y + 1) = y * y + 2 * y + 1 := by simp only [Nat.mul_add, Nat.add_mul]; omega
  rw [q1] at s1
  rw [q2] at s2
  unfold phi nB
  omega
theorem phi_le (A : AS) (j : Nat) : phi A j ≤ 1728 := by
  have := sm_le (f := fun q => vB A j q * vB A j q) (g := fun _ => 144) (n := 12) (fun q _ => by
    have h1 : vB A j q ≤ 12 := by unfold vB; split; exact pc_12 _; omega
    exact Nat.mul_le_mul h1 h1)
  rw [sm_const] at this
  exact this
/-- the frame of packing: all but bowls and since -/
def same (A B : AS) : Prop := B.1 = A.1 ∧ B.2.1 = A.2.1 ∧ B.2.2.1 = A.2.2.1 ∧ B.2.2.2.1 = A.2.2.2.1 ∧ B.2.2.2.2.1 = A.2.2.2.2.1
theorem same.rf (A : AS) : same A A := ⟨rfl, rfl, rfl, rfl, rfl⟩
theorem pk_all : ∀ (w : Nat) (A : AS) (j : Nat), WF n A → 1728 ≤ phi A j + 2 * w → WF n (pkA j w A) ∧ same A (pkA j w A) ∧ nB (pkA j w A) j = nB A j ∧ toQ (pkA j w A) j = none ∧ pkC j w A ≤ w := by
  intro w
  induction w with
  | zero =>
    intro A j h hp
    refine ⟨h, same.rf A, rfl, ?_, Nat.le_refl _⟩
    cases et : toQ A j with
    | none => first | rfl | exact et
    | some t =>
      obtain ⟨f, ef, -⟩ := toQ_fr et
      have h1 := (mv_phi h ef et).1
      have h2 := phi_le (mvA A f t) j
      omega
  | succ w ih =>
    intro A j h hp
    unfold pkA pkC
    cases ef : frP A j with
    | none =>
      refine ⟨h, same.rf A, rfl, ?_, Nat.zero_le _⟩
      cases et : toQ A j with
      | none => first | rfl | exact et
      | some t =>
        obtain ⟨f, ef2, -⟩ := toQ_fr et
        rw [ef] at ef2; cases ef2
    | some f =>
      cases et : toQ A j with
      | none => exact ⟨h, same.rf A, rfl, et, Nat.zero_le _⟩
      | some t =>
        obtain ⟨f', e1, hf, hfu, ht, htu, hne, hle⟩ := toQ_fr et
        obtain rfl : f' = f := Option.some.inj (e1.symm.trans ef)
        obtain ⟨p1, p2⟩ := mv_phi h ef et
        obtain ⟨g1, g2, g3, g4, g5⟩ := ih (mvA A f' t) j (WF.mv h hf hfu ht htu hne) (by omega)
        exact ⟨g1, g2, g3.trans p2, g4, Nat.succ_le_succ g5⟩
theorem s_packL (j : Nat) : ∀ (w c f : Nat) (A : AS) (k : KSt), WF n A → KR k A → j < p_n A → 1728 ≤ phi A j + 2 * w → c + w ≤ 900 → w < f → ∃ k', R_X2_pack_L8 j f k (nI c) = some (.ok (nI (c + pkC j w A), kGs k' 4 (kG k' 4 + nI (c + pkC j w A)))) ∧ KR k' (pkA j w A) := by
  intro w
  induction w with
  | zero =>
    intro c f A k h hk hj hp hc hf
    obtain ⟨f, rfl⟩ : ∃ g, f = g + 1 := ⟨f - 1, by omega⟩
    have et := (pk_all 0 A j h hp).2.2.2.1
    refine ⟨k, ?_, hk⟩
    rw [R_X2_pack_L8, if_pos (by rw [hk.kn]; exact hj), if_neg (show ¬ (1000 : Int32) ≤ nI c from nI_ge (b := 1000) (by omega) (by omega)), s_stay h hk hj et, Option.bind_some, if_pos rfl]
    rfl
  | succ w ih =>
    intro c f A k h hk hj hp hc hf
    obtain ⟨f, rfl⟩ : ∃ g, f = g + 1 := ⟨f - 1, by omega⟩
    rw [R_X2_pack_L8, if_pos (by rw [hk.kn]; exact hj), if_neg (show ¬ (1000 : Int32) ≤ nI c from nI_ge (b := 1000) (by omega) (by omega))]
    cases et : toQ A j with
    | none =>
      have e1 : pkA j (w + 1) A = A := by unfold pkA; rw [et]; split <;> first | rfl | (rename_i h1 h2; cases h2)
      have e2 : pkC j (w + 1) A = 0 := by unfold pkC; rw [et]; split <;> first | rfl | (rename_i h1 h2; cases h2)
      rw [e1, e2]
      refine ⟨k, ?_, hk⟩
      rw [s_stay h hk hj et, Option.bind_some, if_pos rfl]
      rfl
    | some t =>
      obtain ⟨f', ef, hf', hfu, ht, htu, hne, hle⟩ := toQ_fr et
      have e1 : pkA j (w + 1) A = pkA j w (mvA A f' t) := by rw [pkA, ef, et]
      have e2 : pkC j (w + 1) A = pkC j w (mvA A f' t) + 1 := by rw [pkC, ef, et]
      obtain ⟨k1, m1, m2⟩ := s_move h hk hj ef et
      obtain ⟨p1, p2⟩ := mv_phi h ef et
      obtain ⟨k', r1, r2⟩ := ih (c + 1) f (mvA A f' t) k1 (WF.mv h hf' hfu ht htu hne) m2 hj (by omega) (by omega) (by omega)
      refine ⟨k', ?_, by rw [e1]; exact r2⟩
      rw [m1, Option.bind_some, if_neg (show ¬ (1 : Int32) = 0 from by decide), nI_1, r1, e2, show c + 1 + pkC j w (mvA A f' t) = c + (pkC j w (mvA A f' t) + 1) by omega]
end LP
