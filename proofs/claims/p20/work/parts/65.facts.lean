/-! numbers drawn from words -/
theorem bl_ok (v : Int32) {N : Nat} (h0 : 0 < N) (hN : N < 2 ^ 31) : ∃ a, a < N ∧ bl_ v (nI N) = nI a := by
  obtain ⟨x, hx, e⟩ := pk_andE v (m := 2147483647) 31 (by decide)
  unfold bl_
  rw [e, pk_rem hx h0 hN]
  exact ⟨_, Nat.mod_lt _ h0, rfl⟩
theorem cl_ok {L : Nat} (hL : L ≤ 260) (xs : Nat → Int32) {c : Nat} (hc : c < 1000) : ∃ v, cl_ L xs (nI c) = some v := by
  unfold cl_
  by_cases h : L ≤ c
  · rw [if_pos (nI_le h (by omega))]; exact ⟨_, rfl⟩
  · rw [if_neg (nI_ge (by omega) (by omega)), if_pos (inb_nI (by omega) (by omega))]; exact ⟨_, rfl⟩
section LP
variable {n : Nat} {A : AS} {k : KSt} {z : SSt}
/-! the times stay past -/
theorem WT.up (hw : WT n A) : WT (n + 1) A := by
  obtain ⟨w, t, ht, et, hu⟩ := hw
  exact ⟨w, t, by omega, et, hu⟩
theorem WT.wy (hw : WT n A) {w : Nat} (h3 : w < 3) : WT n (p_wy A (nI w)) := by
  obtain ⟨-, t, ht, et, hu⟩ := hw
  refine ⟨?_, t, ht, et, hu⟩
  show nI w = 0 ∨ nI w = 1 ∨ nI w = 2
  match w, h3 with
  | 0, _ => exact Or.inl rfl
  | 1, _ => exact Or.inr (Or.inl rfl)
  | 2, _ => exact Or.inr (Or.inr rfl)
theorem or_ne0 {b q : Nat} : b ||| 2 ^ q ≠ 0 := fun e => by
  have h := tb_or b q q
  rw [e, Nat.zero_testBit, decide_eq_true rfl, Bool.or_true] at h
  cases h
theorem WT.tk (hw : WT n A) (a q : Nat) : WT (n + 1) (tkA A a q) := by
  obtain ⟨w, t, ht, et, hu⟩ := hw
  have e1 : p_t (tkA A a q) = nI (t + 1) := by
    show p_t A + 1 = _
    rw [et, nI_1]
  refine ⟨w, t + 1, by omega, e1, fun x hx ho hb => ?_⟩
  have eb : p_b (tkA A a q) x = if x = a / 24 then p_b A (a / 24) ^^^ 2 ^ q else p_b A x := rfl
  have es : p_s (tkA A a q) x = if x = a / 24 then (if p_b A (a / 24) ^^^ 2 ^ q = 0 then p_t A + 1 else -1) else p_s A x := rfl
  rw [eb] at hb
  rw [es]
  by_cases e : x = a / 24
  · rw [if_pos e] at hb ⊢
    rw [if_pos hb, et, nI_1]
    exact ⟨t + 1, Nat.le_refl _, rfl⟩
  · rw [if_neg e] at hb ⊢
    obtain ⟨u, hu1, eu⟩ := hu x hx ho hb
    exact ⟨u, by omega, eu⟩
theorem WT.mv (hw : WT n A) (f t' : Nat) : WT n (mvA A f t') := by
  obtain ⟨w, t, ht, et, hu⟩ := hw
  refine ⟨w, t, ht, et, fun x hx ho hb => ?_⟩
  unfold mvA at hb ⊢
  rw [b_set] at hb
  rw [s_set]
  by_cases e : x = t'
  · rw [if_pos e] at hb
    exact absurd hb or_ne0
  · rw [if_neg e] at hb ⊢
    rw [b_set] at hb
    rw [s_set]
    by_cases e2 : x = f
    · rw [if_pos e2] at hb ⊢
      unfold sF
      rw [if_pos hb]
      exact ⟨t, Nat.le_refl _, et⟩
    · rw [if_neg e2] at hb ⊢
      exact hu x hx ho hb
theorem wt_pk (j : Nat) : ∀ (w : Nat) (A : AS), WT n A → WT n (pkA j w A) := by
  intro w
  induction w with
  | zero => intro A h; exact h
  | succ w ih =>
    intro A h
    rw [pkA]
    cases frP A j with
    | none => exact h
    | some f =>
      cases toQ A j with
      | none => exact h
      | some t => exact ih _ (WT.mv h f t)
theorem wt_pc (hw : WT n A) (j : Nat) : WT n (pcA A j) := by
  have h := wt_pk (n := n) j 864 A hw
  obtain ⟨w, t, ht, et, hu⟩ := h
  exact ⟨w, t, ht, et, hu⟩
/-! putting -/
theorem byF_none (hw : p_w A = 0 ∨ p_w A = 1 ∨ p_w A = 2) {j : Nat} (e : fo (byF A j) 12 0 none = none) : ∀ x, x < 12 → us A j x = false := by
  rw [by_up hw] at e
  have h1 := best_up (u := us A j) (m := mW A) 12 0 none (Or.inl ⟨rfl, fun x h1 h2 => by omega⟩)
  rw [e] at h1
  rcases h1 with ⟨-, h1⟩ | ⟨i, h1, -⟩
  · exact fun x hx => h1 x (Nat.zero_le _) (by omega)
  · cases h1
theorem byF_some (hw : p_w A = 0 ∨ p_w A = 1 ∨ p_w A = 2) {j i : Nat} (e : fo (byF A j) 12 0 none = some i) : i < 12 ∧ us A j i = true := by
  rw [by_up hw] at e
  have h1 := best_up (u := us A j) (m := mW A) 12 0 none (Or.inl ⟨rfl, fun x h1 h2 => by omega⟩)
  rw [e] at h1
  rcases h1 with ⟨h1, -⟩ | ⟨i', h1, -, h2, h3, -⟩
  · cases h1
  · cases h1; exact ⟨by omega, h3⟩
theorem toP_cases (hw : p_w A = 0 ∨ p_w A = 1 ∨ p_w A = 2) (j : Nat) : (∃ i, toP A j = some i ∧ i < 12 ∧ (us A j i = true ∨ em A j i = true)) ∨ ((∀ x, x < 12 → us A j x = false ∧ em A j x = false) ∧ ((∃ i, toP A j = some i ∧ i < 12 ∧ p_o A i = 0) ∨ (toP A j = none ∧ ∀ x, x < 12 → fr A x = false))) := by
  unfold toP
  cases e : fo (byF A j) 12 0 none with
  | some i =>
    obtain ⟨h1, h2⟩ := byF_some hw e
    exact Or.inl ⟨i, rfl, h1, Or.inl h2⟩
  | none =>
    have hu := byF_none hw e
    cases e2 : fi (em A j) 12 0 with
    | some i =>
      obtain ⟨-, h1, h2⟩ := fi_some e2
      exact Or.inl ⟨i, rfl, by omega, Or.inr h2⟩
    | none =>
      have he : ∀ x, x < 12 → em A j x = false := fun x hx => fi_none e2 x (Nat.zero_le _) (by omega)
      refine Or.inr ⟨fun x hx => ⟨hu x hx, he x hx⟩, ?_⟩
      cases e3 : fi (fr A) 12 0 with
      | some i =>
        obtain ⟨-, h1, h2⟩ := fi_some e3
        exact Or.inl ⟨i, rfl, by omega, by simpa [fr] using h2⟩
      | none => exact Or.inr ⟨rfl, fun x hx => fi_none e3 x (Nat.zero_le _) (by omega)⟩
theorem sm_zero {f : Nat → Nat} {N : Nat} (h : ∀ q, q < N → f q = 0) : sm f N = 0 := by
  rw [sm_congr h, sm_const, Nat.zero_mul]
theorem nX_em (A : AS) (j : Nat) : nX A j 1 = sm (fun q => b1 (em A j q)) 12 := by unfold nX; simp only [em_b]
theorem gap_0 (h : WF n A) {j : Nat} (hj : j < p_n A) (h0 : ∀ x, x < 12 → us A j x = false ∧ em A j x = false) : nS A j * p_pl A j = nB A j := by
  obtain ⟨h1, h2, h3, h4⟩ := gn_S h hj
  have e1 : nX A j 1 = 0 := by rw [nX_em]; exact sm_zero (fun q hq => by rw [(h0 q hq).2]; rfl)
  have e2 : nX A j 2 = 0 := by rw [nX_us]; exact sm_zero (fun q hq => by rw [(h0 q hq).1]; rfl)
  rw [e2, Nat.mul_zero] at h4
  rw [h1, h2, e1, e2, Nat.zero_add, Nat.mul_comm, show nBu A j = 0 by omega, Nat.zero_add]
theorem gap_1 (h : WF n A) {j i : Nat} (hj : j < p_n A) (hi : i < 12) (h0 : us A j i = true ∨ em A j i = true) : nB A j < nS A j * p_pl A j := by
  obtain ⟨h1, h2, h3, h4⟩ := gn_S h hj
  have hp := (w_pl h hj).1
  have hx : 1 ≤ nX A j 1 ∨ 1 ≤ nX A j 2 := by
    rcases h0 with h0 | h0
    · right
      rw [nX_us]
      have := sm_pos (f := fun q => b1 (us A j q)) hi
      simp only [h0] at this
      exact this
    · left
      rw [nX_em]
      have := sm_pos (f := fun q => b1 (em A j q)) hi
      simp only [h0] at this
      exact this
  have e : nS A j * p_pl A j = p_pl A j * nX A j 1 + p_pl A j * nX A j 2 + p_pl A j * nX A j 3 := by
    rw [h1, Nat.add_mul, Nat.add_mul, Nat.mul_comm (nX A j 1), Nat.mul_comm (nX A j 2), Nat.mul_comm (nX A j 3)]
  have m1 : nX A j 1 ≤ p_pl A j * nX A j 1 := Nat.le_mul_of_pos_left _ (by omega)
  omega
/-- what putting does, one shelf after all -/
theorem pu_ok (hn : n < 512) (h : WF n A) (hw : WT n A) {j : Nat} (hj : j < p_n A) {r : Nat × AS} (e : puA A j = some r) : ∃ (i c : Nat) (A1 : AS), i < 12 ∧ r = (ptS A1 i, ptA A1 i) ∧ WF (n + 1) A1 ∧ p_o A1 i = j + 1 ∧ pc (p_b A1 i) < p_ps A1 i ∧ p_n A1 = p_n A ∧ p_t A1 = p_t A ∧ (∀ x, p_z A1 x = p_z A x) ∧
    aNx A j = nI r.1 ∧ wdA A j = nI c ∧ nF A1 + c = nF A ∧ nS A1 j = nS A j + c ∧ nB A1 j = nB A j ∧ nA A1 = nA A ∧ WT (n + 1) r.2 := by
  have hw0 := hw.1
  unfold puA at e
  have wt : ∀ A1 : AS, p_w A1 = p_w A → p_t A1 = p_t A → (∀ x, p_b A1 x = p_b A x) → (∀ x, p_s A1 x = p_s A x) → ∀ i, i < 12 → (∀ x, x ≠ i → p_o A1 x = p_o A x) → WT (n + 1) (ptA A1 i) := by
    intro A1 q1 q2 q3 q4 i hi q5
    obtain ⟨-, t, ht, et, hu⟩ := hw
    have e1 : p_t (ptA A1 i) = nI (t + 1) := by
      show p_t A1 + 1 = _
      rw [q2, et, nI_1]
    refine ⟨?_, t + 1, by omega, e1, fun x hx ho hb => ?_⟩
    · show p_w A1 = 0 ∨ p_w A1 = 1 ∨ p_w A1 = 2
      rw [q1]; exact hw0
    have eb : p_b (ptA A1 i) x = if x = i then p_b A1 i ||| 2 ^ hq A1 i else p_b A1 x := rfl
    have es : p_s (ptA A1 i) x = if x = i then (-1 : Int32) else p_s A1 x := rfl
    rw [eb] at hb
    rw [es]
    by_cases e : x = i
    · rw [if_pos e] at hb
      exact absurd hb or_ne0
    · rw [if_neg e] at hb ⊢
      have ho : p_o A1 x ≠ 0 := ho
      rw [q5 x e] at ho
      rw [q3] at hb
      rw [q4]
      obtain ⟨u, hu1, eu⟩ := hu x hx ho hb
      exact ⟨u, by omega, eu⟩
  rcases toP_cases hw0 j with ⟨i, ei, hi, hu⟩ | ⟨hno, ⟨i, ei, hi, h0⟩ | ⟨en, -⟩⟩
  · have ho : p_o A i = j + 1 := by
      rcases hu with hu | hu
      · exact (us_o hu).1
      · exact (em_ob hu).1
    have hp : pc (p_b A i) < p_ps A i := by
      rcases hu with hu | hu
      · exact (us_o hu).2.2
      · have hps : p_ps A i = p_pl A j := by rw [ps_I (by omega), ho]; rfl
        rw [(em_ob hu).2, show pc 0 = 0 from by decide +kernel, hps]
        have := (w_pl h hj).1
        omega
    rw [ei] at e
    have e : (if p_o A i = 0 then some (ptS (p_come A i j) i, ptA (p_come A i j) i) else some (ptS A i, ptA A i)) = some r := e
    rw [if_neg (by omega)] at e
    cases e
    refine ⟨i, 0, A, hi, rfl, h.up, ho, hp, rfl, rfl, fun _ => rfl, ?_, ?_, rfl, rfl, rfl, rfl, wt A rfl rfl (fun _ => rfl) (fun _ => rfl) i hi (fun _ _ => rfl)⟩
    · unfold aNx
      rw [ei]
      show (if p_o A i = 0 then _ else _) = _
      rw [if_neg (by omega)]
      rfl
    · unfold wdA
      have := gap_1 h hj hi hu
      rw [if_pos (by omega)]
      rfl
  · rw [ei] at e
    have e : (if p_o A i = 0 then some (ptS (p_come A i j) i, ptA (p_come A i j) i) else some (ptS A i, ptA A i)) = some r := e
    rw [if_pos h0] at e
    cases e
    obtain ⟨eo, eps, eb, hp⟩ := come_p h hi hj h0
    have hc := h.come (j := j) hj h0 hi
    have hbi := (w_fr h hi h0).1
    have one : ∀ x, x ≠ i → p_o (p_come A i j) x = p_o A x := fun x hx => if_neg hx
    have hpl := w_pl h hj
    refine ⟨i, 1, p_come A i j, hi, rfl, hc, eo, hp, rfl, rfl, fun _ => rfl, ?_, ?_, ?_, ?_, ?_, rfl, wt (p_come A i j) rfl rfl (fun _ => rfl) (fun _ => rfl) i hi one⟩
    · unfold aNx
      rw [ei]
      show (if p_o A i = 0 then _ else _) = _
      rw [if_pos h0]
      have e1 : hq (p_come A i j) i = 0 := by
        unfold hq
        rw [eb, eps, show p_pl A j = (p_pl A j - 1) + 1 by omega, fi, if_pos (by rw [Nat.zero_testBit]; rfl)]
        rfl
      have e2 : p_rs (p_come A i j) i = p_g A j % (24 % p_z A j + 1) := by
        unfold p_rs
        rw [eo, if_neg (by omega)]
        exact if_pos rfl
      show _ = nI (24 * i + p_rs (p_come A i j) i + hq (p_come A i j) i * p_zs (p_come A i j) i)
      rw [e1, e2, Nat.zero_mul]
      rfl
    · unfold wdA
      rw [gap_0 h hj hno, Nat.sub_self, if_neg (by omega), if_pos (by
        have := sm_pos (f := fun q => b1 (fr A q)) hi
        simp only [fr, h0] at this
        exact this)]
      rfl
    · have := sm_1 (f := fun q => b1 (fr A q)) (g := fun q => b1 (fr (p_come A i j) q)) hi (fun q _ hq => by simp only [fr, one q hq])
      simp only [fr, h0, eo] at this
      unfold nF
      simp only [fr]
      simpa [b1] using this
    · have := sm_1 (f := fun q => b1 (ofK A j q)) (g := fun q => b1 (ofK (p_come A i j) j q)) hi (fun q _ hq => by simp only [ofK, one q hq])
      simp only [ofK, h0, eo] at this
      unfold nS
      simp only [ofK]
      simpa [b1] using this
    · refine sm_congr (fun q hq => ?_)
      unfold vB
      by_cases eq : q = i
      · rw [eq, eo, if_pos rfl, h0, if_neg (by omega), eb]; decide +kernel
      · rw [one q eq]; rfl
  · rw [en] at e; cases e
/-- nowhere to put -/
theorem pu_no (h : WF n A) (hw : WT n A) {j : Nat} (hj : j < p_n A) (e : puA A j = none) : aNx A j = -1 ∧ wdA A j = -1 ∧ ftA A j = 0 := by
  have hw0 := hw.1
  unfold puA at e
  rcases toP_cases hw0 j with ⟨i, ei, -⟩ | ⟨hno, ⟨i, ei, -⟩ | ⟨en, hf⟩⟩
  · rw [ei] at e
    have e : (if p_o A i = 0 then some (ptS (p_come A i j) i, ptA (p_come A i j) i) else some (ptS A i, ptA A i)) = none := e
    split at e <;> cases e
  · rw [ei] at e
    have e : (if p_o A i = 0 then some (ptS (p_come A i j) i, ptA (p_come A i j) i) else some (ptS A i, ptA A i)) = none := e
    split at e <;> cases e
  · have eF : nF A = 0 := sm_zero (fun q hq => by rw [hf q hq]; rfl)
    have eg := gap_0 h hj hno
    refine ⟨?_, ?_, ?_⟩
    · unfold aNx; rw [en]
    · unfold wdA; rw [eg, Nat.sub_self, if_neg (by omega), eF, if_neg (by omega)]
    · unfold ftA; rw [eg, Nat.sub_self, eF, Nat.zero_mul]
/-- the kitchen after a put, told -/
theorem pt_ok (h : WF n A) {i j : Nat} (hi : i < 12) (hj : j < p_n A) (ho : p_o A i = j + 1) (hp : pc (p_b A i) < p_ps A i) : WF n (ptA A i) ∧ ptS A i < 288 ∧ ptS A i / 24 = i ∧ plc (ptA A i) (ptS A i) = some (hq A i) ∧ (∀ x, x ≤ 3 → plV (ptA A i) (ptS A i) x = (match x with | 0 => nI j | 1 => nI (hq A i) | 2 => 1 | _ => nI (ptS A i))) ∧
    nB (ptA A i) j = nB A j + 1 ∧ nA (ptA A i) = nA A + 1 ∧ nF (ptA A i) = nF A ∧ nS (ptA A i) j = nS A j := by
  obtain ⟨q1, q2, q3⟩ := hq_ok h hi hp
  have hps := w_ps h hi
  have hB : WF n (ptA A i) := WF.set h (or_lt (w_b h hi) q2) (fun _ => rfl) (by omega)
  obtain ⟨s1, s2, s3⟩ := plc_spot hB hi (show hq A i < p_ps (ptA A i) i from q2)
  have s1 : ptS A i < 288 := s1
  have s2 : ptS A i / 24 = i := s2
  have s3 : plc (ptA A i) (ptS A i) = some (hq A i) := s3
  have eb : p_b (ptA A i) i = p_b A i ||| 2 ^ hq A i := if_pos rfl
  have ebo : ∀ x, x ≠ i → p_b (ptA A i) x = p_b A x := fun x hx => if_neg hx
  have epc := pc_or (show hq A i < 12 by omega) q3
  refine ⟨hB, s1, s2, s3, fun x hx => ?_, ?_, ?_, rfl, rfl⟩
  · unfold plV
    rw [s3, s2]
    match x, hx with
    | 0, _ =>
      show p_oI (ptA A i) i = nI j
      unfold p_oI
      rw [show p_o (ptA A i) i = j + 1 from ho, if_neg (by omega), Nat.add_sub_cancel]
    | 1, _ => rfl
    | 2, _ =>
      show nI (b1 ((p_b (ptA A i) i).testBit (hq A i))) = 1
      rw [eb, tb_or, decide_eq_true rfl, Bool.or_true]; rfl
    | 3, _ => rfl
  · have := sm_1 (f := vB A j) (g := vB (ptA A i) j) hi (fun q _ hq => by
      unfold vB
      rw [ebo q hq]; rfl)
    rw [show vB A j i = pc (p_b A i) from if_pos ho, show vB (ptA A i) j i = pc (p_b A i) + 1 from (if_pos ho).trans (by rw [eb, epc])] at this
    unfold nB
    omega
  · have := sm_1 (f := fun q => pc (p_b A q)) (g := fun q => pc (p_b (ptA A i) q)) hi (fun q _ hq => by simp only [ebo q hq])
    simp only [eb, epc] at this
    unfold nA
    omega
theorem ft_step {a b c f pl x : Nat} (h1 : x + 1 ≤ (a + c) * pl) (h0 : x ≤ a * pl) : (a + c) * pl - (x + 1) + f * pl + 1 = a * pl - x + (f + c) * pl := by
  rw [Nat.add_mul] at h1 ⊢
  rw [Nat.add_mul]
  omega
/-- the bowl taken back -/
theorem tk_back (h : WF n A) {i j : Nat} (hi : i < 12) (hj : j < p_n A) (ho : p_o A i = j + 1) (hp : pc (p_b A i) < p_ps A i) : tkQ (ptA A i) (ptS A i) = some (hq A i) ∧ plV (tkA (ptA A i) (ptS A i) (hq A i)) (ptS A i) 2 = 0 ∧ nB (tkA (ptA A i) (ptS A i) (hq A i)) j = nB A j ∧ nA (tkA (ptA A i) (ptS A i) (hq A i)) = nA A ∧ nF (tkA (ptA A i) (ptS A i) (hq A i)) = nF A ∧ nS (tkA (ptA A i) (ptS A i) (hq A i)) j = nS A j := by
  obtain ⟨q1, q2, q3⟩ := hq_ok h hi hp
  have hps := w_ps h hi
  obtain ⟨hB, s1, s2, s3, -, b4, b5, b6, b7⟩ := pt_ok h hi hj ho hp
  have eb : p_b (ptA A i) i = p_b A i ||| 2 ^ hq A i := if_pos rfl
  have hbit : (p_b (ptA A i) (ptS A i / 24)).testBit (hq A i) = true := by
    rw [s2, eb, tb_or, decide_eq_true rfl, Bool.or_true]
  have et : tkQ (ptA A i) (ptS A i) = some (hq A i) := tkQ_ex hB s1 hbit (by rw [s2]; rfl)
  have hq12 : hq A i < 12 := by omega
  have epo := pc_or hq12 q3
  have epx := pc_xor hq12 hbit
  rw [s2, eb] at epx
  have eb2 : p_b (tkA (ptA A i) (ptS A i) (hq A i)) i = (p_b A i ||| 2 ^ hq A i) ^^^ 2 ^ hq A i := (if_pos s2.symm).trans (by rw [s2, eb])
  have ebo : ∀ x, x ≠ i → p_b (tkA (ptA A i) (ptS A i) (hq A i)) x = p_b A x := fun x hx => (if_neg (by rw [s2]; exact hx)).trans (if_neg hx)
  have epc : pc ((p_b A i ||| 2 ^ hq A i) ^^^ 2 ^ hq A i) = pc (p_b A i) := by omega
  have same : ∀ x, pc (p_b (tkA (ptA A i) (ptS A i) (hq A i)) x) = pc (p_b A x) := fun x => by
    by_cases e : x = i
    · rw [e, eb2, epc]
    · rw [ebo x e]
  refine ⟨et, ?_, ?_, ?_, rfl, rfl⟩
  · unfold plV
    rw [show plc (tkA (ptA A i) (ptS A i) (hq A i)) (ptS A i) = plc (ptA A i) (ptS A i) from rfl, s3, s2]
    show nI (b1 ((p_b (tkA (ptA A i) (ptS A i) (hq A i)) i).testBit (hq A i))) = 0
    rw [eb2, tb_xor, tb_or, decide_eq_true rfl, Bool.or_true, bne_self_eq_false]; rfl
  · refine sm_congr (fun q _ => ?_)
    unfold vB
    rw [same q]
    rfl
  · exact sm_congr (fun q _ => same q)
/-! packing and reaping -/
theorem pk_nB (j x : Nat) : ∀ (w : Nat) (A : AS), WF n A → nB (pkA j w A) x = nB A x := by
  intro w
  induction w with
  | zero => intro A _; rfl
  | succ w ih =>
    intro A h
    rw [pkA]
    cases ef : frP A j with
    | none => rfl
    | some f =>
      cases et : toQ A j with
      | none => rfl
      | some t =>
        obtain ⟨f', e1, hf, hfu, ht, htu, hne, -⟩ := toQ_fr et
        obtain rfl : f' = f := Option.some.inj (e1.symm.trans ef)
        refine (ih (mvA A f' t) (WF.mv h hf hfu ht htu hne)).trans ?_
        by_cases e : x = j
        · rw [e]; exact (mv_phi h ef et).2
        · refine sm_congr (fun q _ => ?_)
          have o1 := (us_o hfu).1
          have o2 := (us_o htu).1
          unfold vB
          rw [show p_o (mvA A f' t) q = p_o A q from rfl]
          by_cases eo : p_o A q = x + 1
          · rw [if_pos eo, if_pos eo]
            unfold mvA
            rw [b_set, if_neg (fun e3 => by rw [e3] at eo; omega), b_set, if_neg (fun e3 => by rw [e3] at eo; omega)]
          · rw [if_neg eo, if_neg eo]
theorem pc_ok (h : WF n A) {j : Nat} (hj : j < p_n A) : p_n (pcA A j) = p_n A ∧ nX (pcA A j) j 1 = nX A j 1 + gn A j ∧ nX (pcA A j) j 2 ≤ 1 ∧ p_m (pcA A j) = p_m A + nI (pkC j 864 A) ∧ pkC j 864 (pcA A j) = 0 ∧ pcA (pcA A j) j = pcA A j ∧ gn (pcA A j) j = 0 ∧ (∀ x, nB (pcA A j) x = nB A x) ∧ pkC j 864 A ≤ 864 := by
  obtain ⟨g1, g2, g3, g4, g5⟩ := pk_all 864 A j h (by omega)
  have en : p_n (pkA j 864 A) = p_n A := (same_S g2 j).2.1
  have et : toQ (pcA A j) j = none := g4
  have hu : nX (pkA j 864 A) j 2 ≤ 1 := end_one g4
  have e1 : ∀ w, pkA j w (pcA A j) = pcA A j := fun w => by
    cases w with
    | zero => rfl
    | succ w => unfold pkA; rw [et]; split <;> first | rfl | (rename_i h1 h2; cases h2)
  have e2 : ∀ w, pkC j w (pcA A j) = 0 := fun w => by
    cases w with
    | zero => rfl
    | succ w => unfold pkC; rw [et]; split <;> first | rfl | (rename_i h1 h2; cases h2)
  refine ⟨en, pk_gn h hj, hu, rfl, e2 864, ?_, ?_, fun x => pk_nB j x 864 A h, g5⟩
  · show p_mo (pkA j 864 (pcA A j)) (p_m (pcA A j) + nI (pkC j 864 (pcA A j))) = pcA A j
    rw [e1, e2, show p_m (pcA A j) + nI 0 = p_m (pcA A j) from Int32.add_zero _]
    rfl
  · obtain ⟨s1, s2, s3, s4⟩ := gn_S g1 (show j < p_n (pkA j 864 A) by omega)
    have hp := w_pl g1 (show j < p_n (pkA j 864 A) by omega)
    show gn (pkA j 864 A) j = 0
    unfold gn
    by_cases h0 : nX (pkA j 864 A) j 2 = 0
    · rw [h0]; exact Nat.zero_sub _
    · have h1 : nX (pkA j 864 A) j 2 = 1 := by omega
      have h2 : 1 ≤ (nBu (pkA j 864 A) j + p_pl (pkA j 864 A) j - 1) / p_pl (pkA j 864 A) j := (Nat.le_div_iff_mul_le (by omega)).mpr (by omega)
      omega
theorem rp_ok (age : Int32) : ∀ (d i : Nat) (A : AS) (c : Nat), i + d = 12 → nA (fo (rpF age) d i (A, c)).1 = nA A ∧ nF (fo (rpF age) d i (A, c)).1 + c = nF A + (fo (rpF age) d i (A, c)).2 ∧ p_n (fo (rpF age) d i (A, c)).1 = p_n A := by
  intro d
  induction d with
  | zero => intro i A c _; exact ⟨rfl, rfl, rfl⟩
  | succ d ih =>
    intro i A c hi
    rw [fo]
    by_cases hc : p_o A i ≠ 0 ∧ p_b A i = 0 ∧ ¬ (p_t A - p_s A i < age)
    · rw [show rpF age (A, c) i = (p_free A i, c + 1) from if_pos hc]
      obtain ⟨g1, g2, g3⟩ := ih (i + 1) (p_free A i) (c + 1) (by omega)
      refine ⟨g1, ?_, g3⟩
      have := sm_1 (f := fun q => b1 (fr A q)) (g := fun q => b1 (fr (p_free A i) q)) (show i < 12 by omega) (fun q _ hq => by simp only [fr, show p_o (p_free A i) q = p_o A q from if_neg hq])
      have e1 : fr (p_free A i) i = true := by simp only [fr, show p_o (p_free A i) i = 0 from if_pos rfl]; rfl
      have e2 : fr A i = false := by simpa [fr] using hc.1
      simp only [e1, e2] at this
      have e3 : nF (p_free A i) = nF A + 1 := by unfold nF; simpa [b1] using this
      omega
    · rw [show rpF age (A, c) i = (A, c) from if_neg hc]
      exact ih (i + 1) A c (by omega)
theorem rp_all (hn : n < 512) : ∀ (d i : Nat) (A : AS) (c : Nat), i + d = 12 → WT n A → (∀ q, q < i → p_o A q ≠ 0 → p_b A q ≠ 0) → ∀ q, q < 12 → p_o (fo (rpF 0) d i (A, c)).1 q ≠ 0 → p_b (fo (rpF 0) d i (A, c)).1 q ≠ 0 := by
  intro d
  induction d with
  | zero =>
    intro i A c hi _ h q hq
    exact h q (by omega)
  | succ d ih =>
    intro i A c hi hw h
    rw [fo]
    by_cases hc : p_o A i ≠ 0 ∧ p_b A i = 0
    · obtain ⟨-, t, ht, et, hu⟩ := id hw
      obtain ⟨u, hu1, eu⟩ := hu i (by omega) hc.1 hc.2
      have h3 : ¬ (p_t A - p_s A i < 0) := by
        rw [et, eu, pk_sub hu1]
        exact nI_pos (by omega)
      rw [show rpF 0 (A, c) i = (p_free A i, c + 1) from if_pos ⟨hc.1, hc.2, h3⟩]
      refine ih (i + 1) (p_free A i) (c + 1) (by omega) (hw.free i) (fun q hq ho => ?_)
      by_cases e : q = i
      · exact absurd (show p_o (p_free A i) q = 0 from if_pos e) ho
      · rw [show p_o (p_free A i) q = p_o A q from if_neg e] at ho
        exact h q (by omega) ho
    · rw [show rpF 0 (A, c) i = (A, c) from if_neg (fun y => hc ⟨y.1, y.2.1⟩)]
      refine ih (i + 1) A c (by omega) hw (fun q hq ho => ?_)
      by_cases e : q = i
      · rw [e] at ho ⊢; exact fun y => hc ⟨ho, y⟩
      · exact h q (by omega) ho
theorem no_em {B : AS} (h : ∀ q, q < 12 → p_o B q ≠ 0 → p_b B q ≠ 0) (x : Nat) : nX B x 1 = 0 := by
  rw [nX_em]
  refine sm_zero (fun q hq => ?_)
  have : em B x q = false := by
    rw [← Bool.not_eq_true]
    intro he
    obtain ⟨h1, h2⟩ := em_ob he
    exact h q hq (by omega) h2
  rw [this]; rfl
/-! the advice -/
theorem adv_ok (A : AS) : ∀ (d i : Nat) (a : Option Nat), (∀ b, a = some b → b < i ∧ ∀ x, x < i → gn A x ≤ gn A b) → (a = none → i = 0) → (∀ b, fo (aF A) d i a = some b → b < i + d ∧ ∀ x, x < i + d → gn A x ≤ gn A b) ∧ (fo (aF A) d i a = none → i + d = 0) := by
  intro d
  induction d with
  | zero => intro i a h1 h2; exact ⟨h1, h2⟩
  | succ d ih =>
    intro i a h1 h2
    rw [fo, show i + (d + 1) = i + 1 + d by omega]
    refine ih (i + 1) _ (fun b hb => ?_) (fun hb => ?_)
    · cases a with
      | none =>
        have hb : some i = some b := hb
        cases hb
        have := h2 rfl
        exact ⟨by omega, fun x hx => by rw [show x = i by omega]; exact Nat.le_refl _⟩
      | some c =>
        obtain ⟨c1, c2⟩ := h1 c rfl
        have hb : (if gn A c < gn A i then some i else some c) = some b := hb
        by_cases hlt : gn A c < gn A i
        · rw [if_pos hlt] at hb
          cases hb
          refine ⟨by omega, fun x hx => ?_⟩
          by_cases e : x = i
          · rw [e]; exact Nat.le_refl _
          · have := c2 x (by omega); omega
        · rw [if_neg hlt] at hb
          cases hb
          refine ⟨by omega, fun x hx => ?_⟩
          by_cases e : x = i
          · rw [e]; omega
          · exact c2 x (by omega)
    · cases a with
      | none => cases hb
      | some c =>
        have hb : (if gn A c < gn A i then some i else some c) = none := hb
        split at hb <;> cases hb
end LP
