/-! put -/
section LP
variable {n : Nat} {A : AS} {k : KSt}
theorem KR.tp (hk : KR k A) : KR (kGs (kGs k 2 ((kG k 2) + (1 : Int32))) 3 ((kG (kGs k 2 ((kG k 2) + (1 : Int32))) 3) + (1 : Int32))) (p_tp A) := by
  obtain ⟨⟨g0, g1, g2, g3, g4, g5⟩, h2, h3⟩ := hk
  refine ⟨⟨g0, g1, ?_, ?_, g4, g5⟩, h2, h3⟩
  · show kG k 2 + 1 = p_t A + 1
    rw [g2]
  · show kG k 3 + 1 = p_p A + 1
    rw [g3]
theorem s_tail (h : WF n A) (hk : KR k A) {i : Nat} (hi : i < 12) (hp : pc (p_b A i) < p_ps A i) : ∃ k', tailC k i = some (.ok (nI (24 * i + p_rs A i + hq A i * p_zs A i), k')) ∧ KR k' (p_tp (p_set A i (p_b A i ||| 2 ^ hq A i) (-1))) := by
  obtain ⟨q1, q2, q3⟩ := hq_ok h hi hp
  have hps := w_ps h hi
  obtain ⟨k1, e1, e2, -, -⟩ := s_add hk hi (show hq A i < 12 by omega) q3
  refine ⟨_, ?_, e2.tp⟩
  unfold tailC
  rw [s_gap h hk hi, Option.bind_some, q1, show oI (some (hq A i)) = nI (hq A i) from rfl, e1, Option.bind_some, s_begin e2.tp hi]
  rfl
theorem rim_up (g r : Nat) : (g + 1) % (r + 1) = if r ≤ g % (r + 1) then 0 else g % (r + 1) + 1 := by
  have h1 := Nat.mod_lt g (show 0 < r + 1 by omega)
  rw [Nat.add_mod]
  by_cases hr : r = 0
  · subst hr
    have : g % (0 + 1) = 0 := by omega
    rw [if_pos (Nat.zero_le _)]
    exact Nat.mod_one _
  · rw [Nat.mod_eq_of_lt (show 1 < r + 1 by omega)]
    by_cases h2 : r ≤ g % (r + 1)
    · rw [if_pos h2, show g % (r + 1) = r by omega, Nat.mod_self]
    · rw [if_neg h2, Nat.mod_eq_of_lt (by omega)]
theorem WF.come (h : WF n A) {i j : Nat} (hj : j < p_n A) (h0 : p_o A i = 0) (hi : i < 12) : WF (n + 1) (p_come A i j) := by
  have hb := (w_fr h hi h0)
  refine ⟨h.1, fun x hx => ?_, fun x hx => ?_⟩
  · obtain ⟨q1, q2, q3⟩ := h.2.1 x hx
    refine ⟨q1, q2, ?_⟩
    show (if x = j then p_g A j + 1 else p_g A x) ≤ n + 1
    have := (h.2.1 j hj).2.2
    split <;> omega
  · obtain ⟨q1, q2, q3, q4, q5⟩ := h.2.2 x hx
    by_cases e : x = i
    · subst e
      have eo : p_o (p_come A x j) x = j + 1 := if_pos rfl
      have er : p_r (p_come A x j) x = p_g A j % (24 % p_z A j + 1) := if_pos rfl
      refine ⟨by rw [eo]; exact hj, fun z => by rw [eo] at z; omega, fun _ => ?_, ?_, q5⟩
      · rw [eo, er]
        show _ ≤ 24 % p_z A (j + 1 - 1)
        rw [Nat.add_sub_cancel]
        have := Nat.mod_lt (p_g A j) (show 0 < 24 % p_z A j + 1 by omega)
        omega
      · show p_b A x < _
        rw [hb.1]; exact Nat.two_pow_pos _
    · have eo : p_o (p_come A i j) x = p_o A x := if_neg e
      have er : p_r (p_come A i j) x = p_r A x := if_neg e
      have ep : p_ps (p_come A i j) x = p_ps A x := by unfold p_ps; rw [eo]; rfl
      rw [eo, er, ep]
      exact ⟨q1, q2, q3, q4, q5⟩
theorem s_come (h : WF n A) (hk : KR k A) {i j : Nat} (hn : n < 512) (hi : i < 12) (hj : j < p_n A) (h0 : p_o A i = 0) : ∃ k', R_X1_comeTo k i j = some k' ∧ KR k' (p_come A i j) := by
  obtain ⟨z1, z2⟩ := w_z h hj
  obtain ⟨g1, g2, g3, g4, g5⟩ := hk.2.1 j hj
  have hrest : 24 % p_z A j < 12 := by have := Nat.mod_lt 24 (show 0 < p_z A j by omega); omega
  have hq := Nat.mod_lt (p_g A j) (show 0 < 24 % p_z A j + 1 by omega)
  have hg := (h.2.1 j hj).2.2
  have up := rim_up (p_g A j) (24 % p_z A j)
  have key : ∀ k', (∀ f, kG k' f = kG k f) → kN k' = kN k → (∀ f x, kS k' f x = if f = 5 ∧ x = i then kK k 5 j else if f = 4 ∧ x = i then kK k 2 j else if f = 3 ∧ x = i then kK k 1 j else if f = 2 ∧ x = i then nI j else kS k f x) → (∀ x, kB k' x = kB k x) → (∀ f x, kK k' f x = if f = 5 ∧ x = j then nI ((p_g A j + 1) % (24 % p_z A j + 1)) else if f = 4 ∧ x = j then nI (p_g A j + 1) else kK k f x) → KR k' (p_come A i j) := by
    intro k' eG eN eS eB eK
    obtain ⟨⟨a0, a1, a2, a3, a4, a5⟩, b2, b3⟩ := hk
    refine ⟨⟨(eG 0).trans a0, (eG 1).trans a1, (eG 2).trans a2, (eG 3).trans a3, (eG 4).trans a4, eN.trans a5⟩, fun x hx => ?_, fun x hx => ?_⟩
    · obtain ⟨c1, c2, c3, c4, c5⟩ := b2 x hx
      have n1 : ¬ ((1 : Nat) = 5 ∧ x = j) := fun z => by omega
      refine ⟨?_, ?_, ?_, ?_, ?_⟩
      · rw [eK, if_neg (by omega), if_neg (by omega)]; exact c1
      · rw [eK, if_neg (by omega), if_neg (by omega)]; exact c2
      · rw [eK, if_neg (by omega), if_neg (by omega)]; exact c3
      · rw [eK, if_neg (by omega)]
        by_cases e : x = j
        · rw [if_pos ⟨rfl, e⟩, show p_g (p_come A i j) x = p_g A j + 1 from if_pos e]
        · rw [if_neg (fun z => e z.2), show p_g (p_come A i j) x = p_g A x from if_neg e]; exact c4
      · rw [eK]
        by_cases e : x = j
        · rw [if_pos ⟨rfl, e⟩, show p_g (p_come A i j) x = p_g A j + 1 from if_pos e, e]; rfl
        · rw [if_neg (fun z => e z.2), if_neg (fun z => e z.2), show p_g (p_come A i j) x = p_g A x from if_neg e]; exact c5
    · obtain ⟨c2, c3, c4, c5, c6, c7, c8⟩ := b3 x hx
      have s6 : kS k' 6 x = kS k 6 x := by rw [eS, if_neg (by omega), if_neg (by omega), if_neg (by omega), if_neg (by omega)]
      have s7 : kS k' 7 x = kS k 7 x := by rw [eS, if_neg (by omega), if_neg (by omega), if_neg (by omega), if_neg (by omega)]
      rw [s6, s7, eB]
      by_cases e : x = i
      · have eo : p_o (p_come A i j) x = j + 1 := if_pos e
        refine ⟨?_, ?_, ?_, ?_, c6, c7, c8⟩
        · rw [eS, if_neg (by omega), if_neg (by omega), if_neg (by omega), if_pos ⟨rfl, e⟩]
          unfold p_oI; rw [eo, if_neg (by omega)]; rfl
        · rw [eS, if_neg (by omega), if_neg (by omega), if_pos ⟨rfl, e⟩, g1]
          unfold p_zs; rw [eo, if_neg (by omega)]; rfl
        · rw [eS, if_neg (by omega), if_pos ⟨rfl, e⟩, g2]
          unfold p_ps; rw [eo, if_neg (by omega)]; rfl
        · rw [eS, if_pos ⟨rfl, e⟩, g5]
          unfold p_rs; rw [eo, if_neg (by omega)]
          exact congrArg nI (if_pos e).symm
      · have eo : p_o (p_come A i j) x = p_o A x := if_neg e
        refine ⟨?_, ?_, ?_, ?_, c6, c7, c8⟩
        · rw [eS, if_neg (fun z => e z.2), if_neg (fun z => e z.2), if_neg (fun z => e z.2), if_neg (fun z => e z.2), c2]
          unfold p_oI; rw [eo]
        · rw [eS, if_neg (fun z => e z.2), if_neg (fun z => e z.2), if_neg (fun z => e z.2), if_neg (fun z => e z.2), c3]
          unfold p_zs; rw [eo]; rfl
        · rw [eS, if_neg (fun z => e z.2), if_neg (fun z => e z.2), if_neg (fun z => e z.2), if_neg (fun z => e z.2), c4]
          unfold p_ps; rw [eo]; rfl
        · rw [eS, if_neg (fun z => e z.2), if_neg (fun z => e z.2), if_neg (fun z => e z.2), if_neg (fun z => e z.2), c5]
          unfold p_rs; rw [eo]
          show nI (if p_o A x = 0 then 0 else p_r A x) = nI (if p_o A x = 0 then 0 else (if x = i then _ else p_r A x))
          rw [if_neg e]
  have e0 : R_X1_comeTo k i j = (R_X0_countShelf (kSs (kSs (kSs (kSs k 2 i (nI j)) 3 i (kK k 1 j)) 4 i (kK k 2 j)) 5 i (kK k 5 j)) j).bind fun v => some v := rfl
  rw [e0]
  generalize hk1 : kSs (kSs (kSs (kSs k 2 i (nI j)) 3 i (kK k 1 j)) 4 i (kK k 2 j)) 5 i (kK k 5 j) = k1
  have e1G : ∀ f, kG k1 f = kG k f := fun f => by rw [← hk1]; rfl
  have e1N : kN k1 = kN k := by rw [← hk1]; rfl
  have e1S : ∀ f x, kS k1 f x = if f = 5 ∧ x = i then kK k 5 j else if f = 4 ∧ x = i then kK k 2 j else if f = 3 ∧ x = i then kK k 1 j else if f = 2 ∧ x = i then nI j else kS k f x := fun f x => by rw [← hk1]; rfl
  have e1B : ∀ x, kB k1 x = kB k x := fun x => by rw [← hk1]; rfl
  have e1K : ∀ f x, kK k1 f x = kK k f x := fun f x => by rw [← hk1]; rfl
  unfold R_X0_countShelf
  rw [e1K 4 j, g4, nI_1]
  generalize hk2 : kKs k1 4 j (nI (p_g A j + 1)) = k2
  have e2K : ∀ f x, kK k2 f x = if f = 4 ∧ x = j then nI (p_g A j + 1) else kK k f x := fun f x => by rw [← hk2, kK_Ks, e1K]
  have e23 : kK k2 3 j = nI (24 % p_z A j) := by rw [e2K, if_neg (by omega), g3]
  have e25 : kK k2 5 j = nI (p_g A j % (24 % p_z A j + 1)) := by rw [e2K, if_neg (by omega), g5]
  rw [e23, e25]
  have fin : ∀ v, v = nI ((p_g A j + 1) % (24 % p_z A j + 1)) → KR (kKs k2 5 j v) (p_come A i j) := by
    intro v hv
    refine key _ (fun f => ?_) ?_ (fun f x => ?_) (fun x => ?_) (fun f x => ?_)
    · rw [kG_Ks, ← hk2, kG_Ks, e1G]
    · rw [kN_Ks, ← hk2, kN_Ks, e1N]
    · rw [kS_Ks, ← hk2, kS_Ks, e1S]
    · rw [kB_Ks, ← hk2, kB_Ks, e1B]
    · rw [kK_Ks, e2K, hv]
  by_cases hle : 24 % p_z A j ≤ p_g A j % (24 % p_z A j + 1)
  · rw [if_pos (nI_le hle (by omega)), Option.bind_some]
    exact ⟨_, rfl, fin _ (by rw [up, if_pos hle]; rfl)⟩
  · rw [if_neg (nI_ge (by omega) (by omega)), Option.bind_some, nI_1]
    exact ⟨_, rfl, fin _ (by rw [up, if_neg hle])⟩
end LP
