/-! put -/
section LP
variable {n : Nat} {A : AS} {k : KSt} {m : MSt}
theorem KR.tp (hk : KR k A) : KR (kGs (kGs k 2 ((kG k 2) + (1 : Int32))) 3 ((kG (kGs k 2 ((kG k 2) + (1 : Int32))) 3) + (1 : Int32))) (p_tp A) := by
  obtain ⟨⟨g0, g1, g2, g3, g4, g5⟩, h2, h3⟩ := hk
  refine ⟨⟨g0, g1, ?_, ?_, g4, g5⟩, h2, h3⟩
  · show kG k 2 + 1 = p_t A + 1
    rw [g2]
  · show kG k 3 + 1 = p_p A + 1
    rw [g3]
theorem s_tail (h : WF n A) (hk : KR k A) {i : Nat} (hi : i < 12) (hp : pc (p_b A i) < p_ps A i) : ∃ k', tailC k i = some (.ok (nI (24 * i + p_rs A i + hq A i * p_zs A i), k')) ∧ KR k' (p_tp (p_set A i (p_b A i ||| 2 ^ hq A i) (-1))) := by
  obtain ⟨q1, q2, q3⟩ := hq_ok h hi hp
  have hps := w_ps h hi
  obtain ⟨k1, e1, e2, -, -⟩ := s_add hk hi (show hq A i < 12 by omega) q3
  refine ⟨_, ?_, e2.tp⟩
  unfold tailC
  rw [s_gap h hk hi, Option.bind_some, q1, show oI (some (hq A i)) = nI (hq A i) from rfl, e1, Option.bind_some, s_begin e2.tp hi]
  rfl
theorem t_tail (h : WF n A) (hm : MR m A) {i : Nat} (hi : i < 12) (h0 : p_o A i ≠ 0) (hp : pc (p_b A i) < p_ps A i) : ∃ m', tailP m (nI i) = some (nI (24 * i + p_rs A i + hq A i * p_zs A i), m') ∧ MR m' (p_tp (p_set A i (p_b A i ||| 2 ^ hq A i) (-1))) ∧ mF m' 0 = mF m 0 := by
  obtain ⟨q1, q2, q3⟩ := hq_ok h hi hp
  have hps := w_ps h hi
  have hB : WF n (p_tp (p_set A i (p_b A i ||| 2 ^ hq A i) (-1))) := by exact WF.set h (or_lt (w_b h hi) q2) (fun _ => rfl) h0
  unfold tailP
  rw [t_hole h hm hi h0, Option.bind_some, q1, show oI (some (hq A i)) = nI (hq A i) from rfl, if_pos (nI_inb hi), if_pos (nI_inb hi), if_pos (nI_inb hi), nI_cl hi, (hm.2.2.2 i hi).2.2.1, nI_bit (show hq A i < 12 by omega), nI_or]
  generalize hm1 : mAs m 4 (upd (mA m 4) i (nI (p_b A i ||| 2 ^ hq A i))) = m1
  generalize hm2 : mAs m1 5 (upd (mA m1 5) i (-1 : Int32)) = m2
  generalize hm3 : mFs m2 1 (mF m2 1 + 1) = m3
  generalize hm4 : mFs m3 3 (mF m3 3 + 1) = m4
  have f2 : ∀ y, mF m2 y = mF m y := fun y => by rw [← hm2, mF_As, ← hm1, mF_As]
  have f3 : ∀ y, mF m3 y = if y = 1 then mF m 1 + 1 else mF m y := fun y => by rw [← hm3, mF_Fs, f2, f2]
  have f4 : ∀ y, mF m4 y = if y = 3 then mF m 3 + 1 else if y = 1 then mF m 1 + 1 else mF m y := fun y => by rw [← hm4, mF_Fs, f3, f3, if_neg (show ¬ (3 : Nat) = 1 by omega)]
  have a4 : ∀ y, mA m4 y = mA m2 y := fun y => by rw [← hm4, mA_Fs, ← hm3, mA_Fs]
  have hM : MR m4 (p_tp (p_set A i (p_b A i ||| 2 ^ hq A i) (-1))) := by
    obtain ⟨⟨e5, e1, e2, e3, e4⟩, e6, e7, e8⟩ := hm
    have ao : ∀ y, y ≠ 4 → y ≠ 5 → mA m4 y = mA m y := fun y h4 h5 => by rw [a4, ← hm2, mA_As, if_neg h5, ← hm1, mA_As, if_neg h4]
    refine ⟨⟨?_, ?_, ?_, ?_, ?_⟩, fun j hj => ?_, fun j j1 j2 => ?_, fun x hx => ?_⟩
    · rw [f4, if_neg (by omega), if_neg (by omega)]; exact e5
    · rw [f4, if_neg (by omega), if_pos rfl, e1]; rfl
    · rw [f4, if_neg (by omega), if_neg (by omega)]; exact e2
    · rw [f4, if_pos rfl, e3]; rfl
    · rw [f4, if_neg (by omega), if_neg (by omega)]; exact e4
    · rw [ao 0 (by omega) (by omega), ao 1 (by omega) (by omega)]; exact e6 j hj
    · rw [ao 1 (by omega) (by omega)]; exact e7 j j1 j2
    · obtain ⟨b1, b2, b3, b4⟩ := e8 x hx
      refine ⟨by rw [ao 2 (by omega) (by omega)]; exact b1, by rw [ao 3 (by omega) (by omega)]; exact b2, ?_, ?_⟩
      · show mA m4 4 x = nI (if x = i then p_b A i ||| 2 ^ hq A i else p_b A x)
        rw [a4, ← hm2, mA_As, if_neg (by omega), ← hm1, mA_As, if_pos rfl]
        unfold upd
        by_cases e : x = i
        · rw [if_pos e, if_pos e]
        · rw [if_neg e, if_neg e]; exact b3
      · show mA m4 5 x = (if x = i then (-1 : Int32) else p_s A x)
        rw [a4, ← hm2, mA_As, if_pos rfl]
        unfold upd
        by_cases e : x = i
        · rw [if_pos e, if_pos e]
        · rw [if_neg e, if_neg e, ← hm1, mA_As, if_neg (by omega)]; exact b4
  rw [t_spotOf hB hM hi h0, Option.bind_some]
  exact ⟨m4, rfl, hM, by rw [f4, if_neg (by omega), if_neg (by omega)]⟩
theorem rim_up (g r : Nat) : (g + 1) % (r + 1) = if r ≤ g % (r + 1) then 0 else g % (r + 1) + 1 := by
  have h1 := Nat.mod_lt g (show 0 < r + 1 by omega)
  rw [Nat.add_mod]
  by_cases hr : r = 0
  · subst hr
    have : g % (0 + 1) = 0 := by omega
    rw [if_pos (Nat.zero_le _)]
    exact Nat.mod_one _
  · rw [Nat.mod_eq_of_lt (show 1 < r + 1 by omega)]
    by_cases h2 : r ≤ g % (r + 1)
    · rw [if_pos h2, show g % (r + 1) = r by omega, Nat.mod_self]
    · rw [if_neg h2, Nat.mod_eq_of_lt (by omega)]
theorem WF.come (h : WF n A) {i j : Nat} (hj : j < p_n A) (h0 : p_o A i = 0) (hi : i < 12) : WF (n + 1) (p_come A i j) := by
  have hb := (w_fr h hi h0)
  refine ⟨h.1, fun x hx => ?_, fun x hx => ?_⟩
  · obtain ⟨q1, q2, q3⟩ := h.2.1 x hx
    refine ⟨q1, q2, ?_⟩
    show (if x = j then p_g A j + 1 else p_g A x) ≤ n + 1
    have := (h.2.1 j hj).2.2
    split <;> omega
  · obtain ⟨q1, q2, q3, q4, q5⟩ := h.2.2 x hx
    by_cases e : x = i
    · subst e
      have eo : p_o (p_come A x j) x = j + 1 := if_pos rfl
      have er : p_r (p_come A x j) x = p_g A j % (24 % p_z A j + 1) := if_pos rfl
      refine ⟨by rw [eo]; exact hj, fun z => by rw [eo] at z; omega, fun _ => ?_, ?_, q5⟩
      · rw [eo, er]
        show _ ≤ 24 % p_z A (j + 1 - 1)
        rw [Nat.add_sub_cancel]
        have := Nat.mod_lt (p_g A j) (show 0 < 24 % p_z A j + 1 by omega)
        omega
      · show p_b A x < _
        rw [hb.1]; exact Nat.two_pow_pos _
    · have eo : p_o (p_come A i j) x = p_o A x := if_neg e
      have er : p_r (p_come A i j) x = p_r A x := if_neg e
      have ep : p_ps (p_come A i j) x = p_ps A x := by unfold p_ps; rw [eo]; rfl
      rw [eo, er, ep]
      exact ⟨q1, q2, q3, q4, q5⟩
theorem s_come (h : WF n A) (hk : KR k A) {i j : Nat} (hn : n < 512) (hi : i < 12) (hj : j < p_n A) (h0 : p_o A i = 0) : ∃ k', R_X1_comeTo k i j = some k' ∧ KR k' (p_come A i j) := by
  obtain ⟨z1, z2⟩ := w_z h hj
  obtain ⟨g1, g2, g3, g4, g5⟩ := hk.2.1 j hj
  have hrest : 24 % p_z A j < 12 := by have := Nat.mod_lt 24 (show 0 < p_z A j by omega); omega
  have hq := Nat.mod_lt (p_g A j) (show 0 < 24 % p_z A j + 1 by omega)
  have hg := (h.2.1 j hj).2.2
  have up := rim_up (p_g A j) (24 % p_z A j)
  have key : ∀ k', (∀ f, kG k' f = kG k f) → kN k' = kN k → (∀ f x, kS k' f x = if f = 5 ∧ x = i then kK k 5 j else if f = 4 ∧ x = i then kK k 2 j else if f = 3 ∧ x = i then kK k 1 j else if f = 2 ∧ x = i then nI j else kS k f x) → (∀ x, kB k' x = kB k x) → (∀ f x, kK k' f x = if f = 5 ∧ x = j then nI ((p_g A j + 1) % (24 % p_z A j + 1)) else if f = 4 ∧ x = j then nI (p_g A j + 1) else kK k f x) → KR k' (p_come A i j) := by
    intro k' eG eN eS eB eK
    obtain ⟨⟨a0, a1, a2, a3, a4, a5⟩, b2, b3⟩ := hk
    refine ⟨⟨(eG 0).trans a0, (eG 1).trans a1, (eG 2).trans a2, (eG 3).trans a3, (eG 4).trans a4, eN.trans a5⟩, fun x hx => ?_, fun x hx => ?_⟩
    · obtain ⟨c1, c2, c3, c4, c5⟩ := b2 x hx
      have n1 : ¬ ((1 : Nat) = 5 ∧ x = j) := fun z => by omega
      refine ⟨?_, ?_, ?_, ?_, ?_⟩
      · rw [eK, if_neg (by omega), if_neg (by omega)]; exact c1
      · rw [eK, if_neg (by omega), if_neg (by omega)]; exact c2
      · rw [eK, if_neg (by omega), if_neg (by omega)]; exact c3
      · rw [eK, if_neg (by omega)]
        by_cases e : x = j
        · rw [if_pos ⟨rfl, e⟩, show p_g (p_come A i j) x = p_g A j + 1 from if_pos e]
        · rw [if_neg (fun z => e z.2), show p_g (p_come A i j) x = p_g A x from if_neg e]; exact c4
      · rw [eK]
        by_cases e : x = j
        · rw [if_pos ⟨rfl, e⟩, show p_g (p_come A i j) x = p_g A j + 1 from if_pos e, e]; rfl
        · rw [if_neg (fun z => e z.2), if_neg (fun z => e z.2), show p_g (p_come A i j) x = p_g A x from if_neg e]; exact c5
    · obtain ⟨c2, c3, c4, c5, c6, c7, c8⟩ := b3 x hx
      have s6 : kS k' 6 x = kS k 6 x := by rw [eS, if_neg (by omega), if_neg (by omega), if_neg (by omega), if_neg (by omega)]
      have s7 : kS k' 7 x = kS k 7 x := by rw [eS, if_neg (by omega), if_neg (by omega), if_neg (by omega), if_neg (by omega)]
      rw [s6, s7, eB]
      by_cases e : x = i
      · have eo : p_o (p_come A i j) x = j + 1 := if_pos e
        refine ⟨?_, ?_, ?_, ?_, c6, c7, c8⟩
        · rw [eS, if_neg (by omega), if_neg (by omega), if_neg (by omega), if_pos ⟨rfl, e⟩]
          unfold p_oI; rw [eo, if_neg (by omega)]; rfl
        · rw [eS, if_neg (by omega), if_neg (by omega), if_pos ⟨rfl, e⟩, g1]
          unfold p_zs; rw [eo, if_neg (by omega)]; rfl
        · rw [eS, if_neg (by omega), if_pos ⟨rfl, e⟩, g2]
          unfold p_ps; rw [eo, if_neg (by omega)]; rfl
        · rw [eS, if_pos ⟨rfl, e⟩, g5]
          unfold p_rs; rw [eo, if_neg (by omega)]
          exact congrArg nI (if_pos e).symm
      · have eo : p_o (p_come A i j) x = p_o A x := if_neg e
        refine ⟨?_, ?_, ?_, ?_, c6, c7, c8⟩
        · rw [eS, if_neg (fun z => e z.2), if_neg (fun z => e z.2), if_neg (fun z => e z.2), if_neg (fun z => e z.2), c2]
          unfold p_oI; rw [eo]
        · rw [eS, if_neg (fun z => e z.2), if_neg (fun z => e z.2), if_neg (fun z => e z.2), if_neg (fun z => e z.2), c3]
          unfold p_zs; rw [eo]; rfl
        · rw [eS, if_neg (fun z => e z.2), if_neg (fun z => e z.2), if_neg (fun z => e z.2), if_neg (fun z => e z.2), c4]
          unfold p_ps; rw [eo]; rfl
        · rw [eS, if_neg (fun z => e z.2), if_neg (fun z => e z.2), if_neg (fun z => e z.2), if_neg (fun z => e z.2), c5]
          unfold p_rs; rw [eo]
          show nI (if p_o A x = 0 then 0 else p_r A x) = nI (if p_o A x = 0 then 0 else (if x = i then _ else p_r A x))
          rw [if_neg e]
  have e0 : R_X1_comeTo k i j = (R_X0_countShelf (kSs (kSs (kSs (kSs k 2 i (nI j)) 3 i (kK k 1 j)) 4 i (kK k 2 j)) 5 i (kK k 5 j)) j).bind fun v => some v := rfl
  rw [e0]
  generalize hk1 : kSs (kSs (kSs (kSs k 2 i (nI j)) 3 i (kK k 1 j)) 4 i (kK k 2 j)) 5 i (kK k 5 j) = k1
  have e1G : ∀ f, kG k1 f = kG k f := fun f => by rw [← hk1]; rfl
  have e1N : kN k1 = kN k := by rw [← hk1]; rfl
  have e1S : ∀ f x, kS k1 f x = if f = 5 ∧ x = i then kK k 5 j else if f = 4 ∧ x = i then kK k 2 j else if f = 3 ∧ x = i then kK k 1 j else if f = 2 ∧ x = i then nI j else kS k f x := fun f x => by rw [← hk1]; rfl
  have e1B : ∀ x, kB k1 x = kB k x := fun x => by rw [← hk1]; rfl
  have e1K : ∀ f x, kK k1 f x = kK k f x := fun f x => by rw [← hk1]; rfl
  unfold R_X0_countShelf
  rw [e1K 4 j, g4, nI_1]
  generalize hk2 : kKs k1 4 j (nI (p_g A j + 1)) = k2
  have e2K : ∀ f x, kK k2 f x = if f = 4 ∧ x = j then nI (p_g A j + 1) else kK k f x := fun f x => by rw [← hk2, kK_Ks, e1K]
  have e23 : kK k2 3 j = nI (24 % p_z A j) := by rw [e2K, if_neg (by omega), g3]
  have e25 : kK k2 5 j = nI (p_g A j % (24 % p_z A j + 1)) := by rw [e2K, if_neg (by omega), g5]
  rw [e23, e25]
  have fin : ∀ v, v = nI ((p_g A j + 1) % (24 % p_z A j + 1)) → KR (kKs k2 5 j v) (p_come A i j) := by
    intro v hv
    refine key _ (fun f => ?_) ?_ (fun f x => ?_) (fun x => ?_) (fun f x => ?_)
    · rw [kG_Ks, ← hk2, kG_Ks, e1G]
    · rw [kN_Ks, ← hk2, kN_Ks, e1N]
    · rw [kS_Ks, ← hk2, kS_Ks, e1S]
    · rw [kB_Ks, ← hk2, kB_Ks, e1B]
    · rw [kK_Ks, e2K, hv]
  by_cases hle : 24 % p_z A j ≤ p_g A j % (24 % p_z A j + 1)
  · rw [if_pos (nI_le hle (by omega)), Option.bind_some]
    exact ⟨_, rfl, fin _ (by rw [up, if_pos hle]; rfl)⟩
  · rw [if_neg (nI_ge (by omega) (by omega)), Option.bind_some, nI_1]
    exact ⟨_, rfl, fin _ (by rw [up, if_neg hle])⟩
theorem t_own (h : WF n A) (hm : MR m A) {i j : Nat} (hn : n < 512) (hi : i < 12) (hj : j < p_n A) : ∃ m', R_X3_own m (nI i) (nI j) = some m' ∧ MR m' (p_come A i j) ∧ mF m' 0 = mF m 0 := by
  have h5 := h.1
  obtain ⟨z1, z2⟩ := w_z h hj
  have hg := (h.2.1 j hj).2.2
  have hrest : 24 % p_z A j < 12 := by have := Nat.mod_lt 24 (show 0 < p_z A j by omega); omega
  unfold R_X3_own
  rw [if_pos (nI_inb hi), nI_cl hi, cl (show j < 2 ^ 31 by omega)]
  generalize hm1 : mAs m 2 (upd (mA m 2) i (nI j)) = m1
  have a1 : ∀ y, y ≠ 2 → mA m1 y = mA m y := fun y hy => by rw [← hm1, mA_As, if_neg hy]
  have a2 : mA m1 2 = upd (mA m 2) i (nI j) := by rw [← hm1, mA_As, if_pos rfl]
  have en : R_X3_nextRim m1 (nI j) = some (nI (p_g A j % (24 % p_z A j + 1))) := by
    have := t_nextRim h hm (by omega) hj
    unfold R_X3_nextRim R_X3_rest at this ⊢
    rw [a1 0 (by omega), a1 1 (by omega)]
    exact this
  rw [en, Option.bind_some, if_pos (nI_inb hi), if_pos (inb_nI (by omega) (by omega)), if_pos (inb_nI (by omega) (by omega))]
  generalize hm2 : mAs m1 3 (upd (mA m1 3) i (nI (p_g A j % (24 % p_z A j + 1)))) = m2
  have b1 : ∀ y, y ≠ 3 → mA m2 y = mA m1 y := fun y hy => by rw [← hm2, mA_As, if_neg hy]
  have b3 : mA m2 3 = upd (mA m1 3) i (nI (p_g A j % (24 % p_z A j + 1))) := by rw [← hm2, mA_As, if_pos rfl]
  have e21 : mA m2 1 j + 1 = nI (p_g A j + 1) := by rw [b1 1 (by omega), a1 1 (by omega), (hm.2.1 j hj).2, nI_1]
  rw [e21]
  refine ⟨_, rfl, ?_, by rw [mF_As, ← hm2, mF_As, ← hm1, mF_As]⟩
  generalize hm3 : mAs m2 1 (upd (mA m2 1) j (nI (p_g A j + 1))) = m3
  have c1 : ∀ y, y ≠ 1 → mA m3 y = mA m2 y := fun y hy => by rw [← hm3, mA_As, if_neg hy]
  have c0 : mA m3 1 = upd (mA m2 1) j (nI (p_g A j + 1)) := by rw [← hm3, mA_As, if_pos rfl]
  have cF : ∀ y, mF m3 y = mF m y := fun y => by rw [← hm3, mF_As, ← hm2, mF_As, ← hm1, mF_As]
  obtain ⟨⟨e5, e1, e2, e3, e4⟩, e6, e7, e8⟩ := hm
  refine ⟨⟨(cF 5).trans e5, (cF 1).trans e1, (cF 2).trans e2, (cF 3).trans e3, (cF 4).trans e4⟩, fun x hx => ?_, fun x x1 x2 => ?_, fun x hx => ?_⟩
  · refine ⟨by rw [c1 0 (by omega), b1 0 (by omega), a1 0 (by omega)]; exact (e6 x hx).1, ?_⟩
    rw [c0]
    unfold upd
    show _ = nI (if x = j then p_g A j + 1 else p_g A x)
    by_cases e : x = j
    · rw [if_pos e, if_pos e]
    · rw [if_neg e, if_neg e, b1 1 (by omega), a1 1 (by omega)]; exact (e6 x hx).2
  · rw [c0]
    unfold upd
    have x1 : p_n A ≤ x := x1
    rw [if_neg (by omega), b1 1 (by omega), a1 1 (by omega)]
    exact e7 x x1 x2
  · obtain ⟨q1, q2, q3, q4⟩ := e8 x hx
    refine ⟨?_, fun z => ?_, by rw [c1 4 (by omega), b1 4 (by omega), a1 4 (by omega)]; exact q3, by rw [c1 5 (by omega), b1 5 (by omega), a1 5 (by omega)]; exact q4⟩
    · rw [c1 2 (by omega), b1 2 (by omega), a2]
      unfold upd
      by_cases e : x = i
      · rw [if_pos e]
        unfold p_oI
        rw [show p_o (p_come A i j) x = j + 1 from if_pos e, if_neg (by omega)]
        rfl
      · rw [if_neg e, q1]
        unfold p_oI
        rw [show p_o (p_come A i j) x = p_o A x from if_neg e]
    · rw [c1 3 (by omega), b3]
      unfold upd
      show _ = nI (if x = i then p_g A j % (24 % p_z A j + 1) else p_r A x)
      by_cases e : x = i
      · rw [if_pos e, if_pos e]
      · rw [if_neg e, if_neg e, a1 3 (by omega)]
        exact q2 (by rw [show p_o (p_come A i j) x = p_o A x from if_neg e] at z; exact z)
theorem y_put (hn : n < 512) (h : WF n A) (hk : KR k A) (hm : MR m A) (p : Int32) : Agree Rel0 n k cdIOIS [exIO, exIS] (R_X2_put k p) (R_X3_put m p) := by
  have hm0 := hm.f0 0
  rcases kd_cases h hk hm0 p with ⟨j, hj, rfl, c1, c2⟩ | ⟨c1, c2⟩
  · have hkn : j < kN k := by rw [hk.kn]; exact hj
    have cl0 : ∀ r, (Option.elim (toP A j) (some (.error exIS)) (fun j13 => if j13 < 12 then (R_X1_state k j13).bind fun v27 => if ¬ v27 = 0 then tailC k j13 else (R_X1_comeTo k j13 j).bind fun v35 => tailC v35 j13 else none)) = some r → R_X2_put k (nI j) = some r := by
      intro r hr
      rw [put_eq, c1]
      show (if j < kN k then _ else none) = _
      rw [if_pos hkn, s_toPut h hk hj, Option.bind_some]
      exact hr
    have rf0 : ∀ r, (if ¬ oI (toP A j) = (-1 : Int32) then (R_X3_placed (mFs m 0 (0 : Int32)) (nI j) (oI (toP A j))).bind fun v41 => some (v41.1, v41.2) else (R_X3_no (mFs m 0 (0 : Int32)) (2 : Int32)).bind fun v32 => some (v32.1, v32.2)) = some r → R_X3_put m (nI j) = some r := by
      intro r hr
      unfold R_X3_put
      rw [c2, Option.bind_some, if_pos (by decide), t_toPut h hm0 hj, Option.bind_some]
      exact hr
    cases e : toP A j with
    | none =>
      rw [e] at cl0 rf0
      exact aw_er h hk (hm0.f0 2) (cl0 _ rfl) (by decide) (rf0 (0, mFs (mFs m 0 0) 0 2) (by rw [if_neg (fun z => z rfl)]; rfl)) (by rfl) (by decide)
    | some i =>
      obtain ⟨hi, ho⟩ := toP_ok h e
      rw [e] at cl0 rf0
      have rf1 : ∀ r, R_X3_placed (mFs m 0 (0 : Int32)) (nI j) (nI i) = some r → R_X3_put m (nI j) = some r := by
        intro r hr
        refine rf0 r ?_
        rw [if_pos (show ¬ oI (some i) = -1 from nI_m1 (by omega)), show oI (some i) = nI i from rfl, hr]
        rfl
      have cl1 : ∀ r, ((R_X1_state k i).bind fun v27 => if ¬ v27 = 0 then tailC k i else (R_X1_comeTo k i j).bind fun v35 => tailC v35 i) = some r → R_X2_put k (nI j) = some r := by
        intro r hr
        refine cl0 r ?_
        show (if i < 12 then _ else none) = _
        rw [if_pos hi]
        exact hr
      rw [s_state h hk hi, Option.bind_some] at cl1
      rw [placed_eq, t_isFree h hm0 hi, Option.bind_some] at rf1
      by_cases h0 : p_o A i = 0
      · have hst : stN A i = 0 := by unfold stN; rw [if_pos h0]
        have hb := w_fr h hi h0
        have hw := h.come (j := j) hj h0 hi
        have hpl := (w_pl h hj).1
        have eo : p_o (p_come A i j) i = j + 1 := if_pos rfl
        have hp : pc (p_b (p_come A i j) i) < p_ps (p_come A i j) i := by
          have e1 : p_ps (p_come A i j) i = p_pl A j := by unfold p_ps; rw [eo, if_neg (by omega)]; rfl
          rw [e1]
          show pc (p_b A i) < _
          rw [hb.1, show pc 0 = 0 from by decide +kernel]
          omega
        obtain ⟨k1, s1, s2⟩ := s_come h hk hn hi hj h0
        obtain ⟨k2, s3, s4⟩ := s_tail hw s2 hi hp
        obtain ⟨m1, r1, r2, r3⟩ := t_own h hm0 hn hi hj
        obtain ⟨m2, r4, r5, r6⟩ := t_tail hw r2 hi (by rw [eo]; omega) hp
        rw [if_neg (fun z => z (by rw [hst]; rfl)), s1, Option.bind_some, s3] at cl1
        rw [if_neg (b1_t (by simp [fr, h0])), r1, Option.bind_some, r4] at rf1
        have hB : WF (n + 1) (p_tp (p_set (p_come A i j) i (p_b (p_come A i j) i ||| 2 ^ hq (p_come A i j) i) (-1))) := by
          exact WF.set hw (or_lt (w_b hw hi) (hq_ok hw hi hp).2.1) (fun _ => rfl) (by rw [eo]; omega)
        exact aw_ok hB s4 r5 (cl1 _ rfl) (rf1 _ rfl) (by rw [r6, r3]; rfl)
      · have hst : ¬ stN A i = 0 := fun q => h0 (by have := fr_st.mpr q; simpa [fr] using this)
        have hp := (ho.resolve_left h0).2
        obtain ⟨k2, s3, s4⟩ := s_tail h hk hi hp
        obtain ⟨m2, r4, r5, r6⟩ := t_tail h hm0 hi h0 hp
        rw [if_pos (show ¬ nI (stN A i) = 0 from fun q => hst ((st_I (x := 0) (by omega)).mp q)), s3] at cl1
        rw [if_pos (b1_f (by simp [fr, h0])), r4] at rf1
        have hB : WF (n + 1) (p_tp (p_set A i (p_b A i ||| 2 ^ hq A i) (-1))) := by
          exact WF.up (WF.set h (or_lt (w_b h hi) (hq_ok h hi hp).2.1) (fun _ => rfl) h0)
        exact aw_ok hB s4 r5 (cl1 _ rfl) (rf1 _ rfl) (by rw [r6]; rfl)
  · refine aw_er h hk (hm0.f0 1) (E := exIO) (rb := 0) ?_ (by decide) ?_ (by rfl) (by decide)
    · unfold R_X2_put; rw [c1]; rfl
    · unfold R_X3_put; rw [c2]; rfl
end LP
