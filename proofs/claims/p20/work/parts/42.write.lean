/-! the calls that write -/
def tailC (k : KSt) (j13 : Nat) : Option (Except String (Int32 × KSt)) := (R_X1_firstGap k j13).bind fun v39 => (R_X1_addBowl k j13 v39).bind fun v47 => (R_X1_beginOf (kGs (kGs v47 2 ((kG v47 2) + (1 : Int32))) 3 ((kG (kGs v47 2 ((kG v47 2) + (1 : Int32))) 3) + (1 : Int32))) j13 v39).bind fun v73 => some (.ok (v73, (kGs (kGs v47 2 ((kG v47 2) + (1 : Int32))) 3 ((kG (kGs v47 2 ((kG v47 2) + (1 : Int32))) 3) + (1 : Int32)))))
theorem put_eq (k : KSt) (p1 : Int32) : R_X2_put k p1 = xb (R_X2_kindOf k p1) fun v2 => if v2 < kN k then (R_X2_shelfToPut k v2).bind fun v8 => Option.elim v8 (some (.error exIS)) (fun j13 => if j13 < 12 then (R_X1_state k j13).bind fun v27 => if ¬ v27 = 0 then tailC k j13 else (R_X1_comeTo k j13 v2).bind fun v35 => tailC v35 j13 else none) else none := rfl

def p_wy (A : AS) (v : Int32) : AS := ((p_n A, v, p_t A, p_p A, p_m A), A.2)
def p_mo (A : AS) (v : Int32) : AS := ((p_n A, p_w A, p_t A, p_p A, v), A.2)
def p_tp (A : AS) : AS := ((p_n A, p_w A, p_t A + 1, p_p A + 1, p_m A), A.2)
def p_kd (A : AS) (z : Nat) : AS := ((p_n A + 1, p_w A, p_t A, p_p A, p_m A), (fun j => if j = p_n A then z else p_z A j), (fun j => if j = p_n A then 0 else p_g A j), A.2.2.2)
def p_free (A : AS) (i : Nat) : AS := (A.1, A.2.1, A.2.2.1, (fun x => if x = i then 0 else p_o A x), A.2.2.2.2.1, A.2.2.2.2.2.1, fun x => if x = i then -1 else p_s A x)
def p_come (A : AS) (i j : Nat) : AS := (A.1, A.2.1, (fun x => if x = j then p_g A j + 1 else p_g A x), (fun x => if x = i then j + 1 else p_o A x), (fun x => if x = i then p_g A j % (24 % p_z A j + 1) else p_r A x), A.2.2.2.2.2.1, A.2.2.2.2.2.2)
section LP
variable {n : Nat} {A : AS} {k : KSt}
theorem KR.kd (h : WF n A) (hk : KR k A) {z : Nat} (hz : 2 ≤ z ∧ z ≤ 12) : KR (kGs (mkK k (nI z)) 0 (kG k 0 + 1)) (p_kd A z) := by
  obtain ⟨⟨g0, g1, g2, g3, g4, g5⟩, h2, h3⟩ := hk
  refine ⟨⟨?_, g1, g2, g3, g4, by show kN k + 1 = p_n A + 1; rw [g5]⟩, fun j hj => ?_, fun i hi => ?_⟩
  · show kG k 0 + 1 = nI (p_n A + 1)
    rw [g0, nI_1]
  · have hj : j < p_n A + 1 := hj
    by_cases e : j = kN k
    · have e2 : j = p_n A := e.trans g5
      have ez : p_z (p_kd A z) j = z := if_pos e2
      have eg : p_g (p_kd A z) j = 0 := if_pos e2
      have ek : ∀ f, kK (kGs (mkK k (nI z)) 0 (kG k 0 + 1)) f j = if f = 1 then nI z else if f = 2 then 24 / nI z else if f = 3 then 24 - 24 / nI z * nI z else 0 := fun f => if_pos e
      unfold p_pl
      rw [ez, eg, ek, ek, ek, ek, ek]
      refine ⟨rfl, ?_, ?_, rfl, ?_⟩
      · show (24 : Int32) / nI z = _
        exact pk_div (a := 24) (by omega) (by omega) (by omega)
      · show (24 : Int32) - 24 / nI z * nI z = _
        exact pk_rem (a := 24) (by omega) (by omega) (by omega)
      · rw [Nat.zero_mod]; rfl
    · have e2 : ¬ j = p_n A := fun q => e (q.trans g5.symm)
      have ez : p_z (p_kd A z) j = p_z A j := if_neg e2
      have eg : p_g (p_kd A z) j = p_g A j := if_neg e2
      have ek : ∀ f, kK (kGs (mkK k (nI z)) 0 (kG k 0 + 1)) f j = kK k f j := fun f => if_neg e
      have := h2 j (by omega)
      unfold p_pl at this ⊢
      rw [ez, eg, ek, ek, ek, ek, ek]
      exact this
  · have h1 := w_o h hi
    have ez : p_zs (p_kd A z) i = p_zs A i := by
      show (if p_o A i = 0 then 0 else p_z (p_kd A z) (p_o A i - 1)) = _
      unfold p_zs
      by_cases h0 : p_o A i = 0
      · rw [if_pos h0, if_pos h0]
      · rw [if_neg h0, if_neg h0]; exact if_neg (by omega)
    have ep : p_ps (p_kd A z) i = p_ps A i := by
      show (if p_o A i = 0 then 0 else 24 / p_z (p_kd A z) (p_o A i - 1)) = _
      unfold p_ps p_pl
      by_cases h0 : p_o A i = 0
      · rw [if_pos h0, if_pos h0]
      · rw [if_neg h0, if_neg h0]; exact congrArg (24 / ·) (if_neg (by omega))
    have := h3 i hi
    rw [← ez, ← ep] at this
    exact this
/-! reap -/
def rpF (age : Int32) (s : AS × Nat) (i : Nat) : AS × Nat := if p_o s.1 i ≠ 0 ∧ p_b s.1 i = 0 ∧ ¬ (p_t s.1 - p_s s.1 i < age) then (p_free s.1 i, s.2 + 1) else s
theorem fr_sh (A : AS) (i x : Nat) : p_o (p_free A i) x = if x = i then 0 else p_o A x := rfl
theorem WF.free (h : WF n A) {i : Nat} (h0 : p_b A i = 0) : WF n (p_free A i) := by
  refine ⟨h.1, h.2.1, fun x hx => ?_⟩
  obtain ⟨q1, q2, q3, q4, q5⟩ := h.2.2 x hx
  by_cases e : x = i
  · subst e
    have eo : p_o (p_free A x) x = 0 := if_pos rfl
    have es : p_s (p_free A x) x = -1 := if_pos rfl
    refine ⟨by rw [eo]; exact Nat.zero_le _, fun _ => ⟨h0, es⟩, fun z => absurd eo z, ?_, fun _ => es⟩
    show p_b A x < _
    rw [h0]; exact Nat.two_pow_pos _
  · have eo : p_o (p_free A i) x = p_o A x := if_neg e
    have es : p_s (p_free A i) x = p_s A x := if_neg e
    have ep : p_ps (p_free A i) x = p_ps A x := by unfold p_ps; rw [eo]; rfl
    rw [eo, es, ep]
    exact ⟨q1, q2, q3, q4, q5⟩
theorem KR.free (hk : KR k A) {i : Nat} : KR (kSs (kSs (kSs (kSs (kSs k 2 i (-1 : Int32)) 3 i (0 : Int32)) 4 i (0 : Int32)) 5 i (0 : Int32)) 7 i (-1 : Int32)) (p_free A i) := by
  refine ⟨hk.1, hk.2.1, fun x hx => ?_⟩
  obtain ⟨g2, g3, g4, g5, g6, g7, g8⟩ := hk.2.2 x hx
  by_cases e : x = i
  · subst e
    have eo : p_o (p_free A x) x = 0 := if_pos rfl
    have e1 : p_oI (p_free A x) x = -1 := if_pos eo
    have e2 : p_zs (p_free A x) x = 0 := if_pos eo
    have e3 : p_ps (p_free A x) x = 0 := if_pos eo
    have e4 : p_rs (p_free A x) x = 0 := if_pos eo
    have e5 : p_s (p_free A x) x = -1 := if_pos rfl
    rw [e1, e2, e3, e4, e5]
    simp only [kS_Ss, kB_Ss]
    exact ⟨by simp, by simp; rfl, by simp; rfl, by simp; rfl, by simp; exact g6, by simp, g8⟩
  · have eo : p_o (p_free A i) x = p_o A x := if_neg e
    have e1 : p_oI (p_free A i) x = p_oI A x := by unfold p_oI; rw [eo]
    have e2 : p_zs (p_free A i) x = p_zs A x := by unfold p_zs; rw [eo]; rfl
    have e3 : p_ps (p_free A i) x = p_ps A x := by unfold p_ps; rw [eo]; rfl
    have e4 : p_rs (p_free A i) x = p_rs A x := by unfold p_rs; rw [eo]; rfl
    have e5 : p_s (p_free A i) x = p_s A x := if_neg e
    rw [e1, e2, e3, e4, e5]
    simp only [kS_Ss, kB_Ss, e, and_false, if_false]
    exact ⟨g2, g3, g4, g5, g6, g7, g8⟩
theorem s_reapL (age : Int32) : ∀ (d i f c : Nat) (A : AS) (k : KSt), i + d = 12 → d < f → WF n A → KR k A → ∃ k', R_X2_reap_L34 age f k (nI c) (nI i) = some (.ok (nI (fo (rpF age) d i (A, c)).2, k')) ∧ KR k' (fo (rpF age) d i (A, c)).1 ∧ WF n (fo (rpF age) d i (A, c)).1 := by
  intro d
  induction d with
  | zero =>
    intro i f c A k hi hf h hk
    obtain ⟨f, rfl⟩ : ∃ g, f = g + 1 := ⟨f - 1, by omega⟩
    obtain rfl : i = 12 := by omega
    exact ⟨k, by rw [R_X2_reap_L34, if_pos (by decide)]; rfl, hk, h⟩
  | succ d ih =>
    intro i f c A k hi hf h hk
    obtain ⟨f, rfl⟩ : ∃ g, f = g + 1 := ⟨f - 1, by omega⟩
    have hi2 : i < 12 := by omega
    rw [R_X2_reap_L34, if_neg (nI_nge hi2), if_pos (nI_inb hi2), nI_cl hi2, nI_1 i, fo, s_state h hk hi2, Option.bind_some, hk.1.2.2.1, (hk.2.2 i hi2).2.2.2.2.2.1]
    have skip : ¬ (p_o A i ≠ 0 ∧ p_b A i = 0 ∧ ¬ (p_t A - p_s A i < age)) → rpF age (A, c) i = (A, c) := fun z => if_neg z
    by_cases hs : stN A i = 1
    · have h01 : p_o A i ≠ 0 ∧ p_b A i = 0 := by
        unfold stN at hs
        by_cases h0 : p_o A i = 0
        · rw [if_pos h0] at hs; omega
        · rw [if_neg h0] at hs
          by_cases hb : p_b A i = 0
          · exact ⟨h0, hb⟩
          · rw [if_neg hb] at hs; split at hs <;> omega
      rw [if_neg (show ¬ ¬ nI (stN A i) = 1 from fun q => q (by rw [hs]; rfl))]
      by_cases ha : p_t A - p_s A i < age
      · rw [if_pos ha, skip (fun z => z.2.2 ha)]
        exact ih (i + 1) f c A k (by omega) (by omega) h hk
      · rw [if_neg ha, show rpF age (A, c) i = (p_free A i, c + 1) from if_pos ⟨h01.1, h01.2, ha⟩]
        unfold R_X1_becomeFree
        rw [Option.bind_some, nI_1 c]
        exact ih (i + 1) f (c + 1) (p_free A i) _ (by omega) (by omega) (h.free h01.2) hk.free
    · rw [if_pos (show ¬ nI (stN A i) = 1 from fun q => hs ((st_I (x := 1) (by omega)).mp q)), skip (fun z => hs (by unfold stN; rw [if_neg z.1, if_pos z.2.1]))]
      exact ih (i + 1) f c A k (by omega) (by omega) h hk
end LP
