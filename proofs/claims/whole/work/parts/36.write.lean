/-! the calls that write -/
def tailP (m : MSt) (p2 : Int32) : Option (Int32 × MSt) := (R_X3_hole m p2).bind fun v16 => if inb p2 12 = true then if inb p2 12 = true then if inb p2 12 = true then (R_X3_spotOf (mFs (mFs (mAs (mAs m 4 (upd (mA m 4) (p2.toNatClampNeg) ((mA m 4 (p2.toNatClampNeg)) ||| ((1 : Int32) <<< (v16 &&& 31))))) 5 (upd (mA (mAs m 4 (upd (mA m 4) (p2.toNatClampNeg) ((mA m 4 (p2.toNatClampNeg)) ||| ((1 : Int32) <<< (v16 &&& 31))))) 5) (p2.toNatClampNeg) (-1 : Int32))) 1 ((mF (mAs (mAs m 4 (upd (mA m 4) (p2.toNatClampNeg) ((mA m 4 (p2.toNatClampNeg)) ||| ((1 : Int32) <<< (v16 &&& 31))))) 5 (upd (mA (mAs m 4 (upd (mA m 4) (p2.toNatClampNeg) ((mA m 4 (p2.toNatClampNeg)) ||| ((1 : Int32) <<< (v16 &&& 31))))) 5) (p2.toNatClampNeg) (-1 : Int32))) 1) + (1 : Int32))) 3 ((mF (mFs (mAs (mAs m 4 (upd (mA m 4) (p2.toNatClampNeg) ((mA m 4 (p2.toNatClampNeg)) ||| ((1 : Int32) <<< (v16 &&& 31))))) 5 (upd (mA (mAs m 4 (upd (mA m 4) (p2.toNatClampNeg) ((mA m 4 (p2.toNatClampNeg)) ||| ((1 : Int32) <<< (v16 &&& 31))))) 5) (p2.toNatClampNeg) (-1 : Int32))) 1 ((mF (mAs (mAs m 4 (upd (mA m 4) (p2.toNatClampNeg) ((mA m 4 (p2.toNatClampNeg)) ||| ((1 : Int32) <<< (v16 &&& 31))))) 5 (upd (mA (mAs m 4 (upd (mA m 4) (p2.toNatClampNeg) ((mA m 4 (p2.toNatClampNeg)) ||| ((1 : Int32) <<< (v16 &&& 31))))) 5) (p2.toNatClampNeg) (-1 : Int32))) 1) + (1 : Int32))) 3) + (1 : Int32))) p2 v16).bind fun v62 => some (v62, (mFs (mFs (mAs (mAs m 4 (upd (mA m 4) (p2.toNatClampNeg) ((mA m 4 (p2.toNatClampNeg)) ||| ((1 : Int32) <<< (v16 &&& 31))))) 5 (upd (mA (mAs m 4 (upd (mA m 4) (p2.toNatClampNeg) ((mA m 4 (p2.toNatClampNeg)) ||| ((1 : Int32) <<< (v16 &&& 31))))) 5) (p2.toNatClampNeg) (-1 : Int32))) 1 ((mF (mAs (mAs m 4 (upd (mA m 4) (p2.toNatClampNeg) ((mA m 4 (p2.toNatClampNeg)) ||| ((1 : Int32) <<< (v16 &&& 31))))) 5 (upd (mA (mAs m 4 (upd (mA m 4) (p2.toNatClampNeg) ((mA m 4 (p2.toNatClampNeg)) ||| ((1 : Int32) <<< (v16 &&& 31))))) 5) (p2.toNatClampNeg) (-1 : Int32))) 1) + (1 : Int32))) 3 ((mF (mFs (mAs (mAs m 4 (upd (mA m 4) (p2.toNatClampNeg) ((mA m 4 (p2.toNatClampNeg)) ||| ((1 : Int32) <<< (v16 &&& 31))))) 5 (upd (mA (mAs m 4 (upd (mA m 4) (p2.toNatClampNeg) ((mA m 4 (p2.toNatClampNeg)) ||| ((1 : Int32) <<< (v16 &&& 31))))) 5) (p2.toNatClampNeg) (-1 : Int32))) 1 ((mF (mAs (mAs m 4 (upd (mA m 4) (p2.toNatClampNeg) ((mA m 4 (p2.toNatClampNeg)) ||| ((1 : Int32) <<< (v16 &&& 31))))) 5 (upd (mA (mAs m 4 (upd (mA m 4) (p2.toNatClampNeg) ((mA m 4 (p2.toNatClampNeg)) ||| ((1 : Int32) <<< (v16 &&& 31))))) 5) (p2.toNatClampNeg) (-1 : Int32))) 1) + (1 : Int32))) 3) + (1 : Int32)))) else none else none else none
theorem placed_eq (m : MSt) (p1 p2 : Int32) : R_X3_placed m p1 p2 = (R_X3_isFree m p2).bind fun v2 => if v2 = 0 then tailP m p2 else (R_X3_own m p2 p1).bind fun v11 => tailP v11 p2 := rfl
def tailC (k : KSt) (j13 : Nat) : Option (Except String (Int32 × KSt)) := (R_X1_firstGap k j13).bind fun v39 => (R_X1_addBowl k j13 v39).bind fun v47 => (R_X1_beginOf (kGs (kGs v47 2 ((kG v47 2) + (1 : Int32))) 3 ((kG (kGs v47 2 ((kG v47 2) + (1 : Int32))) 3) + (1 : Int32))) j13 v39).bind fun v73 => some (.ok (v73, (kGs (kGs v47 2 ((kG v47 2) + (1 : Int32))) 3 ((kG (kGs v47 2 ((kG v47 2) + (1 : Int32))) 3) + (1 : Int32)))))
theorem put_eq (k : KSt) (p1 : Int32) : R_X2_put k p1 = xb (R_X2_kindOf k p1) fun v2 => if v2 < kN k then (R_X2_shelfToPut k v2).bind fun v8 => Option.elim v8 (some (.error exIS)) (fun j13 => if j13 < 12 then (R_X1_state k j13).bind fun v27 => if ¬ v27 = 0 then tailC k j13 else (R_X1_comeTo k j13 v2).bind fun v35 => tailC v35 j13 else none) else none := rfl

def p_wy (A : AS) (v : Int32) : AS := ((p_n A, v, p_t A, p_p A, p_m A), A.2)
def p_mo (A : AS) (v : Int32) : AS := ((p_n A, p_w A, p_t A, p_p A, v), A.2)
def p_tp (A : AS) : AS := ((p_n A, p_w A, p_t A + 1, p_p A + 1, p_m A), A.2)
def p_kd (A : AS) (z : Nat) : AS := ((p_n A + 1, p_w A, p_t A, p_p A, p_m A), (fun j => if j = p_n A then z else p_z A j), (fun j => if j = p_n A then 0 else p_g A j), A.2.2.2)
def p_free (A : AS) (i : Nat) : AS := (A.1, A.2.1, A.2.2.1, (fun x => if x = i then 0 else p_o A x), A.2.2.2.2.1, A.2.2.2.2.2.1, fun x => if x = i then -1 else p_s A x)
def p_come (A : AS) (i j : Nat) : AS := (A.1, A.2.1, (fun x => if x = j then p_g A j + 1 else p_g A x), (fun x => if x = i then j + 1 else p_o A x), (fun x => if x = i then p_g A j % (24 % p_z A j + 1) else p_r A x), A.2.2.2.2.2.1, A.2.2.2.2.2.2)
section LP
variable {n : Nat} {A : AS} {k : KSt} {m : MSt}
theorem y_setWay (h : WF n A) (hk : KR k A) (hm : MR m A) (p : Int32) : Agree Rel0 n k cdIO [exIO] (R_X2_setWay k p) (R_X3_setWay m p) := by
  have er : R_X2_setWay k p = some (.error exIO) → R_X3_setWay m p = some (0, mFs (mFs m 0 0) 0 1) → Agree Rel0 n k cdIO [exIO] (R_X2_setWay k p) (R_X3_setWay m p) := fun e1 e2 => aw_er h hk ((hm.f0 0).f0 1) e1 (by decide) e2 rfl (by decide)
  rcases in_cases p 0 2 (by omega) (by omega) with ⟨a, -, ha, rfl⟩ | h1 | ⟨h1, h2⟩
  · refine aw_ok (B := p_wy A (nI a)) (v := p_w A) (k' := kGs k 1 (nI a)) (m' := mFs (mFs m 0 0) 2 (nI a)) (by exact h.up) ?_ ?_ ?_ ?_ rfl
    · obtain ⟨⟨g0, g1, g2, g3, g4, g5⟩, h2, h3⟩ := hk
      exact ⟨⟨g0, rfl, g2, g3, g4, g5⟩, h2, h3⟩
    · obtain ⟨⟨g5, g1, g2, g3, g4⟩, h2, h3, h4⟩ := hm
      exact ⟨⟨g5, g1, rfl, g3, g4⟩, h2, h3, h4⟩
    · unfold R_X2_setWay
      rw [if_neg (nI_pos (by omega)), if_pos (show nI a ≤ (2 : Int32) from nI_le (b := 2) ha (by omega)), hk.1.2.1]
    · unfold R_X3_setWay
      rw [show R_X3_isIn (nI a) 0 2 = some 1 from in_ok (lo := 0) (hi := 2) (by omega) (by omega) ha, Option.bind_some, if_pos (by decide)]
      show some (mF m 2, _) = _
      rw [hm.1.2.2.1]
  · refine er ?_ ?_
    · unfold R_X2_setWay; rw [if_pos (show p < 0 from h1)]; rfl
    · unfold R_X3_setWay; rw [show R_X3_isIn p 0 2 = some 0 from in_lo (lo := 0) (hi := 2) h1]; rfl
  · refine er ?_ ?_
    · unfold R_X2_setWay; rw [if_neg (show ¬ p < 0 from h1), if_neg (le_of_lt (show (2 : Int32) < p from h2))]; rfl
    · unfold R_X3_setWay; rw [show R_X3_isIn p 0 2 = some 0 from in_hi (lo := 0) (hi := 2) h1 h2]; rfl
theorem KR.kd (h : WF n A) (hk : KR k A) {z : Nat} (hz : 2 ≤ z ∧ z ≤ 12) : KR (kGs (mkK k (nI z)) 0 (kG k 0 + 1)) (p_kd A z) := by
  obtain ⟨⟨g0, g1, g2, g3, g4, g5⟩, h2, h3⟩ := hk
  refine ⟨⟨?_, g1, g2, g3, g4, by show kN k + 1 = p_n A + 1; rw [g5]⟩, fun j hj => ?_, fun i hi => ?_⟩
  · show kG k 0 + 1 = nI (p_n A + 1)
    rw [g0, nI_1]
  · have hj : j < p_n A + 1 := hj
    by_cases e : j = kN k
    · have e2 : j = p_n A := e.trans g5
      have ez : p_z (p_kd A z) j = z := if_pos e2
      have eg : p_g (p_kd A z) j = 0 := if_pos e2
      have ek : ∀ f, kK (kGs (mkK k (nI z)) 0 (kG k 0 + 1)) f j = if f = 1 then nI z else if f = 2 then 24 / nI z else if f = 3 then 24 - 24 / nI z * nI z else 0 := fun f => if_pos e
      unfold p_pl
      rw [ez, eg, ek, ek, ek, ek, ek]
      refine ⟨rfl, ?_, ?_, rfl, ?_⟩
      · show (24 : Int32) / nI z = _
        exact pk_div (a := 24) (by omega) (by omega) (by omega)
      · show (24 : Int32) - 24 / nI z * nI z = _
        exact pk_rem (a := 24) (by omega) (by omega) (by omega)
      · rw [Nat.zero_mod]; rfl
    · have e2 : ¬ j = p_n A := fun q => e (q.trans g5.symm)
      have ez : p_z (p_kd A z) j = p_z A j := if_neg e2
      have eg : p_g (p_kd A z) j = p_g A j := if_neg e2
      have ek : ∀ f, kK (kGs (mkK k (nI z)) 0 (kG k 0 + 1)) f j = kK k f j := fun f => if_neg e
      have := h2 j (by omega)
      unfold p_pl at this ⊢
      rw [ez, eg, ek, ek, ek, ek, ek]
      exact this
  · have h1 := w_o h hi
    have ez : p_zs (p_kd A z) i = p_zs A i := by
      show (if p_o A i = 0 then 0 else p_z (p_kd A z) (p_o A i - 1)) = _
      unfold p_zs
      by_cases h0 : p_o A i = 0
      · rw [if_pos h0, if_pos h0]
      · rw [if_neg h0, if_neg h0]; exact if_neg (by omega)
    have ep : p_ps (p_kd A z) i = p_ps A i := by
      show (if p_o A i = 0 then 0 else 24 / p_z (p_kd A z) (p_o A i - 1)) = _
      unfold p_ps p_pl
      by_cases h0 : p_o A i = 0
      · rw [if_pos h0, if_pos h0]
      · rw [if_neg h0, if_neg h0]; exact congrArg (24 / ·) (if_neg (by omega))
    have := h3 i hi
    rw [← ez, ← ep] at this
    exact this
theorem y_kind (h : WF n A) (hk : KR k A) (hm : MR m A) (p : Int32) : Agree Rel0 n k cdIAIS [exIA, exIS] (R_X2_kind k p) (R_X3_kind m p) := by
  have er : R_X2_kind k p = some (.error exIA) → R_X3_kind m p = some (0, mFs (mFs m 0 0) 0 1) → Agree Rel0 n k cdIAIS [exIA, exIS] (R_X2_kind k p) (R_X3_kind m p) := fun e1 e2 => aw_er h hk ((hm.f0 0).f0 1) e1 (by decide) e2 (by rfl) (by decide)
  have h5 := h.1
  rcases in_cases p 2 12 (by omega) (by omega) with ⟨z, hz1, hz, rfl⟩ | h1 | ⟨h1, h2⟩
  · have isn : R_X3_isIn (nI z) 2 12 = some 1 := in_ok (lo := 2) (hi := 12) (by omega) hz1 hz
    by_cases h55 : p_n A = 5
    · refine aw_er h hk ((hm.f0 0).f0 2) (E := exIS) (rb := 0) ?_ (by decide) ?_ (by rfl) (by decide)
      · unfold R_X2_kind
        rw [if_neg (show ¬ nI z < (2 : Int32) from nI_nlt (b := 2) hz1 (by omega)), if_pos (show nI z ≤ (12 : Int32) from nI_le (b := 12) hz (by omega)), hk.1.1, h55, if_neg (by decide)]
      · unfold R_X3_kind
        rw [isn, Option.bind_some, if_pos (by decide), show mF (mFs m 0 0) 5 = nI 5 from hm.1.1.trans (by rw [h55]), if_neg (fun q => q rfl)]
        rfl
    · refine aw_ok (B := p_kd A z) (v := nI (p_n A)) (k' := kGs (mkK k (nI z)) 0 (kG k 0 + 1)) (m' := mFs (mAs (mFs m 0 0) 0 (upd (mA m 0) (p_n A) (nI z))) 5 (nI (p_n A + 1))) ?_ (KR.kd h hk ⟨hz1, hz⟩) ?_ ?_ ?_ rfl
      · refine ⟨by show p_n A + 1 ≤ 5; omega, fun j hj => ?_, fun i hi => ?_⟩
        · have hj : j < p_n A + 1 := hj
          by_cases e : j = p_n A
          · rw [show p_z (p_kd A z) j = z from if_pos e, show p_g (p_kd A z) j = 0 from if_pos e]
            exact ⟨hz1, hz, Nat.zero_le _⟩
          · rw [show p_z (p_kd A z) j = p_z A j from if_neg e, show p_g (p_kd A z) j = p_g A j from if_neg e]
            have := h.2.1 j (by omega)
            exact ⟨this.1, this.2.1, by omega⟩
        · obtain ⟨q1, q2, q3, q4, q5⟩ := h.2.2 i hi
          refine ⟨by show p_o A i ≤ p_n A + 1; omega, q2, fun h0 => ?_, ?_, q5⟩
          · have h0 : p_o A i ≠ 0 := h0
            show p_r A i ≤ 24 % p_z (p_kd A z) (p_o A i - 1)
            rw [show p_z (p_kd A z) (p_o A i - 1) = p_z A (p_o A i - 1) from if_neg (by omega)]
            exact q3 h0
          · show p_b A i < 2 ^ (if p_o A i = 0 then 0 else 24 / p_z (p_kd A z) (p_o A i - 1))
            have : (if p_o A i = 0 then 0 else 24 / p_z (p_kd A z) (p_o A i - 1)) = p_ps A i := by
              unfold p_ps p_pl
              by_cases h0 : p_o A i = 0
              · rw [if_pos h0, if_pos h0]
              · rw [if_neg h0, if_neg h0]; exact congrArg (24 / ·) (if_neg (by omega))
            rw [this]
            exact q4
      · obtain ⟨⟨g5, g1, g2, g3, g4⟩, e2, e3, e4⟩ := hm
        refine ⟨⟨rfl, g1, g2, g3, g4⟩, fun j hj => ?_, fun j q1 q2 => e3 j (by have q1 : p_n A + 1 ≤ j := q1; omega) q2, e4⟩
        have hj : j < p_n A + 1 := hj
        have em : ∀ x, mA (mFs (mAs (mFs m 0 0) 0 (upd (mA m 0) (p_n A) (nI z))) 5 (nI (p_n A + 1))) x = if x = 0 then upd (mA m 0) (p_n A) (nI z) else mA m x := fun x => rfl
        rw [em, em, if_pos rfl, if_neg (by omega)]
        unfold upd
        by_cases e : j = p_n A
        · rw [if_pos e, show p_z (p_kd A z) j = z from if_pos e, show p_g (p_kd A z) j = 0 from if_pos e]
          exact ⟨rfl, by rw [e]; exact e3 _ (Nat.le_refl _) (by omega)⟩
        · rw [if_neg e, show p_z (p_kd A z) j = p_z A j from if_neg e, show p_g (p_kd A z) j = p_g A j from if_neg e]
          exact e2 j (by omega)
      · unfold R_X2_kind
        rw [if_neg (show ¬ nI z < (2 : Int32) from nI_nlt (b := 2) hz1 (by omega)), if_pos (show nI z ≤ (12 : Int32) from nI_le (b := 12) hz (by omega)), if_pos (show kG k 0 < (5 : Int32) from by rw [hk.1.1]; exact nI_lt (b := 5) (by omega) (by omega)), if_pos ⟨by rw [hk.kn]; exact hk.1.1, by rw [hk.kn]; omega⟩, hk.1.1]
      · unfold R_X3_kind
        have e5 : mF (mFs m 0 0) 5 = nI (p_n A) := hm.1.1
        rw [isn, Option.bind_some, if_pos (by decide), e5, if_pos (show ¬ nI (p_n A) = (5 : Int32) from fun q => h55 ((nI_eq (b := 5) (by omega) (by omega)).mp q)), if_pos (inb_nI (by omega) (by omega)), cl (by omega)]
        show some (mF (mFs m 0 0) 5 + 1 - 1, mFs _ 5 (mF (mFs m 0 0) 5 + 1)) = _
        rw [e5, nI_1, nI_pred]
        rfl
  · refine er ?_ ?_
    · unfold R_X2_kind; rw [if_pos (show p < 2 from h1)]
    · unfold R_X3_kind; rw [show R_X3_isIn p 2 12 = some 0 from in_lo (lo := 2) (hi := 12) h1]; rfl
  · refine er ?_ ?_
    · unfold R_X2_kind; rw [if_neg (show ¬ p < 2 from h1), if_neg (le_of_lt (show (12 : Int32) < p from h2))]
    · unfold R_X3_kind; rw [show R_X3_isIn p 2 12 = some 0 from in_hi (lo := 2) (hi := 12) h1 h2]; rfl
theorem y_pack (h : WF n A) (hk : KR k A) (hm : MR m A) (p : Int32) : Agree Rel0 n k cdIO [exIO] (R_X2_pack k p) (R_X3_pack m p) := by
  have hm0 := hm.f0 0
  rcases kd_cases h hk hm0 p with ⟨j, hj, rfl, c1, c2⟩ | ⟨c1, c2⟩
  · have hkn : j < kN k := by rw [hk.kn]; exact hj
    obtain ⟨k', e1, e2⟩ := s_packL j 864 0 FU A k h hk hj (by omega) (by omega) (by decide)
    obtain ⟨m', f1, f2, -, -, f5⟩ := t_packed h hm0 hj
    obtain ⟨g1, -⟩ := pk_all 864 A j h (by omega)
    rw [Nat.zero_add] at e1
    refine aw_ok (B := p_mo (pkA j 864 A) (kG k' 4 + nI (pkC j 864 A))) (v := nI (pkC j 864 A)) (k' := kGs k' 4 (kG k' 4 + nI (pkC j 864 A))) (m' := mFs m' 4 (mF m' 4 + nI (pkC j 864 A))) (by exact g1.up) ?_ ?_ ?_ ?_ (by show mF m' 0 = 0; rw [f5]; rfl)
    · obtain ⟨⟨q0, q1, q2, q3, q4, q5⟩, h2, h3⟩ := e2
      exact ⟨⟨q0, q1, q2, q3, rfl, q5⟩, h2, h3⟩
    · have ee : mF m' 4 = kG k' 4 := f2.1.2.2.2.2.trans e2.1.2.2.2.2.1.symm
      rw [ee]
      obtain ⟨⟨q5, q1, q2, q3, q4⟩, h2, h3, h4⟩ := f2
      exact ⟨⟨q5, q1, q2, q3, rfl⟩, h2, h3, h4⟩
    · unfold R_X2_pack
      rw [c1]
      show (if j < kN k then _ else none) = _
      rw [if_pos hkn]
      exact e1
    · unfold R_X3_pack
      rw [c2, Option.bind_some, if_pos (by decide), f1]
      rfl
  · refine aw_er h hk ((hm.f0 0).f0 1) (E := exIO) (rb := 0) ?_ (by decide) ?_ rfl (by decide)
    · unfold R_X2_pack; rw [c1]; rfl
    · unfold R_X3_pack; rw [c2]; rfl
/-! reap -/
def rpF (age : Int32) (s : AS × Nat) (i : Nat) : AS × Nat := if p_o s.1 i ≠ 0 ∧ p_b s.1 i = 0 ∧ ¬ (p_t s.1 - p_s s.1 i < age) then (p_free s.1 i, s.2 + 1) else s
theorem fr_sh (A : AS) (i x : Nat) : p_o (p_free A i) x = if x = i then 0 else p_o A x := rfl
theorem WF.free (h : WF n A) {i : Nat} (h0 : p_b A i = 0) : WF n (p_free A i) := by
  refine ⟨h.1, h.2.1, fun x hx => ?_⟩
  obtain ⟨q1, q2, q3, q4, q5⟩ := h.2.2 x hx
  by_cases e : x = i
  · subst e
    have eo : p_o (p_free A x) x = 0 := if_pos rfl
    have es : p_s (p_free A x) x = -1 := if_pos rfl
    refine ⟨by rw [eo]; exact Nat.zero_le _, fun _ => ⟨h0, es⟩, fun z => absurd eo z, ?_, fun _ => es⟩
    show p_b A x < _
    rw [h0]; exact Nat.two_pow_pos _
  · have eo : p_o (p_free A i) x = p_o A x := if_neg e
    have es : p_s (p_free A i) x = p_s A x := if_neg e
    have ep : p_ps (p_free A i) x = p_ps A x := by unfold p_ps; rw [eo]; rfl
    rw [eo, es, ep]
    exact ⟨q1, q2, q3, q4, q5⟩
theorem KR.free (hk : KR k A) {i : Nat} : KR (kSs (kSs (kSs (kSs (kSs k 2 i (-1 : Int32)) 3 i (0 : Int32)) 4 i (0 : Int32)) 5 i (0 : Int32)) 7 i (-1 : Int32)) (p_free A i) := by
  refine ⟨hk.1, hk.2.1, fun x hx => ?_⟩
  obtain ⟨g2, g3, g4, g5, g6, g7, g8⟩ := hk.2.2 x hx
  by_cases e : x = i
  · subst e
    have eo : p_o (p_free A x) x = 0 := if_pos rfl
    have e1 : p_oI (p_free A x) x = -1 := if_pos eo
    have e2 : p_zs (p_free A x) x = 0 := if_pos eo
    have e3 : p_ps (p_free A x) x = 0 := if_pos eo
    have e4 : p_rs (p_free A x) x = 0 := if_pos eo
    have e5 : p_s (p_free A x) x = -1 := if_pos rfl
    rw [e1, e2, e3, e4, e5]
    simp only [kS_Ss, kB_Ss]
    exact ⟨by simp, by simp; rfl, by simp; rfl, by simp; rfl, by simp; exact g6, by simp, g8⟩
  · have eo : p_o (p_free A i) x = p_o A x := if_neg e
    have e1 : p_oI (p_free A i) x = p_oI A x := by unfold p_oI; rw [eo]
    have e2 : p_zs (p_free A i) x = p_zs A x := by unfold p_zs; rw [eo]; rfl
    have e3 : p_ps (p_free A i) x = p_ps A x := by unfold p_ps; rw [eo]; rfl
    have e4 : p_rs (p_free A i) x = p_rs A x := by unfold p_rs; rw [eo]; rfl
    have e5 : p_s (p_free A i) x = p_s A x := if_neg e
    rw [e1, e2, e3, e4, e5]
    simp only [kS_Ss, kB_Ss, e, and_false, if_false]
    exact ⟨g2, g3, g4, g5, g6, g7, g8⟩
theorem MR.free (hm : MR m A) {i : Nat} : MR (mAs (mAs m 2 (upd (mA m 2) i (-1 : Int32))) 5 (upd (mA (mAs m 2 (upd (mA m 2) i (-1 : Int32))) 5) i (-1 : Int32))) (p_free A i) := by
  obtain ⟨g1, g2, g3, g4⟩ := hm
  refine ⟨g1, g2, g3, fun x hx => ?_⟩
  obtain ⟨q1, q2, q3, q4⟩ := g4 x hx
  by_cases e : x = i
  · subst e
    have eo : p_o (p_free A x) x = 0 := if_pos rfl
    refine ⟨?_, fun z => absurd eo z, q3, ?_⟩
    · rw [show p_oI (p_free A x) x = -1 from if_pos eo]; exact if_pos rfl
    · rw [show p_s (p_free A x) x = -1 from if_pos rfl]; exact if_pos rfl
  · have eo : p_o (p_free A i) x = p_o A x := if_neg e
    refine ⟨?_, fun z => q2 (by rw [← eo]; exact z), q3, ?_⟩
    · rw [show p_oI (p_free A i) x = p_oI A x from by unfold p_oI; rw [eo]]; exact (if_neg e).trans q1
    · rw [show p_s (p_free A i) x = p_s A x from if_neg e]; exact (if_neg e).trans q4
theorem s_reapL (age : Int32) : ∀ (d i f c : Nat) (A : AS) (k : KSt), i + d = 12 → d < f → WF n A → KR k A → ∃ k', R_X2_reap_L34 age f k (nI c) (nI i) = some (.ok (nI (fo (rpF age) d i (A, c)).2, k')) ∧ KR k' (fo (rpF age) d i (A, c)).1 ∧ WF n (fo (rpF age) d i (A, c)).1 := by
  intro d
  induction d with
  | zero =>
    intro i f c A k hi hf h hk
    obtain ⟨f, rfl⟩ : ∃ g, f = g + 1 := ⟨f - 1, by omega⟩
    obtain rfl : i = 12 := by omega
    exact ⟨k, by rw [R_X2_reap_L34, if_pos (by decide)]; rfl, hk, h⟩
  | succ d ih =>
    intro i f c A k hi hf h hk
    obtain ⟨f, rfl⟩ : ∃ g, f = g + 1 := ⟨f - 1, by omega⟩
    have hi2 : i < 12 := by omega
    rw [R_X2_reap_L34, if_neg (nI_nge hi2), if_pos (nI_inb hi2), nI_cl hi2, nI_1 i, fo, s_state h hk hi2, Option.bind_some, hk.1.2.2.1, (hk.2.2 i hi2).2.2.2.2.2.1]
    have skip : ¬ (p_o A i ≠ 0 ∧ p_b A i = 0 ∧ ¬ (p_t A - p_s A i < age)) → rpF age (A, c) i = (A, c) := fun z => if_neg z
    by_cases hs : stN A i = 1
    · have h01 : p_o A i ≠ 0 ∧ p_b A i = 0 := by
        unfold stN at hs
        by_cases h0 : p_o A i = 0
        · rw [if_pos h0] at hs; omega
        · rw [if_neg h0] at hs
          by_cases hb : p_b A i = 0
          · exact ⟨h0, hb⟩
          · rw [if_neg hb] at hs; split at hs <;> omega
      rw [if_neg (show ¬ ¬ nI (stN A i) = 1 from fun q => q (by rw [hs]; rfl))]
      by_cases ha : p_t A - p_s A i < age
      · rw [if_pos ha, skip (fun z => z.2.2 ha)]
        exact ih (i + 1) f c A k (by omega) (by omega) h hk
      · rw [if_neg ha, show rpF age (A, c) i = (p_free A i, c + 1) from if_pos ⟨h01.1, h01.2, ha⟩]
        unfold R_X1_becomeFree
        rw [Option.bind_some, nI_1 c]
        exact ih (i + 1) f (c + 1) (p_free A i) _ (by omega) (by omega) (h.free h01.2) hk.free
    · rw [if_pos (show ¬ nI (stN A i) = 1 from fun q => hs ((st_I (x := 1) (by omega)).mp q)), skip (fun z => hs (by unfold stN; rw [if_neg z.1, if_pos z.2.1]))]
      exact ih (i + 1) f c A k (by omega) (by omega) h hk
theorem t_reapL (age : Int32) : ∀ (d i f c : Nat) (A : AS) (m : MSt), i + d = 12 → d < f → WF n A → MR m A → ∃ m', R_X3_reap_L25 age f m (nI c) (nI i) = some (nI (fo (rpF age) d i (A, c)).2, m') ∧ MR m' (fo (rpF age) d i (A, c)).1 ∧ mF m' 0 = mF m 0 := by
  intro d
  induction d with
  | zero =>
    intro i f c A m hi hf h hm
    obtain ⟨f, rfl⟩ : ∃ g, f = g + 1 := ⟨f - 1, by omega⟩
    obtain rfl : i = 12 := by omega
    exact ⟨m, by rw [R_X3_reap_L25, if_pos (by decide)]; rfl, hm, rfl⟩
  | succ d ih =>
    intro i f c A m hi hf h hm
    obtain ⟨f, rfl⟩ : ∃ g, f = g + 1 := ⟨f - 1, by omega⟩
    have hi2 : i < 12 := by omega
    rw [R_X3_reap_L25, if_neg (nI_nge hi2), nI_cl hi2, nI_1 i, fo, t_isFree h hm hi2, Option.bind_some, if_pos (nI_inb hi2), if_pos (nI_inb hi2), (hm.2.2.2 i hi2).2.2.1, (hm.2.2.2 i hi2).2.2.2, hm.1.2.1]
    have skip : ¬ (p_o A i ≠ 0 ∧ p_b A i = 0 ∧ ¬ (p_t A - p_s A i < age)) → rpF age (A, c) i = (A, c) := fun z => if_neg z
    by_cases h0 : p_o A i = 0
    · rw [if_pos (b1_t (by simp [fr, h0])), skip (fun z => z.1 h0)]
      exact ih (i + 1) f c A m (by omega) (by omega) h hm
    · rw [if_neg (fun z => z (b1_f (by simp [fr, h0])))]
      by_cases hb : p_b A i = 0
      · rw [if_neg (fun z => z (by rw [hb]; rfl))]
        by_cases ha : p_t A - p_s A i < age
        · rw [if_neg (le_of_lt ha), skip (fun z => z.2.2 ha)]
          exact ih (i + 1) f c A m (by omega) (by omega) h hm
        · rw [if_pos (le_of_nlt ha), if_pos (nI_inb hi2), if_pos (nI_inb hi2), show rpF age (A, c) i = (p_free A i, c + 1) from if_pos ⟨h0, hb, ha⟩, nI_1 c]
          exact ih (i + 1) f (c + 1) (p_free A i) _ (by omega) (by omega) (h.free hb) hm.free
      · rw [if_pos (nI_ne0 (Nat.pos_of_ne_zero hb) (by have := w_b4 h hi2; omega)), skip (fun z => hb z.2.1)]
        exact ih (i + 1) f c A m (by omega) (by omega) h hm
theorem y_reap (h : WF n A) (hk : KR k A) (hm : MR m A) (p : Int32) : Agree Rel0 n k cdIA [exIA] (R_X2_reap k p) (R_X3_reap m p) := by
  have er : R_X2_reap k p = some (.error exIA) → R_X3_reap m p = some (0, mFs (mFs m 0 0) 0 1) → Agree Rel0 n k cdIA [exIA] (R_X2_reap k p) (R_X3_reap m p) := fun e1 e2 => aw_er h hk ((hm.f0 0).f0 1) e1 (by decide) e2 rfl (by decide)
  rcases in_cases p 0 99 (by omega) (by omega) with ⟨a, -, ha, rfl⟩ | h1 | ⟨h1, h2⟩
  · obtain ⟨k', e1, e2, e3⟩ := s_reapL (nI a) 12 0 FU 0 A k rfl (by decide) h hk
    obtain ⟨m', f1, f2, f3⟩ := t_reapL (nI a) 12 0 FU 0 A (mFs m 0 0) rfl (by decide) h (hm.f0 0)
    refine aw_ok (B := (fo (rpF (nI a)) 12 0 (A, 0)).1) (v := nI (fo (rpF (nI a)) 12 0 (A, 0)).2) e3.up e2 f2 ?_ ?_ (by rw [f3]; rfl)
    · unfold R_X2_reap
      rw [if_neg (nI_pos (by omega)), if_pos (show nI a ≤ (99 : Int32) from nI_le (b := 99) ha (by omega))]
      exact e1
    · unfold R_X3_reap
      rw [show R_X3_isIn (nI a) 0 99 = some 1 from in_ok (lo := 0) (hi := 99) (by omega) (by omega) ha, Option.bind_some, if_pos (by decide)]
      exact f1
  · refine er ?_ ?_
    · unfold R_X2_reap; rw [if_pos (show p < 0 from h1)]; rfl
    · unfold R_X3_reap; rw [show R_X3_isIn p 0 99 = some 0 from in_lo (lo := 0) (hi := 99) h1]; rfl
  · refine er ?_ ?_
    · unfold R_X2_reap; rw [if_neg (show ¬ p < 0 from h1), if_neg (le_of_lt (show (99 : Int32) < p from h2))]; rfl
    · unfold R_X3_reap; rw [show R_X3_isIn p 0 99 = some 0 from in_hi (lo := 0) (hi := 99) h1 h2]; rfl
end LP
