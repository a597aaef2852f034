/-! the Sim's table of a kind -/
def zAb (zs : SSt) (p1 : Int32) (gx0_85 : Nat → Int32) (x4_85 : Int32) : Option (Nat → Int32) := if inb (3 : Int32) (9) = true then (some ((gx0_85 ((3 : Int32).toNatClampNeg)) + (1 : Int32)) : Option Int32).bind fun w114 => if inb (3 : Int32) (9) = true then (some (upd gx0_85 ((3 : Int32).toNatClampNeg) w114) : Option (Nat → Int32)).bind fun gx114 => (R_X3_many zs x4_85).bind fun v119 => if ¬ v119 = ((24 : Int32) / (zK zs (p1.toNatClampNeg) ((0 : Int32).toNatClampNeg))) then (R_X3_many zs x4_85).bind fun v133 => if v133 ≤ 0 then if inb (6 : Int32) (9) = true then (some ((gx114 ((6 : Int32).toNatClampNeg)) + (1 : Int32)) : Option Int32).bind fun w149 => if inb (6 : Int32) (9) = true then (some (upd gx114 ((6 : Int32).toNatClampNeg) w149) : Option (Nat → Int32)).bind fun gx149 => if inb (7 : Int32) (9) = true then (R_X3_many zs x4_85).bind fun v158 => if inb (7 : Int32) (9) = true then (some (upd gx149 ((7 : Int32).toNatClampNeg) ((gx149 ((7 : Int32).toNatClampNeg)) + v158)) : Option (Nat → Int32)).bind fun gx162 => some gx162 else none else none else none else none else if inb (5 : Int32) (9) = true then (some ((gx114 ((5 : Int32).toNatClampNeg)) + (1 : Int32)) : Option Int32).bind fun w149 => if inb (5 : Int32) (9) = true then (some (upd gx114 ((5 : Int32).toNatClampNeg) w149) : Option (Nat → Int32)).bind fun gx149 => if inb (7 : Int32) (9) = true then (R_X3_many zs x4_85).bind fun v158 => if inb (7 : Int32) (9) = true then (some (upd gx149 ((7 : Int32).toNatClampNeg) ((gx149 ((7 : Int32).toNatClampNeg)) + v158)) : Option (Nat → Int32)).bind fun gx162 => some gx162 else none else none else none else none else if inb (4 : Int32) (9) = true then (some ((gx114 ((4 : Int32).toNatClampNeg)) + (1 : Int32)) : Option Int32).bind fun w149 => if inb (4 : Int32) (9) = true then (some (upd gx114 ((4 : Int32).toNatClampNeg) w149) : Option (Nat → Int32)).bind fun gx149 => if inb (7 : Int32) (9) = true then (R_X3_many zs x4_85).bind fun v158 => if inb (7 : Int32) (9) = true then (some (upd gx149 ((7 : Int32).toNatClampNeg) ((gx149 ((7 : Int32).toNatClampNeg)) + v158)) : Option (Nat → Int32)).bind fun gx162 => some gx162 else none else none else none else none else none else none
theorem about_eq (zs : SSt) (p1 : Int32) (n : Nat) (g : Nat → Int32) (x : Int32) : R_X3_about_L85 zs p1 (n + 1) g x = if (12 : Int32) ≤ x then some g else if inb x (12) = true then if inb (0 : Int32) (3) = true then ((if (zH zs (x.toNatClampNeg) ((0 : Int32).toNatClampNeg)) = p1 then zAb zs p1 g x else some g) : Option ((Nat → Int32))).bind fun v102 => R_X3_about_L85 zs p1 n v102 (x + (1 : Int32)) else none else none := by
  rw [R_X3_about_L85]; rfl
section LP
variable {n : Nat} {A : AS} {k : KSt} {z : SSt}
theorem u_zAb (h : WF n A) (hs : SR z A) {i j : Nat} (hi : i < 12) (hj : j < p_n A) (ho : p_o A i = j + 1) (g : Nat → Int32) : ∃ g', zAb z (nI j) g (nI i) = some g' ∧ g' 3 = g 3 + 1 ∧ g' 4 = g 4 + nI (b1 (stN A i == 3)) ∧ g' 5 = g 5 + nI (b1 (stN A i == 2)) ∧ g' 6 = g 6 + nI (b1 (stN A i == 1)) ∧ g' 7 = g 7 + nI (pc (p_b A i)) ∧ ∀ x, x < 3 ∨ 7 < x → g' x = g x := by
  have h5 := h.1
  have hp := w_pl h hj
  have hz := w_z h hj
  have hps : p_ps A i = p_pl A j := by rw [ps_I (by omega), ho]; rfl
  have hc := w_pc h hi
  have hb0 := pc_b0 h hi
  have ediv : (24 : Int32) / nI (p_z A j) = nI (p_pl A j) := pk_div (a := 24) (by omega) (by omega) (by omega)
  unfold zAb
  rw [if_pos (by decide), Option.bind_some, if_pos (by decide), Option.bind_some, u_many h hs hi, Option.bind_some, cl (by omega), zc0, (hs.2.1 j hj).1, ediv]
  by_cases hf : pc (p_b A i) = p_pl A j
  · have est : stN A i = 3 := by
      unfold stN
      rw [if_neg (by omega), if_neg (fun e => by rw [hb0.mpr e] at hf; omega), if_neg (by omega)]
    rw [if_neg (fun y => y (by rw [hf])), if_pos (by decide), Option.bind_some, if_pos (by decide), Option.bind_some, if_pos (by decide), Option.bind_some, if_pos (by decide), Option.bind_some, zc3, zc4, zc7]
    refine ⟨_, rfl, ?_⟩
    rw [est]
    refine ⟨by simp [upd], by simp [upd]; rfl, by simp [upd]; exact (Int32.add_zero _).symm, by simp [upd]; exact (Int32.add_zero _).symm, by simp [upd], fun x hx => ?_⟩
    simp only [upd]
    rw [if_neg (by omega), if_neg (by omega), if_neg (by omega)]
  · rw [if_pos (fun y => hf ((nI_eq (by omega) (by omega)).mp y)), Option.bind_some]
    by_cases hb : p_b A i = 0
    · have est : stN A i = 1 := by
        unfold stN
        rw [if_neg (by omega), if_pos hb]
      rw [if_pos ((nI_le0 (by omega)).mpr (hb0.mpr hb)), if_pos (by decide), Option.bind_some, if_pos (by decide), Option.bind_some, if_pos (by decide), Option.bind_some, if_pos (by decide), Option.bind_some, zc3, zc6, zc7]
      refine ⟨_, rfl, ?_⟩
      rw [est]
      refine ⟨by simp [upd], by simp [upd]; exact (Int32.add_zero _).symm, by simp [upd]; exact (Int32.add_zero _).symm, by simp [upd]; rfl, by simp [upd], fun x hx => ?_⟩
      simp only [upd]
      rw [if_neg (by omega), if_neg (by omega), if_neg (by omega)]
    · have est : stN A i = 2 := by
        unfold stN
        rw [if_neg (by omega), if_neg hb, if_pos (by omega)]
      rw [if_neg (fun y => hb (hb0.mp ((nI_le0 (by omega)).mp y))), if_pos (by decide), Option.bind_some, if_pos (by decide), Option.bind_some, if_pos (by decide), Option.bind_some, if_pos (by decide), Option.bind_some, zc3, zc5, zc7]
      refine ⟨_, rfl, ?_⟩
      rw [est]
      refine ⟨by simp [upd], by simp [upd]; exact (Int32.add_zero _).symm, by simp [upd]; rfl, by simp [upd]; exact (Int32.add_zero _).symm, by simp [upd], fun x hx => ?_⟩
      simp only [upd]
      rw [if_neg (by omega), if_neg (by omega), if_neg (by omega)]
theorem u_abL (h : WF n A) (hs : SR z A) {j : Nat} (hj : j < p_n A) : ∀ (d i f : Nat) (g : Nat → Int32) (c3 c4 c5 c6 c7 : Nat), i + d = 12 → d < f → g 3 = nI c3 → g 4 = nI c4 → g 5 = nI c5 → g 6 = nI c6 → g 7 = nI c7 → ∃ g', R_X3_about_L85 z (nI j) f g (nI i) = some g' ∧ g' 3 = nI (fo (fun a q => a + b1 (ofK A j q)) d i c3) ∧ g' 4 = nI (fo (fun a q => a + b1 (p_o A q == j + 1 && stN A q == 3)) d i c4) ∧ g' 5 = nI (fo (fun a q => a + b1 (p_o A q == j + 1 && stN A q == 2)) d i c5) ∧ g' 6 = nI (fo (fun a q => a + b1 (p_o A q == j + 1 && stN A q == 1)) d i c6) ∧ g' 7 = nI (fo (fun a q => a + vB A j q) d i c7) ∧ ∀ x, x < 3 ∨ 7 < x → g' x = g x := by
  have h5 := h.1
  intro d
  induction d with
  | zero =>
    intro i f g c3 c4 c5 c6 c7 hi hf e3 e4 e5 e6 e7
    obtain ⟨f, rfl⟩ : ∃ g, f = g + 1 := ⟨f - 1, by omega⟩
    obtain rfl : i = 12 := by omega
    exact ⟨g, by rw [about_eq, if_pos (by decide)], e3, e4, e5, e6, e7, fun _ _ => rfl⟩
  | succ d ih =>
    intro i f g c3 c4 c5 c6 c7 hi hf e3 e4 e5 e6 e7
    obtain ⟨f, rfl⟩ : ∃ g, f = g + 1 := ⟨f - 1, by omega⟩
    have hi2 : i < 12 := by omega
    rw [about_eq, if_neg (nI_nge hi2), if_pos (nI_inb hi2), if_pos (by decide), nI_cl hi2, zc0, hs.o hi2, nI_1]
    by_cases ho : p_o A i = j + 1
    · obtain ⟨g1, q0, q3, q4, q5, q6, q7, q8⟩ := u_zAb h hs hi2 hj ho g
      rw [if_pos ((oI_eq h hi2 (by omega)).mpr ho), q0, Option.bind_some]
      have eo : (p_o A i == j + 1) = true := by simpa using ho
      have ek : ofK A j i = true := by simpa [ofK] using ho
      rw [e3, nI_1] at q3
      rw [e4, nI_add] at q4
      rw [e5, nI_add] at q5
      rw [e6, nI_add] at q6
      rw [e7, nI_add] at q7
      obtain ⟨g', r0, r3, r4, r5, r6, r7, r8⟩ := ih (i + 1) f g1 _ _ _ _ _ (by omega) (by omega) q3 q4 q5 q6 q7
      refine ⟨g', r0, ?_, ?_, ?_, ?_, ?_, fun x hx => (r8 x hx).trans (q8 x hx)⟩
      · rw [r3, fo, ek]; rfl
      · rw [r4, fo, eo, Bool.true_and]
      · rw [r5, fo, eo, Bool.true_and]
      · rw [r6, fo, eo, Bool.true_and]
      · rw [r7, fo, show vB A j i = pc (p_b A i) from if_pos ho]
    · have eo : (p_o A i == j + 1) = false := by simpa using ho
      have ek : ofK A j i = false := by simpa [ofK] using ho
      rw [if_neg (fun y => ho ((oI_eq h hi2 (by omega)).mp y)), Option.bind_some]
      obtain ⟨g', r0, r3, r4, r5, r6, r7, r8⟩ := ih (i + 1) f g _ _ _ _ _ (by omega) (by omega) e3 e4 e5 e6 e7
      refine ⟨g', r0, ?_, ?_, ?_, ?_, ?_, r8⟩
      · rw [r3, fo, ek]; rfl
      · rw [r4, fo, eo, Bool.false_and]; rfl
      · rw [r5, fo, eo, Bool.false_and]; rfl
      · rw [r6, fo, eo, Bool.false_and]; rfl
      · rw [r7, fo, show vB A j i = 0 from if_neg ho]; rfl
theorem u_about (h : WF n A) (hs : SR z A) {j : Nat} (hj : j < p_n A) : ∃ g, R_X3_about z (nI j) = some g ∧ ∀ x, x < 9 → g x = aAb A j x := by
  have h5 := h.1
  obtain ⟨k0, k1⟩ := hs.2.1 j hj
  obtain ⟨z1, z2⟩ := w_z h hj
  have ediv : (24 : Int32) / nI (p_z A j) = nI (p_pl A j) := pk_div (a := 24) (by omega) (by omega) (by omega)
  have erem : (24 : Int32) - nI (p_pl A j) * nI (p_z A j) = nI (24 % p_z A j) := by
    have e1 := pk_rem (a := 24) (d := p_z A j) (by omega) (by omega) (by omega)
    rw [show nI 24 = (24 : Int32) from rfl, ediv] at e1
    exact e1
  unfold R_X3_about
  rw [hs.nn, if_pos (inb_nI hj (by omega)), if_pos (by decide), cl (by omega), zc0, zc1, k0, k1, if_pos (nI_ne0 (by omega) (by omega)), if_pos (inb_nI hj (by omega)), if_pos (by decide), Option.bind_some, if_pos (by decide), Option.bind_some, Option.bind_some, if_pos (by decide), Option.bind_some, if_pos (inb_nI hj (by omega)), if_pos (by decide), Option.bind_some, if_pos (by decide), Option.bind_some, if_pos (by decide), Option.bind_some, if_pos (by decide), Option.bind_some, if_pos (by decide), Option.bind_some, if_pos (by decide), Option.bind_some, if_pos (by decide), Option.bind_some, if_pos (inb_nI hj (by omega)), if_pos (by decide), Option.bind_some, if_pos (by decide), Option.bind_some, ediv, erem, zc2, zc3, zc4, zc5, zc6, zc7, zc8]
  generalize hg : upd (upd (upd (upd (upd (upd (upd (upd (upd (fun _ => (0 : Int32)) 0 (nI (p_z A j))) 1 (nI (p_pl A j))) 2 (nI (24 % p_z A j))) 3 (0 : Int32)) 4 (0 : Int32)) 5 (0 : Int32)) 6 (0 : Int32)) 7 (0 : Int32)) 8 (nI (p_g A j)) = g
  obtain ⟨g', r0, r3, r4, r5, r6, r7, r8⟩ := u_abL h hs hj 12 0 FU g 0 0 0 0 0 rfl (by decide) (by rw [← hg]; rfl) (by rw [← hg]; rfl) (by rw [← hg]; rfl) (by rw [← hg]; rfl) (by rw [← hg]; rfl)
  rw [fo_sm0] at r3 r4 r5 r6 r7
  refine ⟨g', r0, fun x hx => ?_⟩
  match x, hx with
  | 0, _ => rw [r8 0 (by omega), ← hg]; rfl
  | 1, _ => rw [r8 1 (by omega), ← hg]; rfl
  | 2, _ => rw [r8 2 (by omega), ← hg]; rfl
  | 3, _ => exact r3
  | 4, _ => exact r4
  | 5, _ => exact r5
  | 6, _ => exact r6
  | 7, _ => exact r7
  | 8, _ => rw [r8 8 (by omega), ← hg]; rfl
end LP
/-! both are the same -/
def zRow (zs : SSt) (x3_67 : Int32) (K : Int32 → (Nat → Int32) → Option ((Nat → Int32) × Int32)) : Option ((Nat → Int32) × Int32) := if inb x3_67 (12) = true then if inb (0 : Int32) (3) = true then ((if 0 ≤ (zH zs (x3_67.toNatClampNeg) ((0 : Int32).toNatClampNeg)) then some (0 : Int32) else some (1 : Int32)) : Option (Int32)).bind fun v81 => if inb x3_67 (12) = true then if inb (0 : Int32) (3) = true then (some (zH zs (x3_67.toNatClampNeg) ((0 : Int32).toNatClampNeg)) : Option Int32).bind fun w105 => if inb (0 : Int32) (6) = true then (some (upd (fun _ => (0 : Int32)) ((0 : Int32).toNatClampNeg) w105) : Option (Nat → Int32)).bind fun gx105 => (R_X3_many zs x3_67).bind fun v110 => if inb (1 : Int32) (6) = true then (some (upd gx105 ((1 : Int32).toNatClampNeg) v110) : Option (Nat → Int32)).bind fun gx113 => ((if v81 = 0 then if inb x3_67 (12) = true then if inb (1 : Int32) (3) = true then some (zH zs (x3_67.toNatClampNeg) ((1 : Int32).toNatClampNeg)) else none else none else some (0 : Int32)) : Option (Int32)).bind fun v118 => if inb (2 : Int32) (6) = true then (some (upd gx113 ((2 : Int32).toNatClampNeg) v118) : Option (Nat → Int32)).bind fun gx133 => if inb x3_67 (12) = true then if inb (3 : Int32) (6) = true then (some (upd gx133 ((3 : Int32).toNatClampNeg) (nI (zL zs (x3_67.toNatClampNeg)))) : Option (Nat → Int32)).bind fun gx143 => (R_X3_hole zs x3_67).bind fun v148 => if inb (4 : Int32) (6) = true then (some (upd gx143 ((4 : Int32).toNatClampNeg) v148) : Option (Nat → Int32)).bind fun gx151 => if inb x3_67 (12) = true then if inb (2 : Int32) (3) = true then (some (zH zs (x3_67.toNatClampNeg) ((2 : Int32).toNatClampNeg)) : Option Int32).bind fun w162 => if inb (5 : Int32) (6) = true then (some (upd gx151 ((5 : Int32).toNatClampNeg) w162) : Option (Nat → Int32)).bind fun gx162 => K v81 gx162 else none else none else none else none else none else none else none else none else none else none else none else none else none
def zCnt (k : KSt) (zs : SSt) (gx0_67 : Nat → Int32) (x3_67 : Int32) (v81 : Int32) (gx162 : Nat → Int32) (K : (Nat → Int32) → Int32 → Option ((Nat → Int32) × Int32)) : Option ((Nat → Int32) × Int32) := if inb (2 : Int32) (10) = true then ((if v81 = 0 then some (0 : Int32) else some (1 : Int32)) : Option (Int32)).bind fun v204 => if inb (2 : Int32) (10) = true then (some (upd gx0_67 ((2 : Int32).toNatClampNeg) ((gx0_67 ((2 : Int32).toNatClampNeg)) + v204)) : Option (Nat → Int32)).bind fun gx213 => if v81 = 0 then if inb (0 : Int32) (6) = true then if inb (gx162 ((0 : Int32).toNatClampNeg)) (zN zs) = true then if inb (0 : Int32) (2) = true then if inb (3 : Int32) (10) = true then if inb (1 : Int32) (6) = true then (some ((gx213 ((3 : Int32).toNatClampNeg)) + (gx162 ((1 : Int32).toNatClampNeg))) : Option Int32).bind fun w244 => if inb (3 : Int32) (10) = true then (some (upd gx213 ((3 : Int32).toNatClampNeg) w244) : Option (Nat → Int32)).bind fun gx244 => if inb (4 : Int32) (10) = true then if inb (1 : Int32) (6) = true then (some ((gx244 ((4 : Int32).toNatClampNeg)) + ((gx162 ((1 : Int32).toNatClampNeg)) * (zK zs ((gx162 ((0 : Int32).toNatClampNeg)).toNatClampNeg) ((0 : Int32).toNatClampNeg)))) : Option Int32).bind fun w257 => if inb (4 : Int32) (10) = true then (some (upd gx244 ((4 : Int32).toNatClampNeg) w257) : Option (Nat → Int32)).bind fun gx257 => if inb (5 : Int32) (10) = true then if inb (1 : Int32) (6) = true then (some ((gx257 ((5 : Int32).toNatClampNeg)) + ((24 : Int32) - ((gx162 ((1 : Int32).toNatClampNeg)) * (zK zs ((gx162 ((0 : Int32).toNatClampNeg)).toNatClampNeg) ((0 : Int32).toNatClampNeg))))) : Option Int32).bind fun w273 => if inb (5 : Int32) (10) = true then (some (upd gx257 ((5 : Int32).toNatClampNeg) w273) : Option (Nat → Int32)).bind fun gx273 => if inb (6 : Int32) (10) = true then if ¬ (zK zs ((gx162 ((0 : Int32).toNatClampNeg)).toNatClampNeg) ((0 : Int32).toNatClampNeg)) = 0 then (some ((gx273 ((6 : Int32).toNatClampNeg)) + ((24 : Int32) - (24 : Int32) / (zK zs ((gx162 ((0 : Int32).toNatClampNeg)).toNatClampNeg) ((0 : Int32).toNatClampNeg)) * (zK zs ((gx162 ((0 : Int32).toNatClampNeg)).toNatClampNeg) ((0 : Int32).toNatClampNeg)))) : Option Int32).bind fun w285 => if inb (6 : Int32) (10) = true then (some (upd gx273 ((6 : Int32).toNatClampNeg) w285) : Option (Nat → Int32)).bind fun gx285 => (R_X3_isSame_L289 k zs x3_67 gx162 FU (0 : Int32)).bind fun v289 => K gx285 (x3_67 + (1 : Int32)) else none else none else none else none else none else none else none else none else none else none else none else none else none else none else none else K gx213 (x3_67 + (1 : Int32)) else none else none
theorem same67_eq (k : KSt) (zs : SSt) (n : Nat) (g : Nat → Int32) (x : Int32) : R_X3_isSame_L67 k zs (n + 1) g x = if (12 : Int32) ≤ x then some (g, x) else zRow zs x (fun v81 gx162 => (R_X3_isSame_L168 k x gx162 FU (0 : Int32)).bind fun v168 => zCnt k zs g x v81 gx162 (fun g x => R_X3_isSame_L67 k zs n g x)) := by
  rw [R_X3_isSame_L67]; rfl
section LP
variable {n : Nat} {A : AS} {k : KSt} {z : SSt}
theorem u_zRow (h : WF n A) (hs : SR z A) {i : Nat} (hi : i < 12) (K : Int32 → (Nat → Int32) → Option ((Nat → Int32) × Int32)) : ∃ g, zRow z (nI i) K = K (nI (b1 (fr A i))) g ∧ ∀ x, x ≤ 5 → g x = aSh A i x := by
  have h5 := h.1
  have ho := hs.o hi
  unfold zRow
  rw [if_pos (nI_inb hi), if_pos (by decide), nI_cl hi, zc0, zc1, zc2, ho]
  by_cases h0 : p_o A i = 0
  · have e0 : p_oI A i = -1 := if_pos h0
    have ef : fr A i = true := by simp [fr, h0]
    rw [e0, if_neg (by decide), Option.bind_some, if_pos (nI_inb hi), if_pos (by decide), Option.bind_some, if_pos (by decide), Option.bind_some, u_many h hs hi, Option.bind_some, if_pos (by decide), Option.bind_some, if_neg (by decide), Option.bind_some, if_pos (by decide), Option.bind_some, if_pos (nI_inb hi), if_pos (by decide), Option.bind_some, u_hole h hs hi, Option.bind_some, if_pos (by decide), Option.bind_some, if_pos (nI_inb hi), if_pos (by decide), Option.bind_some, if_pos (by decide), Option.bind_some, zc3, zc4, zc5, hs.l hi, hs.s hi, ef]
    refine ⟨_, rfl, fun x hx => ?_⟩
    match x, hx with
    | 0, _ => exact e0.symm
    | 1, _ => rfl
    | 2, _ => exact (show (0 : Int32) = nI (p_rs A i) by rw [show p_rs A i = 0 from if_pos h0]; rfl)
    | 3, _ => rfl
    | 4, _ => rfl
    | 5, _ => rfl
  · have e0 : p_oI A i = nI (p_o A i - 1) := if_neg h0
    have hlt := ow_lt h hi h0
    have ef : fr A i = false := by simp [fr, h0]
    rw [e0, if_pos (nI_pos' (by omega)), Option.bind_some, if_pos (nI_inb hi), if_pos (by decide), Option.bind_some, if_pos (by decide), Option.bind_some, u_many h hs hi, Option.bind_some, if_pos (by decide), Option.bind_some, if_pos (by decide), if_pos (nI_inb hi), if_pos (by decide), Option.bind_some, if_pos (by decide), Option.bind_some, if_pos (nI_inb hi), if_pos (by decide), Option.bind_some, u_hole h hs hi, Option.bind_some, if_pos (by decide), Option.bind_some, if_pos (nI_inb hi), if_pos (by decide), Option.bind_some, if_pos (by decide), Option.bind_some, zc3, zc4, zc5, hs.l hi, hs.s hi, ef, (hs.2.2 i hi).2.1 h0]
    refine ⟨_, rfl, fun x hx => ?_⟩
    match x, hx with
    | 0, _ => exact e0.symm
    | 1, _ => rfl
    | 2, _ => exact (show nI (p_r A i) = nI (p_rs A i) by rw [rs_I h0])
    | 3, _ => rfl
    | 4, _ => rfl
    | 5, _ => rfl
theorem w_168 (h : WF n A) (hk : KR k A) {i : Nat} (hi : i < 12) {g : Nat → Int32} (hg : ∀ x, x ≤ 5 → g x = aSh A i x) : ∀ (d x f : Nat), x + d = 6 → d < f → R_X3_isSame_L168 k (nI i) g f (nI x) = some (nI 6) := by
  intro d
  induction d with
  | zero =>
    intro x f hx hf
    obtain ⟨f, rfl⟩ : ∃ g, f = g + 1 := ⟨f - 1, by omega⟩
    obtain rfl : x = 6 := by omega
    rw [R_X3_isSame_L168, if_pos (by decide)]
  | succ d ih =>
    intro x f hx hf
    obtain ⟨f, rfl⟩ : ∃ g, f = g + 1 := ⟨f - 1, by omega⟩
    rw [R_X3_isSame_L168, if_neg (show ¬ (6 : Int32) ≤ nI x from nI_ge (b := 6) (by omega) (by omega)), c_shelf h hk hi (by omega)]
    show (if inb (nI x) 6 = true then if aSh A i x = g (nI x).toNatClampNeg then R_X3_isSame_L168 k (nI i) g f (nI x + 1) else none else none) = _
    rw [if_pos (inb_nI (by omega) (by omega)), cl (by omega), if_pos (hg x (by omega)).symm, nI_1]
    exact ih (x + 1) f (by omega) (by omega)
theorem w_289 (h : WF n A) (hk : KR k A) (hs : SR z A) {i : Nat} (hi : i < 12) (h0 : p_o A i ≠ 0) {g : Nat → Int32} (hg : g 3 = nI (p_ps A i)) : ∀ (d q f : Nat), q + d = p_ps A i → d < f → R_X3_isSame_L289 k z (nI i) g f (nI q) = some (nI (p_ps A i)) := by
  have hps := w_ps h hi
  intro d
  induction d with
  | zero =>
    intro q f hq hf
    obtain ⟨f, rfl⟩ : ∃ g, f = g + 1 := ⟨f - 1, by omega⟩
    rw [R_X3_isSame_L289, if_pos (by decide), zc3, hg, if_pos (nI_le (by omega) (by omega)), show q = p_ps A i by omega]
  | succ d ih =>
    intro q f hq hf
    obtain ⟨f, rfl⟩ : ∃ g, f = g + 1 := ⟨f - 1, by omega⟩
    obtain ⟨s1, s2, s3⟩ := plc_spot h hi (show q < p_ps A i by omega)
    have epl : R_X2_place k (nI (24 * i + p_rs A i + q * p_zs A i)) (2 : Int32) = some (.ok (nI (b1 ((p_b A i).testBit q)))) := by
      refine (c_place h hk (x := 2) s1 (by omega)).trans ?_
      unfold plV
      rw [s3, s2]
      rfl
    rw [R_X3_isSame_L289, if_pos (by decide), zc3, hg, if_neg (nI_ge (by omega) (by omega)), u_spot h hs hi h0, Option.bind_some, epl]
    show (if inb (nI i) 12 = true then if inb (nI q) (zL z (nI i).toNatClampNeg) = true then ((if zB z (nI i).toNatClampNeg (nI q).toNatClampNeg = 0 then some (0 : Int32) else some (1 : Int32)) : Option Int32).bind fun v319 => if nI (b1 ((p_b A i).testBit q)) = v319 then R_X3_isSame_L289 k z (nI i) g f (nI q + 1) else none else none else none) = _
    rw [if_pos (nI_inb hi), nI_cl hi, hs.l hi, if_pos (inb_nI (by omega) (by omega)), cl (by omega), hs.b hi (by omega), nI_1]
    by_cases hb : (p_b A i).testBit q = true
    · rw [if_neg (bt_0 hb), Option.bind_some, if_pos (by rw [hb]; rfl)]
      exact ih (q + 1) f (by omega) (by omega)
    · rw [if_pos (b1_f hb), Option.bind_some, if_pos (b1_f hb)]
      exact ih (q + 1) f (by omega) (by omega)
theorem u_cnt0 {i : Nat} (h0 : fr A i = true) (g r : Nat → Int32) (K : (Nat → Int32) → Int32 → Option ((Nat → Int32) × Int32)) (hi : i < 12) : zCnt k z g (nI i) (nI (b1 (fr A i))) r K = K (upd g 2 (g 2 + 1)) (nI (i + 1)) := by
  unfold zCnt
  rw [h0, if_pos (by decide), if_neg (by decide), Option.bind_some, if_pos (by decide), Option.bind_some, if_neg (by decide), zc2, nI_1]
theorem u_cnt1 (h : WF n A) (hk : KR k A) (hs : SR z A) {i : Nat} (hi : i < 12) (h0 : p_o A i ≠ 0) (g r : Nat → Int32) (hr : ∀ x, x ≤ 5 → r x = aSh A i x) (K : (Nat → Int32) → Int32 → Option ((Nat → Int32) × Int32)) : ∃ g', zCnt k z g (nI i) (nI (b1 (fr A i))) r K = K g' (nI (i + 1)) ∧ g' 2 = g 2 ∧ g' 3 = g 3 + nI (pc (p_b A i)) ∧ g' 4 = g 4 + nI (pc (p_b A i) * p_zs A i) ∧ g' 5 = g 5 + nI (24 - pc (p_b A i) * p_zs A i) ∧ g' 6 = g 6 + nI (24 - p_ps A i * p_zs A i) ∧ ∀ x, x < 2 ∨ 6 < x → g' x = g x := by
  have h5 := h.1
  have hlt := ow_lt h hi h0
  have ef : fr A i = false := by simp [fr, h0]
  have hz := w_z h hlt
  have r0 : r 0 = nI (p_o A i - 1) := (hr 0 (by omega)).trans (if_neg h0)
  have r1 : r 1 = nI (pc (p_b A i)) := hr 1 (by omega)
  have r3 : r 3 = nI (p_ps A i) := hr 3 (by omega)
  have e289 := w_289 h hk hs hi h0 r3 (p_ps A i) 0 FU (Nat.zero_add _) (by have := w_ps h hi; unfold FU; omega)
  have e289' : R_X3_isSame_L289 k z (nI i) r FU (0 : Int32) = some (nI (p_ps A i)) := e289
  have ediv : (24 : Int32) / nI (p_z A (p_o A i - 1)) = nI (p_pl A (p_o A i - 1)) := pk_div (a := 24) (by omega) (by omega) (by omega)
  have m1 : pc (p_b A i) * p_z A (p_o A i - 1) ≤ 24 := by have := pc_zs h hi; rw [zs_I h0] at this; exact this
  have m2 : p_pl A (p_o A i - 1) * p_z A (p_o A i - 1) ≤ 24 := by have := ps_zs h hi; rw [zs_I h0, ps_I h0] at this; exact this
  have s1 : (24 : Int32) - nI (pc (p_b A i) * p_z A (p_o A i - 1)) = nI (24 - pc (p_b A i) * p_z A (p_o A i - 1)) := pk_sub (a := 24) m1
  have s2 : (24 : Int32) - nI (p_pl A (p_o A i - 1) * p_z A (p_o A i - 1)) = nI (24 - p_pl A (p_o A i - 1) * p_z A (p_o A i - 1)) := pk_sub (a := 24) m2
  rw [zs_I h0, ps_I h0]
  unfold zCnt
  rw [ef, if_pos (by decide), if_pos (by decide), Option.bind_some, if_pos (by decide), Option.bind_some, if_pos (by decide), if_pos (by decide), zc0, zc1, r0, r1, hs.nn, if_pos (inb_nI hlt (by omega)), if_pos (by decide), if_pos (by decide), if_pos (by decide), Option.bind_some, if_pos (by decide), Option.bind_some, if_pos (by decide), if_pos (by decide), cl (by omega), (hs.2.1 _ hlt).1, Option.bind_some, if_pos (by decide), Option.bind_some, if_pos (by decide), if_pos (by decide), Option.bind_some, if_pos (by decide), Option.bind_some, if_pos (by decide), if_pos (nI_ne0 (by omega) (by omega)), Option.bind_some, if_pos (by decide), Option.bind_some, e289', Option.bind_some, nI_1, ediv, pk_mul, pk_mul, s1, s2, zc2, zc3, zc4, zc5, zc6]
  refine ⟨_, rfl, ?_, ?_, ?_, ?_, ?_, fun x hx => ?_⟩
  · simp [upd]
  · simp [upd]
  · simp [upd]
  · simp [upd]
  · simp [upd]
  · simp only [upd]
    rw [if_neg (by omega), if_neg (by omega), if_neg (by omega), if_neg (by omega), if_neg (by omega)]
theorem u_67 (h : WF n A) (hk : KR k A) (hs : SR z A) : ∀ (d i f : Nat) (g : Nat → Int32) (c2 c3 c4 c5 c6 : Nat), i + d = 12 → d < f → g 2 = nI c2 → g 3 = nI c3 → g 4 = nI c4 → g 5 = nI c5 → g 6 = nI c6 → ∃ g', R_X3_isSame_L67 k z f g (nI i) = some (g', nI 12) ∧ g' 2 = nI (fo (fun a q => a + b1 (fr A q)) d i c2) ∧ g' 3 = nI (fo (fun a q => a + pc (p_b A q)) d i c3) ∧ g' 4 = nI (fo (fun a q => a + pc (p_b A q) * p_zs A q) d i c4) ∧ g' 5 = nI (fo (fun a q => a + vs5 A q) d i c5) ∧ g' 6 = nI (fo (fun a q => a + vN A q) d i c6) ∧ ∀ x, x < 2 ∨ 6 < x → g' x = g x := by
  intro d
  induction d with
  | zero =>
    intro i f g c2 c3 c4 c5 c6 hi hf e2 e3 e4 e5 e6
    obtain ⟨f, rfl⟩ : ∃ g, f = g + 1 := ⟨f - 1, by omega⟩
    obtain rfl : i = 12 := by omega
    exact ⟨g, by rw [same67_eq, if_pos (by decide)], e2, e3, e4, e5, e6, fun _ _ => rfl⟩
  | succ d ih =>
    intro i f g c2 c3 c4 c5 c6 hi hf e2 e3 e4 e5 e6
    obtain ⟨f, rfl⟩ : ∃ g, f = g + 1 := ⟨f - 1, by omega⟩
    have hi2 : i < 12 := by omega
    obtain ⟨r, er, hr⟩ := u_zRow h hs hi2 (fun v81 gx162 => (R_X3_isSame_L168 k (nI i) gx162 FU (0 : Int32)).bind fun v168 => zCnt k z g (nI i) v81 gx162 (fun g x => R_X3_isSame_L67 k z f g x))
    have e168 : R_X3_isSame_L168 k (nI i) r FU (0 : Int32) = some (nI 6) := w_168 h hk hi2 hr 6 0 FU rfl (by decide)
    rw [same67_eq, if_neg (nI_nge hi2), er]
    show ∃ g', ((R_X3_isSame_L168 k (nI i) r FU (0 : Int32)).bind fun v168 => zCnt k z g (nI i) (nI (b1 (fr A i))) r (fun g x => R_X3_isSame_L67 k z f g x)) = _ ∧ _
    rw [e168, Option.bind_some]
    by_cases h0 : p_o A i = 0
    · have ef : fr A i = true := by simp [fr, h0]
      have hb := (w_fr h hi2 h0).1
      have ep : pc (p_b A i) = 0 := by rw [hb]; decide +kernel
      rw [u_cnt0 ef g r _ hi2]
      obtain ⟨g', r0, r2, r3, r4, r5, r6, r8⟩ := ih (i + 1) f (upd g 2 (g 2 + 1)) (c2 + 1) c3 c4 c5 c6 (by omega) (by omega) (by unfold upd; rw [if_pos rfl, e2, nI_1]) (by unfold upd; rw [if_neg (by omega)]; exact e3) (by unfold upd; rw [if_neg (by omega)]; exact e4) (by unfold upd; rw [if_neg (by omega)]; exact e5) (by unfold upd; rw [if_neg (by omega)]; exact e6)
      refine ⟨g', r0, ?_, ?_, ?_, ?_, ?_, fun x hx => (r8 x hx).trans (by unfold upd; rw [if_neg (by omega)])⟩
      · rw [r2, fo, ef]; rfl
      · rw [r3, fo, ep]; rfl
      · rw [r4, fo, ep, Nat.zero_mul]; rfl
      · rw [r5, fo, show vs5 A i = 0 from if_pos h0]; rfl
      · rw [r6, fo, show vN A i = 0 from if_pos h0]; rfl
    · have ef : fr A i = false := by simp [fr, h0]
      obtain ⟨g1, q0, q2, q3, q4, q5, q6, q8⟩ := u_cnt1 h hk hs hi2 h0 g r hr (fun g x => R_X3_isSame_L67 k z f g x)
      rw [q0]
      rw [e2] at q2
      rw [e3, nI_add] at q3
      rw [e4, nI_add] at q4
      rw [e5, nI_add] at q5
      rw [e6, nI_add] at q6
      obtain ⟨g', r0, r2, r3, r4, r5, r6, r8⟩ := ih (i + 1) f g1 _ _ _ _ _ (by omega) (by omega) q2 q3 q4 q5 q6
      refine ⟨g', r0, ?_, ?_, ?_, ?_, ?_, fun x hx => (r8 x hx).trans (q8 x hx)⟩
      · rw [r2, fo, ef]; rfl
      · rw [r3, fo]
      · rw [r4, fo]
      · rw [r5, fo, show vs5 A i = 24 - pc (p_b A i) * p_zs A i from if_neg h0]
      · rw [r6, fo, show vN A i = 24 - p_ps A i * p_zs A i from if_neg h0]
theorem vs5_sum (h : WF n A) : sm (vs5 A) 12 = (12 - nF A) * 24 - nU A := by
  have h1 : sm (vs5 A) 12 + nU A = sm (fun q => 24 * (1 - b1 (fr A q))) 12 := by
    unfold nU
    rw [← sm_add]
    refine sm_congr (fun q hq => ?_)
    have := pc_zs h hq
    by_cases ho : p_o A q = 0
    · have hb := (w_fr h hq ho).1
      simp [vs5, fr, ho, p_zs, b1]
    · simp [vs5, fr, ho, b1]; omega
  rw [sm_mul] at h1
  have h2 : sm (fun q => 1 - b1 (fr A q)) 12 + nF A = 12 := by
    unfold nF
    rw [← sm_add, sm_congr (g := fun _ => 1) (fun q _ => by have := b1_le (fr A q); omega), sm_const]
  omega
theorem w_346 (h : WF n A) (hk : KR k A) {v : (Nat → Int32) × Int32} (hv : ∀ x, x ≤ 9 → v.1 x = aCo A x) : ∀ (d x f : Nat), x + d = 10 → d < f → R_X3_isSame_L346 k v f (nI x) = some (nI 10) := by
  intro d
  induction d with
  | zero =>
    intro x f hx hf
    obtain ⟨f, rfl⟩ : ∃ g, f = g + 1 := ⟨f - 1, by omega⟩
    obtain rfl : x = 10 := by omega
    rw [R_X3_isSame_L346, if_pos (by decide)]
  | succ d ih =>
    intro x f hx hf
    obtain ⟨f, rfl⟩ : ∃ g, f = g + 1 := ⟨f - 1, by omega⟩
    rw [R_X3_isSame_L346, if_neg (show ¬ (10 : Int32) ≤ nI x from nI_ge (b := 10) (by omega) (by omega)), s_count h hk (by omega)]
    show (if inb (nI x) 10 = true then if aCo A x = v.1 (nI x).toNatClampNeg then R_X3_isSame_L346 k v f (nI x + 1) else none else none) = _
    rw [if_pos (inb_nI (by omega) (by omega)), cl (by omega), if_pos (hv x (by omega)).symm, nI_1]
    exact ih (x + 1) f (by omega) (by omega)
theorem w_392 (h : WF n A) (hk : KR k A) {j : Nat} (hj : j < p_n A) {g : Nat → Int32} (hg : ∀ x, x < 9 → g x = aAb A j x) : ∀ (d x f : Nat), x + d = 9 → d < f → R_X3_isSame_L392 k (nI j) g f (nI x) = some (nI 9) := by
  intro d
  induction d with
  | zero =>
    intro x f hx hf
    obtain ⟨f, rfl⟩ : ∃ g, f = g + 1 := ⟨f - 1, by omega⟩
    obtain rfl : x = 9 := by omega
    rw [R_X3_isSame_L392, if_pos (by decide)]
  | succ d ih =>
    intro x f hx hf
    obtain ⟨f, rfl⟩ : ∃ g, f = g + 1 := ⟨f - 1, by omega⟩
    rw [R_X3_isSame_L392, if_neg (show ¬ (9 : Int32) ≤ nI x from nI_ge (b := 9) (by omega) (by omega)), c_about h hk hj (by omega)]
    show (if inb (nI x) 9 = true then if aAb A j x = g (nI x).toNatClampNeg then R_X3_isSame_L392 k (nI j) g f (nI x + 1) else none else none) = _
    rw [if_pos (inb_nI (by omega) (by omega)), cl (by omega), if_pos (hg x (by omega)).symm, nI_1]
    exact ih (x + 1) f (by omega) (by omega)
theorem w_373 (h : WF n A) (hk : KR k A) (hs : SR z A) : ∀ (d j f : Nat), j + d = p_n A → d < f → R_X3_isSame_L373 k z f (nI j) = some (nI (p_n A)) := by
  have h5 := h.1
  intro d
  induction d with
  | zero =>
    intro j f hj hf
    obtain ⟨f, rfl⟩ : ∃ g, f = g + 1 := ⟨f - 1, by omega⟩
    rw [R_X3_isSame_L373, hs.nn, if_pos (nI_le (by omega) (by omega)), show j = p_n A by omega]
  | succ d ih =>
    intro j f hj hf
    obtain ⟨f, rfl⟩ : ∃ g, f = g + 1 := ⟨f - 1, by omega⟩
    obtain ⟨g, g1, g2⟩ := u_about h hs (show j < p_n A by omega)
    have e392 : R_X3_isSame_L392 k (nI j) g FU (0 : Int32) = some (nI 9) := w_392 h hk (show j < p_n A by omega) g2 9 0 FU rfl (by decide)
    rw [R_X3_isSame_L373, hs.nn, if_neg (nI_ge (by omega) (by omega)), g1, Option.bind_some, e392, Option.bind_some, nI_1]
    exact ih (j + 1) f (by omega) (by omega)
theorem mean_eq : ∀ a, a < 145 → ∀ t, t < 12 → Op.cmpValue (FP.dcmp (FP.ddiv (FP.i2d (nI a)) (FP.i2d (nI (t + 1)))) (FP.ddiv (FP.i2d (nI a)) (FP.i2d (nI (t + 1))))) .l = 0 := by decide +kernel
theorem u_isSame (h : WF n A) (hk : KR k A) (hs : SR z A) : R_X3_isSame k z = some () := by
  have h5 := h.1
  have hF := nF_le A
  have hA := nA_le A
  have e12 : (12 : Int32) - nI (nF A) = nI (12 - nF A) := pk_sub (a := 12) hF
  unfold R_X3_isSame
  rw [if_pos (by decide), Option.bind_some, if_pos (by decide), Option.bind_some, if_pos (by decide), Option.bind_some, if_pos (by decide), Option.bind_some, if_pos (by decide), Option.bind_some, if_pos (by decide), Option.bind_some, if_pos (by decide), Option.bind_some, if_pos (by decide), Option.bind_some, if_pos (by decide), Option.bind_some, if_pos (by decide), Option.bind_some, zc0, zc1, zc2, zc3, zc4, zc5, zc6, zc7, zc8, zc9]
  generalize hg : upd (upd (upd (upd (upd (upd (upd (upd (upd (upd (fun _ => (0 : Int32)) 0 (zF z 0)) 1 (nI (zN z))) 2 (0 : Int32)) 3 (0 : Int32)) 4 (0 : Int32)) 5 (0 : Int32)) 6 (0 : Int32)) 7 (zF z 2)) 8 (zF z 3)) 9 (zF z 1) = g
  obtain ⟨g', r0, r2, r3, r4, r5, r6, r8⟩ := u_67 h hk hs 12 0 13 g 0 0 0 0 0 rfl (by decide) (by rw [← hg]; rfl) (by rw [← hg]; rfl) (by rw [← hg]; rfl) (by rw [← hg]; rfl) (by rw [← hg]; rfl)
  rw [fo_sm0] at r2 r3 r4 r5 r6
  have r0' : R_X3_isSame_L67 k z 13 g (0 : Int32) = some (g', nI 12) := r0
  have hv : ∀ x, x ≤ 9 → (g', nI 12).1 x = aCo A x := fun x hx => by
    show g' x = aCo A x
    match x, hx with
    | 0, _ => rw [r8 0 (by omega), ← hg]; exact hs.1.1
    | 1, _ => rw [r8 1 (by omega), ← hg]; exact congrArg nI hs.nn
    | 2, _ => exact r2
    | 3, _ => exact r3
    | 4, _ => exact r4
    | 5, _ => rw [r5, show sm (fun q => vs5 A q) 12 = sm (vs5 A) 12 from rfl, vs5_sum h]; rfl
    | 6, _ => exact r6
    | 7, _ => rw [r8 7 (by omega), ← hg]; exact hs.1.2.2.1
    | 8, _ => rw [r8 8 (by omega), ← hg]; exact hs.1.2.2.2.1
    | 9, _ => rw [r8 9 (by omega), ← hg]; exact hs.1.2.1
  have e346 : R_X3_isSame_L346 k (g', nI 12) FU (0 : Int32) = some (nI 10) := w_346 h hk hv 10 0 FU rfl (by decide)
  have e373 : R_X3_isSame_L373 k z 6 (0 : Int32) = some (nI (p_n A)) := w_373 h hk hs (p_n A) 0 6 (Nat.zero_add _) (by omega)
  have v2 : g' 2 = nI (nF A) := r2
  have v3 : g' 3 = nI (nA A) := r3
  rw [r0', Option.bind_some, e346, Option.bind_some, e373, Option.bind_some]
  show ((R_X2_mean k).bind fun v429 => if inb (2 : Int32) (10) = true then ((if ¬ (g' 2) = (12 : Int32) then if inb (3 : Int32) (10) = true then if inb (2 : Int32) (10) = true then if n64b (FP.ddiv (FP.i2d (g' 3)) (FP.i2d ((12 : Int32) - (g' 2)))) = true then some (FP.ddiv (FP.i2d (g' 3)) (FP.i2d ((12 : Int32) - (g' 2)))) else none else none else none else some FP.dconst0) : Option (UInt64)).bind fun v437 => if ¬ (Op.cmpValue (FP.dcmp v429 v437) .l) = 0 then none else some () else none) = some ()
  rw [v2, v3, e12]
  by_cases h0 : 12 - nF A = 0
  · have em : R_X2_mean k = some FP.dconst0 := by
      unfold R_X2_mean
      rw [s_taken h hk, Option.bind_some, h0, if_neg (fun q => q rfl)]
    rw [em, Option.bind_some, if_pos (by decide), if_neg (fun q => q (by rw [show nF A = 12 by omega]; rfl)), Option.bind_some, if_neg (fun q => q (by decide +kernel))]
  · have hn := mean_ok (nA A) (by omega) (12 - nF A - 1) (by omega)
    have hc := mean_eq (nA A) (by omega) (12 - nF A - 1) (by omega)
    rw [show 12 - nF A - 1 + 1 = 12 - nF A by omega] at hn hc
    have em : R_X2_mean k = some (FP.ddiv (FP.i2d (nI (nA A))) (FP.i2d (nI (12 - nF A)))) := by
      unfold R_X2_mean
      rw [s_taken h hk, Option.bind_some, if_pos (nI_ne0 (by omega) (by omega)), s_all hk, Option.bind_some, if_pos hn]
    rw [em, Option.bind_some, if_pos (by decide), if_pos (fun q => h0 (by have := (nI_eq (b := 12) (by omega) (by omega)).mp q; omega)), if_pos (by decide), if_pos (by decide), if_pos hn, Option.bind_some, if_neg (fun q => q hc)]
end LP
