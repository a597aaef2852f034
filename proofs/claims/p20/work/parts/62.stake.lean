/-! taking and reaping, on the Sim's side -/
def tkP (A : AS) (a q : Nat) : Bool := (p_b A (a / 24)).testBit q && (24 * (a / 24) + p_rs A (a / 24) + q * p_zs A (a / 24) == a)
def tkQ (A : AS) (a : Nat) : Option Nat := fi (tkP A a) (p_ps A (a / 24)) 0
def tkA (A : AS) (a q : Nat) : AS := p_set (p_tm A (p_t A + 1)) (a / 24) (p_b A (a / 24) ^^^ 2 ^ q) (if p_b A (a / 24) ^^^ 2 ^ q = 0 then p_t A + 1 else -1)
section LP
variable {n : Nat} {A : AS} {k : KSt} {z : SSt}
theorem bit_in (h : WF n A) {i q : Nat} (hi : i < 12) (hb : (p_b A i).testBit q = true) : q < p_ps A i ∧ p_o A i ≠ 0 ∧ p_b A i ≠ 0 := by
  have h0 : p_b A i ≠ 0 := fun e => by rw [e, Nat.zero_testBit] at hb; cases hb
  refine ⟨Nat.not_le.mp fun hle => ?_, fun e => h0 (w_fr h hi e).1, h0⟩
  rw [tb_lt (w_b h hi) hle] at hb; cases hb
theorem WF.tk (h : WF n A) {a q : Nat} (hi : a / 24 < 12) (hb : (p_b A (a / 24)).testBit q = true) : WF n (tkA A a q) := by
  obtain ⟨g1, g2, -⟩ := bit_in h hi hb
  exact WF.set (A := p_tm A (p_t A + 1)) (show WF n (p_tm A (p_t A + 1)) from h) (xor_lt (w_b h hi) g1) (fun e => if_neg e) g2
theorem spot_lt (h : WF n A) {i q : Nat} (hi : i < 12) (hq : q < p_ps A i) : 24 * i + p_rs A i + q * p_zs A i < 1000 := by
  have h1 := ps_zs h hi
  have h2 := rs_lt h hi
  have h3 : q * p_zs A i ≤ p_ps A i * p_zs A i := Nat.mul_le_mul_right _ (by omega)
  omega
theorem u_takesL (h : WF n A) (hs : SR z A) {a : Nat} (ha : a < 288) : ∀ (d q f : Nat), q + d = p_ps A (a / 24) → d < f → match fi (tkP A a) d q with
    | none => R_X3_takes_L7 z (nI a) f (nI q) = some (-1, z)
    | some y => ∃ z', R_X3_takes_L7 z (nI a) f (nI q) = some (nI (pc (p_b A (a / 24) ^^^ 2 ^ y)), z') ∧ SR z' (tkA A a y) := by
  have hi : a / 24 < 12 := by omega
  have hps := w_ps h hi
  have ed : nI a / (24 : Int32) = nI (a / 24) := pk_div (a := a) (d := 24) (by omega) (by omega) (by omega)
  intro d
  induction d with
  | zero =>
    intro q f hq hf
    obtain ⟨f, rfl⟩ : ∃ g, f = g + 1 := ⟨f - 1, by omega⟩
    show R_X3_takes_L7 z (nI a) (f + 1) (nI q) = some (-1, z)
    rw [R_X3_takes_L7, ed, if_pos (nI_inb hi), nI_cl hi, hs.l hi, if_pos (nI_le (by omega) (by omega))]
  | succ d ih =>
    intro q f hq hf
    obtain ⟨f, rfl⟩ : ∃ g, f = g + 1 := ⟨f - 1, by omega⟩
    have hq12 : q < p_ps A (a / 24) := by omega
    have hz : p_o A (a / 24) ≠ 0 := fun e => by
      have : p_ps A (a / 24) = 0 := if_pos e
      omega
    have hsp := spot_lt h hi hq12
    rw [fi]
    by_cases hp : tkP A a q = true
    · rw [if_pos hp]
      simp only [tkP, Bool.and_eq_true, beq_iff_eq] at hp
      obtain ⟨hb, he⟩ := hp
      obtain ⟨g1, g2, g3⟩ := bit_in h hi hb
      have ps1 := w_s h hi g3
      have hg : ∀ y, y < 12 → upd (zB z (a / 24)) q (vp_nar .boolean (0 : Int32)) y = nI (b1 ((p_b A (a / 24) ^^^ 2 ^ q).testBit y)) := off_bits hb (fun y hy => hs.b hi hy)
      have hlt : p_b A (a / 24) ^^^ 2 ^ q < 4096 := m_4096 (xor_lt (w_b h hi) g1) hps
      have hp12 := pc_12 (p_b A (a / 24) ^^^ 2 ^ q)
      have s1 : SR (zFs (zBs z (a / 24) (upd (zB z (a / 24)) q (vp_nar .boolean (0 : Int32)))) 0 (zF z 0 + 1)) (p_tm (p_set A (a / 24) (p_b A (a / 24) ^^^ 2 ^ q) (p_s A (a / 24))) (zF z 0 + 1)) := (SR.setB hs hi hg).tm _
      have w1 : WF n (p_tm (p_set A (a / 24) (p_b A (a / 24) ^^^ 2 ^ q) (p_s A (a / 24))) (zF z 0 + 1)) := WF.set h (xor_lt (w_b h hi) g1) (fun _ => ps1) hz
      have eb : p_b (p_tm (p_set A (a / 24) (p_b A (a / 24) ^^^ 2 ^ q) (p_s A (a / 24))) (zF z 0 + 1)) (a / 24) = p_b A (a / 24) ^^^ 2 ^ q := if_pos rfl
      have m1 := u_many w1 s1 hi
      rw [eb] at m1
      show ∃ z', R_X3_takes_L7 z (nI a) (f + 1) (nI q) = _ ∧ _
      rw [R_X3_takes_L7, ed, if_pos (nI_inb hi), nI_cl hi, hs.l hi, if_neg (nI_ge hq12 (by omega)), if_pos (nI_inb hi), if_pos (inb_nI hq12 (by omega)), cl (by omega), hs.b hi (by omega), if_neg (bt_0 hb), u_spot h hs hi hz, Option.bind_some, if_pos (congrArg nI he), if_pos (nI_inb hi), if_pos (inb_nI hq12 (by omega)), Option.bind_some, Option.bind_some, zF_Bs, m1, Option.bind_some]
      by_cases e0 : p_b A (a / 24) ^^^ 2 ^ q = 0
      · rw [if_neg (fun y => y (by rw [e0]; decide +kernel)), if_pos (nI_inb hi), if_pos (by decide), Option.bind_some, Option.bind_some, zc2]
        have s2 : SR (zHs (zFs (zBs z (a / 24) (upd (zB z (a / 24)) q (vp_nar .boolean (0 : Int32)))) 0 (zF z 0 + 1)) (a / 24) (upd (zH (zFs (zBs z (a / 24) (upd (zB z (a / 24)) q (vp_nar .boolean (0 : Int32)))) 0 (zF z 0 + 1)) (a / 24)) 2 (zF (zFs (zBs z (a / 24) (upd (zB z (a / 24)) q (vp_nar .boolean (0 : Int32)))) 0 (zF z 0 + 1)) 0))) (tkA A a q) := by
          have t1 := (SR.set hs (i := a / 24) (b := p_b A (a / 24) ^^^ 2 ^ q) (s := p_t A + 1) (r := upd (zH z (a / 24)) 2 (p_t A + 1)) hg (by unfold upd; rw [if_neg (by omega)]) (by unfold upd; rw [if_neg (by omega)]) (by unfold upd; rw [if_pos rfl])).tm (p_t A + 1)
          unfold tkA
          rw [if_pos e0, hs.1.1]
          exact t1
        have m2 := u_many (WF.tk h hi hb) s2 hi
        rw [show p_b (tkA A a q) (a / 24) = p_b A (a / 24) ^^^ 2 ^ q from if_pos rfl] at m2
        rw [m2]
        exact ⟨_, rfl, s2⟩
      · rw [if_pos (nI_ne0 (Nat.pos_of_ne_zero fun y => e0 (bit_0 _ hlt y)) (by omega)), Option.bind_some, m1]
        refine ⟨_, rfl, ?_⟩
        unfold tkA
        rw [if_neg e0]
        rw [ps1, hs.1.1] at s1
        rw [hs.1.1]
        exact s1
    · rw [if_neg hp]
      have e : R_X3_takes_L7 z (nI a) (f + 1) (nI q) = R_X3_takes_L7 z (nI a) f (nI (q + 1)) := by
        rw [R_X3_takes_L7, ed, if_pos (nI_inb hi), nI_cl hi, hs.l hi, if_neg (nI_ge hq12 (by omega)), if_pos (nI_inb hi), if_pos (inb_nI hq12 (by omega)), cl (by omega), hs.b hi (by omega), nI_1 q]
        by_cases hb : (p_b A (a / 24)).testBit q = true
        · rw [if_neg (bt_0 hb), u_spot h hs hi hz, Option.bind_some, if_neg (fun y => hp (by
            have := (nI_eq (by omega) (by omega)).mp y
            simp only [tkP, hb, Bool.true_and, beq_iff_eq]; exact this))]
        · rw [if_pos (b1_f hb)]
      rw [e]
      exact ih (q + 1) f (by omega) (by omega)
theorem u_takes (h : WF n A) (hs : SR z A) {a : Nat} (ha : a < 288) : match tkQ A a with
    | none => R_X3_takes z (nI a) = some (-1, z)
    | some y => ∃ z', R_X3_takes z (nI a) = some (nI (pc (p_b A (a / 24) ^^^ 2 ^ y)), z') ∧ SR z' (tkA A a y) :=
  u_takesL h hs ha (p_ps A (a / 24)) 0 FU (Nat.zero_add _) (by have := w_ps h (i := a / 24) (by omega); unfold FU; omega)
theorem SR.free (hs : SR z A) {i : Nat} {r g : Nat → Int32} (hb : p_b A i = 0) (h0 : r 0 = -1) (h2 : r 2 = -1) (hg : ∀ q, g q = 0) : SR (zLs (zHs z i r) i 0 g) (p_free A i) := by
  refine ⟨hs.1, hs.2.1, fun x hx => ?_⟩
  obtain ⟨g1, g2, g3, g4, g5⟩ := hs.2.2 x hx
  rw [zH_Ls, zL_Ls, zB_Ls, zH_Hs, zL_Hs, zB_Hs]
  by_cases e : x = i
  · subst e
    have eo : p_o (p_free A x) x = 0 := if_pos rfl
    rw [if_pos rfl, if_pos rfl, if_pos rfl]
    refine ⟨?_, fun q => absurd eo q, ?_, ?_, fun q _ => ?_⟩
    · rw [h0]; unfold p_oI; rw [if_pos eo]
    · rw [h2]; exact (if_pos rfl : p_s (p_free A x) x = -1).symm
    · unfold p_ps; rw [if_pos eo]
    · rw [hg]; show (0 : Int32) = nI (b1 ((p_b A x).testBit q)); rw [hb, Nat.zero_testBit]; rfl
  · have eo : p_o (p_free A i) x = p_o A x := if_neg e
    have e1 : p_oI (p_free A i) x = p_oI A x := by unfold p_oI; rw [eo]
    have e3 : p_ps (p_free A i) x = p_ps A x := by unfold p_ps; rw [eo]; rfl
    have e5 : p_s (p_free A i) x = p_s A x := if_neg e
    rw [if_neg e, if_neg e, if_neg e, e1, e3, e5, eo]
    exact ⟨g1, g2, g3, g4, g5⟩
theorem WT.free (hw : WT n A) (i : Nat) : WT n (p_free A i) := by
  obtain ⟨w, t, ht, et, hu⟩ := hw
  refine ⟨w, t, ht, et, fun x hx ho hb => ?_⟩
  have e : x ≠ i := fun e => ho (if_pos e)
  rw [show p_o (p_free A i) x = p_o A x from if_neg e] at ho
  rw [show p_s (p_free A i) x = p_s A x from if_neg e]
  exact hu x hx ho hb
theorem u_reapL (hn : n < 512) {a : Nat} (ha : a ≤ 99) : ∀ (d i f c : Nat) (A : AS) (z : SSt), i + d = 12 → d < f → WF n A → WT n A → SR z A → ∃ z', R_X3_reaps_L4 (nI a) f z (nI i) (nI c) = some (nI (fo (rpF (nI a)) d i (A, c)).2, z') ∧ SR z' (fo (rpF (nI a)) d i (A, c)).1 ∧ WT n (fo (rpF (nI a)) d i (A, c)).1 := by
  intro d
  induction d with
  | zero =>
    intro i f c A z hi hf h hw hs
    obtain ⟨f, rfl⟩ : ∃ g, f = g + 1 := ⟨f - 1, by omega⟩
    obtain rfl : i = 12 := by omega
    exact ⟨z, by rw [R_X3_reaps_L4, if_pos (by decide)]; rfl, hs, hw⟩
  | succ d ih =>
    intro i f c A z hi hf h hw hs
    obtain ⟨f, rfl⟩ : ∃ g, f = g + 1 := ⟨f - 1, by omega⟩
    have hi2 : i < 12 := by omega
    rw [R_X3_reaps_L4, if_neg (nI_nge hi2), if_pos (nI_inb hi2), if_pos (by decide), nI_cl hi2, zc2, hs.s hi2, fo, nI_1 i]
    have skip : ¬ (p_o A i ≠ 0 ∧ p_b A i = 0 ∧ ¬ (p_t A - p_s A i < nI a)) → rpF (nI a) (A, c) i = (A, c) := fun y => if_neg y
    by_cases ho : p_o A i ≠ 0 ∧ p_b A i = 0
    · obtain ⟨hw0, t, ht, et, hu⟩ := id hw
      obtain ⟨u, hu1, eu⟩ := hu i hi2 ho.1 ho.2
      have hcond : (p_t A - p_s A i < nI a) ↔ ¬ (u + a ≤ t) := by
        rw [et, eu, pk_sub hu1, nI_ltI (by omega) (by omega)]; omega
      rw [eu, if_neg (nI_pos (by omega)), if_pos (nI_inb hi2), if_pos (by decide), hs.1.1, et, nI_add]
      by_cases hle : u + a ≤ t
      · rw [if_pos (nI_le hle (by omega)), if_pos (by decide), Option.bind_some, if_pos (by decide), Option.bind_some, if_pos (by decide), Option.bind_some, if_pos (nI_inb hi2), Option.bind_some, if_pos (nI_inb hi2), Option.bind_some, Option.bind_some, nI_1 c, show rpF (nI a) (A, c) i = (p_free A i, c + 1) from if_pos ⟨ho.1, ho.2, fun y => hcond.mp y hle⟩, zc0, zc1]
        exact ih (i + 1) f (c + 1) (p_free A i) _ (by omega) (by omega) (h.free ho.2) (hw.free i) (SR.free hs ho.2 (by unfold upd; rw [if_neg (by omega), if_neg (by omega), if_pos rfl]) (by unfold upd; rw [if_pos rfl]) (fun _ => rfl))
      · rw [if_neg (nI_ge (by omega) (by omega)), Option.bind_some, skip (fun y => y.2.2 (hcond.mpr hle))]
        exact ih (i + 1) f c A z (by omega) (by omega) h hw hs
    · have es : p_s A i = -1 := by
        by_cases h0 : p_o A i = 0
        · exact (w_fr h hi2 h0).2
        · exact w_s h hi2 (fun e => ho ⟨h0, e⟩)
      rw [es, if_pos (by decide), Option.bind_some, skip (fun y => ho ⟨y.1, y.2.1⟩)]
      exact ih (i + 1) f c A z (by omega) (by omega) h hw hs
theorem u_reaps (hn : n < 512) {a : Nat} (ha : a ≤ 99) (h : WF n A) (hw : WT n A) (hs : SR z A) : ∃ z', R_X3_reaps z (nI a) = some (nI (fo (rpF (nI a)) 12 0 (A, 0)).2, z') ∧ SR z' (fo (rpF (nI a)) 12 0 (A, 0)).1 ∧ WT n (fo (rpF (nI a)) 12 0 (A, 0)).1 :=
  u_reapL hn ha 12 0 13 0 A z rfl (by decide) h hw hs
end LP
/-! packing, on the Sim's side -/
def zMv (zs2 : SSt) (v10 : Int32 × Int32) (p : Int32) (K : SSt → Option (Int32 × SSt)) : Option (Int32 × SSt) := if inb v10.2 (12) = true then (R_X3_packs_L127 zs2 v10 FU ((nI (zL zs2 (v10.2.toNatClampNeg))) - (1 : Int32))).bind fun v127 => if inb v10.2 (12) = true then if inb v127 (zL zs2 (v10.2.toNatClampNeg)) = true then (some (zBs zs2 (v10.2.toNatClampNeg) (upd (zB zs2 (v10.2.toNatClampNeg)) (v127.toNatClampNeg) (vp_nar .boolean (0 : Int32)))) : Option (SSt)).bind fun z154 => if inb p (12) = true then (R_X3_hole z154 p).bind fun v165 => if inb v165 (zL z154 (p.toNatClampNeg)) = true then (some (zBs z154 (p.toNatClampNeg) (upd (zB z154 (p.toNatClampNeg)) (v165.toNatClampNeg) (vp_nar .boolean (1 : Int32)))) : Option (SSt)).bind fun z169 => (R_X3_many z169 v10.2).bind fun v172 => ((if ¬ v172 = 0 then some z169 else if inb v10.2 (12) = true then if inb (2 : Int32) (3) = true then (some (zHs z169 (v10.2.toNatClampNeg) (upd (zH z169 (v10.2.toNatClampNeg)) ((2 : Int32).toNatClampNeg) (zF z169 0))) : Option (SSt)).bind fun z189 => some z189 else none else none) : Option (SSt)).bind fun v175 => (some (zFs v175 3 ((zF v175 3) + (1 : Int32))) : Option SSt).bind fun z197 => K z197 else none else none else none else none else none
theorem packs_eq (p1 : Int32) (n : Nat) (zs2 : SSt) (x2 : Int32) : R_X3_packs_L2 p1 (n + 1) zs2 x2 = (R_X3_packs_L10 p1 zs2 FU (0 : Int32) (-1 : Int32)).bind fun v10 => (R_X3_packs_L58 p1 zs2 v10 FU (11 : Int32) (-1 : Int32)).bind fun v58 => if 0 ≤ v58.2 then zMv zs2 v10 v58.2 (fun z197 => R_X3_packs_L2 p1 n z197 (x2 + (1 : Int32))) else some (x2, zs2) := by
  rw [R_X3_packs_L2]; rfl
def toU (A : AS) (j : Nat) (but : Option Nat) (i : Nat) : Bool := us A j i && decide (some i ≠ but)
def toM (A : AS) (i : Nat) : Nat := 12 - pc (p_b A i)
section LP
variable {n : Nat} {A : AS} {k : KSt} {z : SSt}
theorem toQ_dn (A : AS) (j : Nat) : toQ A j = fd (dnF (toU A j (frP A j)) (toM A)) 12 none := by
  rw [up_dn]
  unfold toQ
  refine fo_congr 12 0 none (fun a q _ _ => ?_)
  have hU : toU A j (frP A j) q = true ↔ us A j q = true ∧ some q ≠ frP A j := by simp only [toU, Bool.and_eq_true, decide_eq_true_eq]
  unfold moF upF
  by_cases hu : us A j q = true ∧ some q ≠ frP A j
  · rw [if_pos hu, if_pos (hU.mpr hu)]
    cases a with
    | none => rfl
    | some b =>
      have h1 := pc_12 (p_b A q)
      have h2 := pc_12 (p_b A b)
      show (if pc (p_b A b) < pc (p_b A q) then some q else some b) = (if 12 - pc (p_b A q) < 12 - pc (p_b A b) then some q else some b)
      by_cases hlt : pc (p_b A b) < pc (p_b A q)
      · rw [if_pos hlt, if_pos (by omega)]
      · rw [if_neg hlt, if_neg (by omega)]
  · rw [if_neg hu, if_neg (fun y => hu (hU.mp y))]
theorem u_L10 (h : WF n A) (hs : SR z A) {j : Nat} (hj : j < p_n A) : ∀ (d i f : Nat) (a : Option Nat), i + d = 12 → d < f → (∀ b, a = some b → b < 12) → R_X3_packs_L10 (nI j) z f (nI i) (oI a) = some (nI 12, oI (fo (laF A j) d i a)) := by
  intro d
  induction d with
  | zero =>
    intro i f a hi hf ha
    obtain ⟨f, rfl⟩ : ∃ g, f = g + 1 := ⟨f - 1, by omega⟩
    obtain rfl : i = 12 := by omega
    rw [R_X3_packs_L10, if_pos (by decide)]
    rfl
  | succ d ih =>
    intro i f a hi hf ha
    obtain ⟨f, rfl⟩ : ∃ g, f = g + 1 := ⟨f - 1, by omega⟩
    have hi2 : i < 12 := by omega
    have p1 := pc_12 (p_b A i)
    have hbody : (if nI (b1 (us A j i)) = 0 then some (oI a) else if oI a < 0 then some (nI i) else (R_X3_many z (nI i)).bind fun v34 => (R_X3_many z (oI a)).bind fun v39 => if v39 < v34 then some (oI a) else some (nI i)) = some (oI (laF A j a i)) := by
      unfold laF
      by_cases hu : us A j i = true
      · rw [if_neg (b1_t hu), if_pos hu]
        cases a with
        | none => rw [if_pos (show oI none < 0 by decide)]; rfl
        | some b =>
          have hb := ha b rfl
          have p2 := pc_12 (p_b A b)
          rw [if_neg (show ¬ oI (some b) < 0 from nI_pos (by omega)), u_many h hs hi2, Option.bind_some, show oI (some b) = nI b from rfl, u_many h hs hb, Option.bind_some]
          show _ = some (oI (if pc (p_b A i) ≤ pc (p_b A b) then some i else some b))
          by_cases hp : pc (p_b A i) ≤ pc (p_b A b)
          · rw [if_neg (nI_nlt hp (by omega)), if_pos hp]; rfl
          · rw [if_pos (nI_lt (by omega) (by omega)), if_neg hp]; rfl
      · rw [if_pos (b1_f hu), if_neg hu]
    rw [R_X3_packs_L10, if_neg (nI_nge hi2), u_isUsed h hs hi2 hj, Option.bind_some, hbody, Option.bind_some, nI_1, fo]
    refine ih (i + 1) f _ (by omega) (by omega) (fun b hb => ?_)
    rcases laF_or A j a i with e | e
    · rw [e] at hb; exact ha b hb
    · rw [e] at hb; cases hb; exact hi2
theorem u_L58 (h : WF n A) (hs : SR z A) {j : Nat} (hj : j < p_n A) (x10 : Int32) (fr : Option Nat) (hfr : ∀ b, fr = some b → b < 12) : ∀ (d f : Nat) (a : Option Nat), d ≤ 12 → d < f → (∀ b, a = some b → b < 12) → ∃ x, R_X3_packs_L58 (nI j) z (x10, oI fr) f (nI d - 1) (oI a) = some (x, oI (fd (dnF (toU A j fr) (toM A)) d a)) := by
  intro d
  induction d with
  | zero =>
    intro f a hd hf ha
    obtain ⟨f, rfl⟩ : ∃ g, f = g + 1 := ⟨f - 1, by omega⟩
    exact ⟨_, by rw [R_X3_packs_L58, if_pos (by decide)]; rfl⟩
  | succ d ih =>
    intro f a hd hf ha
    obtain ⟨f, rfl⟩ : ∃ g, f = g + 1 := ⟨f - 1, by omega⟩
    have hd2 : d < 12 := by omega
    have p1 := pc_12 (p_b A d)
    have heq : nI d = oI fr ↔ some d = fr := by
      cases fr with
      | none => exact ⟨fun e => absurd e (nI_m1 (by omega)), fun e => by cases e⟩
      | some b =>
        have := hfr b rfl
        rw [show oI (some b) = nI b from rfl, nI_eq (by omega) (by omega)]
        exact ⟨fun e => by rw [e], fun e => Option.some.inj e⟩
    have hbody : (if nI d = oI fr then some (oI a) else (R_X3_isUsed z (nI d) (nI j)).bind fun v73 => if v73 = 0 then some (oI a) else if oI a < 0 then some (nI d) else (R_X3_many z (nI d)).bind fun v87 => (R_X3_many z (oI a)).bind fun v93 => if v87 < v93 then some (oI a) else some (nI d)) = some (oI (dnF (toU A j fr) (toM A) a d)) := by
      unfold dnF
      by_cases hne : some d = fr
      · rw [if_pos (heq.mpr hne), if_neg (by simp [toU, hne])]
      · rw [if_neg (fun y => hne (heq.mp y)), u_isUsed h hs hd2 hj, Option.bind_some]
        by_cases hu : us A j d = true
        · have hU : toU A j fr d = true := by simp [toU, hu, hne]
          rw [if_neg (b1_t hu), if_pos hU]
          cases a with
          | none => rw [if_pos (show oI none < 0 by decide)]; rfl
          | some b =>
            have hb := ha b rfl
            have p2 := pc_12 (p_b A b)
            rw [if_neg (show ¬ oI (some b) < 0 from nI_pos (by omega)), u_many h hs hd2, Option.bind_some, show oI (some b) = nI b from rfl, u_many h hs hb, Option.bind_some]
            show _ = some (oI (if 12 - pc (p_b A d) ≤ 12 - pc (p_b A b) then some d else some b))
            by_cases hp : pc (p_b A d) < pc (p_b A b)
            · rw [if_pos (nI_lt hp (by omega)), if_neg (by omega)]; rfl
            · rw [if_neg (nI_nlt (by omega) (by omega)), if_pos (by omega)]; rfl
        · rw [if_pos (b1_f hu), if_neg (by simp [toU, hu])]
    rw [nI_pred, R_X3_packs_L58, if_neg (nI_pos (by omega))]
    show ∃ x, ((if nI d = oI fr then some (oI a) else (R_X3_isUsed z (nI d) (nI j)).bind fun v73 => if v73 = 0 then some (oI a) else if oI a < 0 then some (nI d) else (R_X3_many z (nI d)).bind fun v87 => (R_X3_many z (oI a)).bind fun v93 => if v87 < v93 then some (oI a) else some (nI d)).bind fun v66 => R_X3_packs_L58 (nI j) z (x10, oI fr) f (nI d + (-1 : Int32)) v66) = _
    rw [hbody, Option.bind_some, show nI d + (-1 : Int32) = nI d - 1 by rw [Int32.sub_eq_add_neg], fd]
    exact ih f _ (by omega) (by omega) (dn_lt hd2 ha)
theorem u_L127 (hs : SR z A) {i : Nat} (hi : i < 12) (hp : p_ps A i ≤ 12) (x10 : Int32) : ∀ (d f y : Nat), d ≤ p_ps A i → d < f → gr (fun x => (p_b A i).testBit x) d = some y → R_X3_packs_L127 z (x10, nI i) f (nI d - 1) = some (nI y) := by
  intro d
  induction d with
  | zero => intro f y _ _ h; cases h
  | succ d ih =>
    intro f y hd hf hg
    obtain ⟨f, rfl⟩ : ∃ g, f = g + 1 := ⟨f - 1, by omega⟩
    rw [gr] at hg
    rw [nI_pred, R_X3_packs_L127]
    show (if inb (nI i) 12 = true then if inb (nI d) (zL z (nI i).toNatClampNeg) = true then if ¬ zB z (nI i).toNatClampNeg (nI d).toNatClampNeg = 0 then some (nI d) else R_X3_packs_L127 z (x10, nI i) f (nI d + (-1 : Int32)) else none else none) = _
    rw [if_pos (nI_inb hi), nI_cl hi, hs.l hi, if_pos (inb_nI (by omega) (by omega)), cl (by omega), hs.b hi (by omega)]
    by_cases hb : (p_b A i).testBit d = true
    · rw [if_pos hb] at hg
      rw [if_pos (bt_0 hb)]
      cases hg; rfl
    · rw [if_neg hb] at hg
      rw [if_neg (fun q => q (b1_f hb)), show nI d + (-1 : Int32) = nI d - 1 by rw [Int32.sub_eq_add_neg]]
      exact ih f y (by omega) (by omega) hg
theorem o_set (A : AS) (i b : Nat) (s : Int32) (x : Nat) : p_o (p_set A i b s) x = p_o A x := rfl
theorem oI_set (A : AS) (i b : Nat) (s : Int32) (x : Nat) : p_oI (p_set A i b s) x = p_oI A x := rfl
theorem ps_set (A : AS) (i b : Nat) (s : Int32) (x : Nat) : p_ps (p_set A i b s) x = p_ps A x := rfl
theorem r_set (A : AS) (i b : Nat) (s : Int32) (x : Nat) : p_r (p_set A i b s) x = p_r A x := rfl
theorem tt_set (A : AS) (i b : Nat) (s : Int32) : p_t (p_set A i b s) = p_t A := rfl
theorem w_set (A : AS) (i b : Nat) (s : Int32) : p_w (p_set A i b s) = p_w A := rfl
theorem pp_set (A : AS) (i b : Nat) (s : Int32) : p_p (p_set A i b s) = p_p A := rfl
theorem m_set (A : AS) (i b : Nat) (s : Int32) : p_m (p_set A i b s) = p_m A := rfl
theorem n_set (A : AS) (i b : Nat) (s : Int32) : p_n (p_set A i b s) = p_n A := rfl
theorem z_set (A : AS) (i b : Nat) (s : Int32) (x : Nat) : p_z (p_set A i b s) x = p_z A x := rfl
theorem g_set (A : AS) (i b : Nat) (s : Int32) (x : Nat) : p_g (p_set A i b s) x = p_g A x := rfl
/-- what the Sim's state says of a kitchen with two shelves' bowls changed, in the unchanged one's words -/
theorem SR.two {z : SSt} {A : AS} {f t b1' b2 : Nat} {s1 s2 : Int32} : SR z (p_set (p_set A f b1' s1) t b2 s2) ↔ (zF z 0 = p_t A ∧ zF z 1 = p_w A ∧ zF z 2 = p_p A ∧ zF z 3 = p_m A ∧ zN z = p_n A) ∧
  (∀ j, j < p_n A → zK z j 0 = nI (p_z A j) ∧ zK z j 1 = nI (p_g A j)) ∧
  ∀ i, i < 12 → zH z i 0 = p_oI A i ∧ (p_o A i ≠ 0 → zH z i 1 = nI (p_r A i)) ∧ zH z i 2 = (if i = t then s2 else if i = f then s1 else p_s A i) ∧ zL z i = p_ps A i ∧ ∀ q, q < 12 → zB z i q = nI (b1 ((if i = t then b2 else if i = f then b1' else p_b A i).testBit q)) := by
  unfold SR
  simp only [o_set, oI_set, ps_set, r_set, tt_set, w_set, pp_set, m_set, n_set, z_set, g_set, s_set, b_set]
/-- the time of an emptied shelf, set later -/
theorem SR.since {f t b1' b2 : Nat} {s1 s1' s2 : Int32} {r : Nat → Int32} (hs : SR z (p_set (p_set A f b1' s1) t b2 s2)) (hne : t ≠ f) (h0 : r 0 = zH z f 0) (h1 : r 1 = zH z f 1) (h2 : r 2 = s1') : SR (zHs z f r) (p_set (p_set A f b1' s1') t b2 s2) := by
  rw [SR.two] at hs ⊢
  obtain ⟨a1, a2, a3⟩ := hs
  refine ⟨a1, a2, fun x hx => ?_⟩
  obtain ⟨g1, g2, g3, g4, g5⟩ := a3 x hx
  rw [zH_Hs, zL_Hs, zB_Hs]
  by_cases e : x = f
  · rw [if_pos e]
    refine ⟨?_, fun q => ?_, ?_, g4, g5⟩
    · rw [h0, ← e]; exact g1
    · rw [h1, ← e]; exact g2 q
    · rw [h2, if_neg (fun q => hne (q.symm.trans e)), if_pos e]
  · rw [if_neg e]
    refine ⟨g1, g2, ?_, g4, g5⟩
    rw [g3, if_neg e, if_neg e]
theorem u_mv (h : WF n A) (hs : SR z A) {j f t : Nat} (ef : frP A j = some f) (et : toQ A j = some t) (x10 : Int32) (K : SSt → Option (Int32 × SSt)) : ∃ z', zMv z (x10, nI f) (nI t) K = K z' ∧ SR z' (p_mo (mvA A f t) (p_m A + 1)) := by
  obtain ⟨f', e1, hf, hfu, ht, htu, hne, hle⟩ := toQ_fr et
  obtain rfl : f' = f := Option.some.inj (e1.symm.trans ef)
  obtain ⟨l1, l2, l3, -⟩ := lf_ok h hf hfu
  obtain ⟨q1, q2, q3⟩ := hq_ok h ht (us_o htu).2.2
  obtain ⟨of1, of2, of3⟩ := us_o hfu
  obtain ⟨ot1, ot2, ot3⟩ := us_o htu
  have hps := w_ps h hf
  have hpt := w_ps h ht
  have hlt : p_b A f' ^^^ 2 ^ lf A f' < 4096 := m_4096 (xor_lt (w_b h hf) l2) hps
  have hp12 := pc_12 (p_b A f' ^^^ 2 ^ lf A f')
  have hg1 : ∀ y, y < 12 → upd (zB z f') (lf A f') (vp_nar .boolean (0 : Int32)) y = nI (b1 ((p_b A f' ^^^ 2 ^ lf A f').testBit y)) := off_bits l3 (fun y hy => hs.b hf hy)
  -- the bowl is away
  have s1 : SR (zBs z f' (upd (zB z f') (lf A f') (vp_nar .boolean (0 : Int32)))) (p_set A f' (p_b A f' ^^^ 2 ^ lf A f') (p_s A f')) := SR.setB hs hf hg1
  have w1 : WF n (p_set A f' (p_b A f' ^^^ 2 ^ lf A f') (p_s A f')) := WF.set h (xor_lt (w_b h hf) l2) (fun _ => w_s h hf of2) (by omega)
  generalize hz1 : zBs z f' (upd (zB z f') (lf A f') (vp_nar .boolean (0 : Int32))) = z1 at s1
  have ebt : p_b (p_set A f' (p_b A f' ^^^ 2 ^ lf A f') (p_s A f')) t = p_b A t := by rw [b_set, if_neg hne]
  have eh : R_X3_hole z1 (nI t) = some (nI (hq A t)) := by
    have e2 : fi (fun x => !(p_b (p_set A f' (p_b A f' ^^^ 2 ^ lf A f') (p_s A f')) t).testBit x) (p_ps A t) 0 = some (hq A t) := by rw [ebt]; exact q1
    exact (u_hole w1 s1 ht).trans (congrArg some (congrArg oI e2))
  have hg2 : ∀ y, y < 12 → upd (zB z1 t) (hq A t) (vp_nar .boolean (1 : Int32)) y = nI (b1 ((p_b A t ||| 2 ^ hq A t).testBit y)) := on_bits (fun y hy => by rw [s1.b ht hy, ebt])
  have s2 : SR (zBs z1 t (upd (zB z1 t) (hq A t) (vp_nar .boolean (1 : Int32)))) (p_set (p_set A f' (p_b A f' ^^^ 2 ^ lf A f') (p_s A f')) t (p_b A t ||| 2 ^ hq A t) (p_s (p_set A f' (p_b A f' ^^^ 2 ^ lf A f') (p_s A f')) t)) := SR.setB s1 ht hg2
  have est : p_s (p_set A f' (p_b A f' ^^^ 2 ^ lf A f') (p_s A f')) t = -1 := by rw [s_set, if_neg hne]; exact w_s h ht ot2
  rw [est] at s2
  have w2 : WF n (p_set (p_set A f' (p_b A f' ^^^ 2 ^ lf A f') (p_s A f')) t (p_b A t ||| 2 ^ hq A t) (-1)) := WF.set w1 (or_lt (w_b h ht) q2) (fun _ => rfl) (by show p_o A t ≠ 0; omega)
  generalize hz2 : zBs z1 t (upd (zB z1 t) (hq A t) (vp_nar .boolean (1 : Int32))) = z2 at s2
  have hne' : f' ≠ t := fun e => hne e.symm
  have ebf : p_b (p_set (p_set A f' (p_b A f' ^^^ 2 ^ lf A f') (p_s A f')) t (p_b A t ||| 2 ^ hq A t) (-1)) f' = p_b A f' ^^^ 2 ^ lf A f' := by rw [b_set, if_neg hne', b_set, if_pos rfl]
  have m2 := u_many w2 s2 hf
  rw [ebf] at m2
  have e127 := u_L127 hs hf hps x10 (p_ps A f') FU (lf A f') (Nat.le_refl _) (by unfold FU; omega) l1
  have ht2 : zF z2 0 = p_t A := s2.1.1
  have hm2 : ∀ B : AS, p_m B = p_m A → ∀ zz : SSt, SR zz B → SR (zFs zz 3 (zF zz 3 + 1)) (p_mo B (p_m A + 1)) := by
    intro B hB zz hz
    obtain ⟨⟨e0, e1, e2, e3, e4⟩, h2, h3⟩ := hz
    refine ⟨⟨?_, ?_, ?_, ?_, e4⟩, h2, h3⟩
    · rw [zF_Fs, if_neg (by omega)]; exact e0
    · rw [zF_Fs, if_neg (by omega)]; exact e1
    · rw [zF_Fs, if_neg (by omega)]; exact e2
    · rw [zF_Fs, if_pos rfl, e3, hB]; rfl
  unfold zMv
  show ∃ z', (if inb (nI f') 12 = true then _ else none) = _ ∧ _
  dsimp only
  rw [if_pos (nI_inb hf), nI_cl hf, hs.l hf, e127, Option.bind_some, if_pos (nI_inb hf), if_pos (inb_nI l2 (by omega)), cl (by omega), Option.bind_some, hz1, if_pos (nI_inb ht), eh, Option.bind_some, nI_cl ht, s1.l ht, show p_ps (p_set A f' (p_b A f' ^^^ 2 ^ lf A f') (p_s A f')) t = p_ps A t from rfl, if_pos (inb_nI q2 (by omega)), cl (by omega), Option.bind_some, hz2, m2, Option.bind_some]
  by_cases e0 : p_b A f' ^^^ 2 ^ lf A f' = 0
  · have esf : sF A f' = p_t A := if_pos e0
    rw [if_neg (fun y => y (by rw [e0]; decide +kernel)), if_pos (nI_inb hf), if_pos (by decide), Option.bind_some, Option.bind_some, Option.bind_some, zc2, ht2]
    refine ⟨_, rfl, hm2 (mvA A f' t) rfl _ ?_⟩
    unfold mvA
    rw [esf]
    exact SR.since s2 hne (by unfold upd; rw [if_neg (by omega)]) (by unfold upd; rw [if_neg (by omega)]) (by unfold upd; rw [if_pos rfl])
  · have esf : sF A f' = p_s A f' := by unfold sF; rw [if_neg e0]; exact (w_s h hf of2).symm
    rw [if_pos (nI_ne0 (Nat.pos_of_ne_zero fun y => e0 (bit_0 _ hlt y)) (by omega)), Option.bind_some, Option.bind_some]
    refine ⟨_, rfl, hm2 (mvA A f' t) rfl _ ?_⟩
    unfold mvA
    rw [esf]
    exact s2
theorem frP_mo (A : AS) (v : Int32) (j : Nat) : frP (p_mo A v) j = frP A j := rfl
theorem toQ_mo (A : AS) (v : Int32) (j : Nat) : toQ (p_mo A v) j = toQ A j := rfl
theorem pkA_mo (j : Nat) (v : Int32) : ∀ (w : Nat) (A : AS), pkA j w (p_mo A v) = p_mo (pkA j w A) v ∧ pkC j w (p_mo A v) = pkC j w A := by
  intro w
  induction w with
  | zero => intro A; exact ⟨rfl, rfl⟩
  | succ w ih =>
    intro A
    rw [pkA, pkA, pkC, pkC, frP_mo, toQ_mo]
    cases frP A j with
    | none => exact ⟨rfl, rfl⟩
    | some f =>
      cases toQ A j with
      | none => exact ⟨rfl, rfl⟩
      | some t =>
        obtain ⟨g1, g2⟩ := ih (mvA A f t)
        exact ⟨g1, congrArg (· + 1) g2⟩
theorem pkA_m (j : Nat) : ∀ (w : Nat) (A : AS), p_m (pkA j w A) = p_m A := by
  intro w
  induction w with
  | zero => intro A; rfl
  | succ w ih =>
    intro A
    rw [pkA]
    cases frP A j with
    | none => rfl
    | some f =>
      cases toQ A j with
      | none => rfl
      | some t => exact (ih (mvA A f t)).trans rfl
theorem u_packL (j : Nat) : ∀ (w c f : Nat) (A : AS) (z : SSt), WF n A → SR z A → j < p_n A → 1728 ≤ phi A j + 2 * w → w < f → ∃ z', R_X3_packs_L2 (nI j) f z (nI c) = some (nI (c + pkC j w A), z') ∧ SR z' (p_mo (pkA j w A) (p_m A + nI (pkC j w A))) := by
  intro w
  induction w with
  | zero =>
    intro c f A z h hs hj hp hf
    obtain ⟨f, rfl⟩ : ∃ g, f = g + 1 := ⟨f - 1, by omega⟩
    have et := (pk_all 0 A j h hp).2.2.2.1
    have et : toQ A j = none := et
    have hfr : ∀ b, frP A j = some b → b < 12 := fun b hb => ((frP_ok A j).1 b hb).1
    have e10 : R_X3_packs_L10 (nI j) z FU (0 : Int32) (-1 : Int32) = some (nI 12, oI (frP A j)) := u_L10 h hs hj 12 0 FU none rfl (by decide) (fun b hb => by cases hb)
    obtain ⟨x, e58⟩ := u_L58 h hs hj (nI 12) (frP A j) hfr 12 FU none (Nat.le_refl _) (by decide) (fun b hb => by cases hb)
    rw [← toQ_dn, et] at e58
    have e58' : R_X3_packs_L58 (nI j) z (nI 12, oI (frP A j)) FU (11 : Int32) (-1 : Int32) = some (x, oI none) := e58
    refine ⟨z, ?_, ?_⟩
    · rw [packs_eq, e10, Option.bind_some, e58', Option.bind_some, if_neg (show ¬ (0 : Int32) ≤ oI none by decide)]
      rfl
    · show SR z (p_mo A (p_m A + nI 0))
      rw [show p_m A + nI 0 = p_m A from Int32.add_zero _]
      exact hs
  | succ w ih =>
    intro c f A z h hs hj hp hf
    obtain ⟨f, rfl⟩ : ∃ g, f = g + 1 := ⟨f - 1, by omega⟩
    have hfr : ∀ b, frP A j = some b → b < 12 := fun b hb => ((frP_ok A j).1 b hb).1
    have e10 : R_X3_packs_L10 (nI j) z FU (0 : Int32) (-1 : Int32) = some (nI 12, oI (frP A j)) := u_L10 h hs hj 12 0 FU none rfl (by decide) (fun b hb => by cases hb)
    obtain ⟨x, e58⟩ := u_L58 h hs hj (nI 12) (frP A j) hfr 12 FU none (Nat.le_refl _) (by decide) (fun b hb => by cases hb)
    rw [← toQ_dn] at e58
    have e58' : R_X3_packs_L58 (nI j) z (nI 12, oI (frP A j)) FU (11 : Int32) (-1 : Int32) = some (x, oI (toQ A j)) := e58
    rw [packs_eq, e10, Option.bind_some, e58', Option.bind_some]
    cases et : toQ A j with
    | none =>
      have e1 : pkA j (w + 1) A = A := by unfold pkA; rw [et]; split <;> first | rfl | (rename_i h1 h2; cases h2)
      have e2 : pkC j (w + 1) A = 0 := by unfold pkC; rw [et]; split <;> first | rfl | (rename_i h1 h2; cases h2)
      rw [e1, e2]
      refine ⟨z, ?_, ?_⟩
      · rw [if_neg (show ¬ (0 : Int32) ≤ oI none by decide)]; rfl
      · rw [show p_m A + nI 0 = p_m A from Int32.add_zero _]
        exact hs
    | some t =>
      obtain ⟨f', ef, hf', hfu, ht, htu, hne, hle⟩ := toQ_fr et
      have e1 : pkA j (w + 1) A = pkA j w (mvA A f' t) := by rw [pkA, ef, et]
      have e2 : pkC j (w + 1) A = pkC j w (mvA A f' t) + 1 := by rw [pkC, ef, et]
      obtain ⟨p1, p2⟩ := mv_phi h ef et
      rw [if_pos (show (0 : Int32) ≤ (x, oI (some t)).2 from nI_pos' (by omega)), ef]
      obtain ⟨z1, m1, m2⟩ := u_mv h hs ef et (nI 12) (fun z197 => R_X3_packs_L2 (nI j) f z197 (nI c + (1 : Int32)))
      have m1' : zMv z (nI 12, oI (some f')) (x, oI (some t)).2 (fun z197 => R_X3_packs_L2 (nI j) f z197 (nI c + (1 : Int32))) = R_X3_packs_L2 (nI j) f z1 (nI c + (1 : Int32)) := m1
      rw [m1', nI_1]
      obtain ⟨z', r1, r2⟩ := ih (c + 1) f (p_mo (mvA A f' t) (p_m A + 1)) z1 (show WF n (p_mo (mvA A f' t) (p_m A + 1)) from WF.mv h hf' hfu ht htu hne) m2 hj (show 1728 ≤ phi (mvA A f' t) j + 2 * w by omega) (by omega)
      obtain ⟨k1, k2⟩ := pkA_mo j (p_m A + 1) w (mvA A f' t)
      rw [k1, k2] at r2
      rw [k2] at r1
      refine ⟨z', ?_, ?_⟩
      · rw [r1, e2, show c + 1 + pkC j w (mvA A f' t) = c + (pkC j w (mvA A f' t) + 1) by omega]
      · rw [e1, e2]
        have ev : p_m A + nI (pkC j w (mvA A f' t) + 1) = p_m A + 1 + nI (pkC j w (mvA A f' t)) := by
          rw [← nI_1, Int32.add_comm (nI _) 1, Int32.add_assoc]
        rw [ev]
        exact r2
def pcA (A : AS) (j : Nat) : AS := p_mo (pkA j 864 A) (p_m A + nI (pkC j 864 A))
theorem u_packs (h : WF n A) (hs : SR z A) {j : Nat} (hj : j < p_n A) : ∃ z', R_X3_packs z (nI j) = some (nI (pkC j 864 A), z') ∧ SR z' (pcA A j) := by
  obtain ⟨z', e1, e2⟩ := u_packL j 864 0 FU A z h hs hj (by omega) (by decide)
  rw [Nat.zero_add] at e1
  exact ⟨z', e1, e2⟩
end LP
