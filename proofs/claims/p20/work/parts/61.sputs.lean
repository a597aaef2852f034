/-! putting, on the Sim's side -/
def zTail (zs : SSt) (p : Int32) : Option (Int32 × SSt) := (R_X3_hole zs p).bind fun v226 => if inb p (12) = true then if inb v226 (zL zs (p.toNatClampNeg)) = true then (some (zBs zs (p.toNatClampNeg) (upd (zB zs (p.toNatClampNeg)) (v226.toNatClampNeg) (vp_nar .boolean (1 : Int32)))) : Option (SSt)).bind fun z238 => if inb p (12) = true then if inb (2 : Int32) (3) = true then (some (zHs z238 (p.toNatClampNeg) (upd (zH z238 (p.toNatClampNeg)) ((2 : Int32).toNatClampNeg) (-1 : Int32))) : Option (SSt)).bind fun z247 => (some (zFs z247 0 ((zF z247 0) + (1 : Int32))) : Option SSt).bind fun z255 => (some (zFs z255 2 ((zF z255 2) + (1 : Int32))) : Option SSt).bind fun z265 => (R_X3_spot z265 p v226).bind fun v271 => some (v271, z265) else none else none else none else none
def zCome (zs : SSt) (p1 v126 : Int32) : Option (Int32 × SSt) := if inb p1 (zN zs) = true then if inb (0 : Int32) (3) = true then (some (upd (fun _ => (0 : Int32)) ((0 : Int32).toNatClampNeg) p1) : Option (Nat → Int32)).bind fun gx175 => if inb (1 : Int32) (2) = true then if inb (0 : Int32) (2) = true then if ¬ (zK zs (p1.toNatClampNeg) ((0 : Int32).toNatClampNeg)) = 0 then if inb (0 : Int32) (2) = true then if ¬ (((24 : Int32) - (((24 : Int32) / (zK zs (p1.toNatClampNeg) ((0 : Int32).toNatClampNeg))) * (zK zs (p1.toNatClampNeg) ((0 : Int32).toNatClampNeg)))) + (1 : Int32)) = 0 then (some ((zK zs (p1.toNatClampNeg) ((1 : Int32).toNatClampNeg)) - (zK zs (p1.toNatClampNeg) ((1 : Int32).toNatClampNeg)) / (((24 : Int32) - (((24 : Int32) / (zK zs (p1.toNatClampNeg) ((0 : Int32).toNatClampNeg))) * (zK zs (p1.toNatClampNeg) ((0 : Int32).toNatClampNeg)))) + (1 : Int32)) * (((24 : Int32) - (((24 : Int32) / (zK zs (p1.toNatClampNeg) ((0 : Int32).toNatClampNeg))) * (zK zs (p1.toNatClampNeg) ((0 : Int32).toNatClampNeg)))) + (1 : Int32))) : Option Int32).bind fun w197 => if inb (1 : Int32) (3) = true then (some (upd gx175 ((1 : Int32).toNatClampNeg) w197) : Option (Nat → Int32)).bind fun gx197 => if inb (2 : Int32) (3) = true then (some (upd gx197 ((2 : Int32).toNatClampNeg) (-1 : Int32)) : Option (Nat → Int32)).bind fun gx201 => if inb v126 12 = true then (some (zHs zs (v126.toNatClampNeg) gx201) : Option SSt).bind fun z202 => if inb (0 : Int32) (2) = true then if ¬ (zK z202 (p1.toNatClampNeg) ((0 : Int32).toNatClampNeg)) = 0 then (some ((24 : Int32) / (zK z202 (p1.toNatClampNeg) ((0 : Int32).toNatClampNeg))) : Option Int32).bind fun w214 => if ¬ w214 < 0 ∧ w214.toNatClampNeg ≤ 24 then if inb v126 12 = true then (some (zLs z202 (v126.toNatClampNeg) (w214.toNatClampNeg) (fun _ => (0 : Int32))) : Option SSt).bind fun z216 => if inb (1 : Int32) (2) = true then (some ((zK z216 (p1.toNatClampNeg) ((1 : Int32).toNatClampNeg)) + (1 : Int32)) : Option Int32).bind fun w223 => if inb (1 : Int32) (2) = true then (some (zKs z216 (p1.toNatClampNeg) (upd (zK z216 (p1.toNatClampNeg)) ((1 : Int32).toNatClampNeg) w223)) : Option (SSt)).bind fun z223 => zTail z223 v126 else none else none else none else none else none else none else none else none else none else none else none else none else none else none else none else none
theorem puts_eq (zs : SSt) (p1 : Int32) : R_X3_puts zs p1 = (R_X3_puts_L5 zs p1 FU (11 : Int32) (-1 : Int32)).bind fun v5 => (R_X3_puts_L87 zs p1 FU (11 : Int32) v5.2).bind fun v87 => if 0 ≤ v87.2 then zTail zs v87.2 else (R_X3_puts_L126 zs FU (0 : Int32)).bind fun v126 => if ¬ v126 = (12 : Int32) then zCome zs p1 v126 else some ((-1 : Int32), zs) := rfl
theorem sub_neg {a b : Nat} (ha : a < 2 ^ 30) (hb : b < 2 ^ 30) : nI a - nI b < 0 ↔ a < b := by
  refine ⟨fun h => Nat.not_le.mp fun q => ?_, fun h => pk_sneg hb h⟩
  rw [pk_sub q] at h
  exact nI_pos (by omega) h
def mW (A : AS) (i : Nat) : Nat := if p_w A = 0 then 0 else if p_w A = 1 then 12 - pc (p_b A i) else pc (p_b A i)
section LP
variable {n : Nat} {A : AS} {k : KSt} {z : SSt}
theorem by_up (hw : p_w A = 0 ∨ p_w A = 1 ∨ p_w A = 2) (j : Nat) : fo (byF A j) 12 0 none = fo (upF (us A j) (mW A)) 12 0 none := by
  refine fo_congr 12 0 none (fun a q _ _ => ?_)
  unfold byF upF
  by_cases hu : us A j q = true
  · rw [if_pos hu, if_pos hu]
    cases a with
    | none => rfl
    | some b =>
      have h1 := pc_12 (p_b A q)
      have h2 := pc_12 (p_b A b)
      show (if (p_w A = 1 ∧ pc (p_b A b) < pc (p_b A q)) ∨ (p_w A = 2 ∧ pc (p_b A q) < pc (p_b A b)) then some q else some b) = (if mW A q < mW A b then some q else some b)
      unfold mW
      rcases hw with e | e | e
      · have n1 : ¬ (0 : Int32) = 1 := by decide
        have n2 : ¬ (0 : Int32) = 2 := by decide
        simp [e, n1, n2]
      · have n1 : ¬ (1 : Int32) = 0 := by decide
        have n2 : ¬ (1 : Int32) = 2 := by decide
        simp only [e, n1, n2, if_false, if_true, true_and, false_and, or_false]
        by_cases hlt : pc (p_b A b) < pc (p_b A q)
        · rw [if_pos hlt, if_pos (by omega)]
        · rw [if_neg hlt, if_neg (by omega)]
      · have n1 : ¬ (2 : Int32) = 0 := by decide
        have n2 : ¬ (2 : Int32) = 1 := by decide
        simp only [e, n1, n2, if_false, true_and, false_and, false_or]
  · rw [if_neg hu, if_neg hu]
theorem dn_lt {u : Nat → Bool} {m : Nat → Nat} {d : Nat} (hd : d < 12) {a : Option Nat} (ha : ∀ b, a = some b → b < 12) : ∀ b, dnF u m a d = some b → b < 12 := by
  intro b hb
  unfold dnF at hb
  by_cases hu : u d = true
  · rw [if_pos hu] at hb
    cases a with
    | none => cases hb; exact hd
    | some c =>
      have hb : (if m d ≤ m c then some d else some c) = some b := hb
      by_cases hm : m d ≤ m c
      · rw [if_pos hm] at hb; cases hb; exact hd
      · rw [if_neg hm] at hb; exact ha b hb
  · rw [if_neg hu] at hb; exact ha b hb
theorem fd_lt {u : Nat → Bool} {m : Nat → Nat} : ∀ (d : Nat) (a : Option Nat), d ≤ 12 → (∀ b, a = some b → b < 12) → ∀ b, fd (dnF u m) d a = some b → b < 12 := by
  intro d
  induction d with
  | zero => intro a _ ha; exact ha
  | succ d ih => intro a hd ha; exact ih _ (by omega) (dn_lt (by omega) ha)
theorem u_p5 (hw : p_w A = 0 ∨ p_w A = 1 ∨ p_w A = 2) (h : WF n A) (hs : SR z A) {j : Nat} (hj : j < p_n A) : ∀ (d f : Nat) (a : Option Nat), d ≤ 12 → d < f → (∀ b, a = some b → b < 12) → ∃ x, R_X3_puts_L5 z (nI j) f (nI d - 1) (oI a) = some (x, oI (fd (dnF (us A j) (mW A)) d a)) := by
  intro d
  induction d with
  | zero =>
    intro f a _ hf _
    obtain ⟨f, rfl⟩ : ∃ g, f = g + 1 := ⟨f - 1, by omega⟩
    exact ⟨_, by rw [R_X3_puts_L5, if_pos (by decide)]; rfl⟩
  | succ d ih =>
    intro f a hd hf ha
    obtain ⟨f, rfl⟩ : ∃ g, f = g + 1 := ⟨f - 1, by omega⟩
    have hd2 : d < 12 := by omega
    have hpd := pc_12 (p_b A d)
    rw [nI_pred, R_X3_puts_L5, if_neg (nI_pos (by omega)), u_isUsed h hs hd2 hj, Option.bind_some, fd, show nI d + (-1 : Int32) = nI d - 1 by rw [Int32.sub_eq_add_neg], hs.1.2.1]
    have hlt := dn_lt (u := us A j) (m := mW A) hd2 ha
    by_cases hu : us A j d = true
    · rw [if_pos (b1_t hu)]
      cases a with
      | none =>
        rw [show dnF (us A j) (mW A) none d = some d from if_pos hu] at hlt ⊢
        rw [if_pos (show oI none < 0 by decide), if_neg (by decide), Option.bind_some]
        exact ih f (some d) (by omega) (by omega) hlt
      | some b =>
        have hb := ha b rfl
        have hpb := pc_12 (p_b A b)
        have e1 : dnF (us A j) (mW A) (some b) d = if mW A d ≤ mW A b then some d else some b := if_pos hu
        rw [e1] at hlt ⊢
        rw [if_neg (show ¬ oI (some b) < 0 from nI_pos (by omega)), show oI (some b) = nI b from rfl]
        have fin : ∀ c : Option Nat, (∀ b, c = some b → b < 12) → ∃ x, R_X3_puts_L5 z (nI j) f (nI d - 1) (oI c) = some (x, oI (fd (dnF (us A j) (mW A)) d c)) := fun c hc => ih f c (by omega) (by omega) hc
        rcases hw with e | e | e
        · rw [if_neg (fun q => q e), if_neg (by decide), Option.bind_some]
          have e2 : (if mW A d ≤ mW A b then some d else some b) = some d := if_pos (by unfold mW; rw [if_pos e, if_pos e]; exact Nat.le_refl _)
          rw [e2]
          exact fin (some d) (fun b hb => by cases hb; exact hd2)
        · have n1 : ¬ (1 : Int32) = 0 := by decide
          rw [e, if_pos n1, if_neg (fun q => q rfl), u_many h hs hd2, Option.bind_some, u_many h hs hb, Option.bind_some]
          have key : mW A d ≤ mW A b ↔ ¬ pc (p_b A d) < pc (p_b A b) := by
            unfold mW
            rw [e, if_neg n1, if_pos rfl, if_neg n1, if_pos rfl]
            omega
          by_cases hc : pc (p_b A d) < pc (p_b A b)
          · rw [if_pos ((sub_neg (by omega) (by omega)).mpr hc), Option.bind_some]
            have e2 : (if mW A d ≤ mW A b then some d else some b) = some b := if_neg (fun q => key.mp q hc)
            rw [e2]
            have := fin (some b) ha
            exact this
          · rw [if_neg (fun q => hc ((sub_neg (by omega) (by omega)).mp q)), Option.bind_some]
            have e2 : (if mW A d ≤ mW A b then some d else some b) = some d := if_pos (key.mpr hc)
            rw [e2]
            have := fin (some d) (fun b hb => by cases hb; exact hd2)
            exact this
        · have n1 : ¬ (2 : Int32) = 0 := by decide
          have n2 : ¬ (2 : Int32) = 1 := by decide
          rw [e, if_pos n1, if_pos n2, u_many h hs hb, Option.bind_some, u_many h hs hd2, Option.bind_some]
          have key : mW A d ≤ mW A b ↔ ¬ pc (p_b A b) < pc (p_b A d) := by
            unfold mW
            rw [e, if_neg n1, if_neg n2, if_neg n1, if_neg n2]
            omega
          by_cases hc : pc (p_b A b) < pc (p_b A d)
          · rw [if_pos ((sub_neg (by omega) (by omega)).mpr hc), Option.bind_some]
            have e2 : (if mW A d ≤ mW A b then some d else some b) = some b := if_neg (fun q => key.mp q hc)
            rw [e2]
            have := fin (some b) ha
            exact this
          · rw [if_neg (fun q => hc ((sub_neg (by omega) (by omega)).mp q)), Option.bind_some]
            have e2 : (if mW A d ≤ mW A b then some d else some b) = some d := if_pos (key.mpr hc)
            rw [e2]
            have := fin (some d) (fun b hb => by cases hb; exact hd2)
            exact this
    · rw [if_neg (fun q => q (b1_f hu)), show dnF (us A j) (mW A) a d = a from if_neg hu]
      exact ih f a (by omega) (by omega) ha
theorem em_ob {j i : Nat} (he : em A j i = true) : p_o A i = j + 1 ∧ p_b A i = 0 := by simpa [em] using he
/-- a used one stays -/
theorem u_p87s (h : WF n A) (hs : SR z A) {j b : Nat} (hj : j < p_n A) (hb : b < 12) (h0 : p_b A b ≠ 0) : ∀ (d f : Nat), d ≤ 12 → d < f → ∃ x, R_X3_puts_L87 z (nI j) f (nI d - 1) (nI b) = some (x, nI b) := by
  intro d
  induction d with
  | zero =>
    intro f _ hf
    obtain ⟨f, rfl⟩ : ∃ g, f = g + 1 := ⟨f - 1, by omega⟩
    exact ⟨_, by rw [R_X3_puts_L87, if_pos (by decide)]⟩
  | succ d ih =>
    intro f hd hf
    obtain ⟨f, rfl⟩ : ∃ g, f = g + 1 := ⟨f - 1, by omega⟩
    have hpb := pc_12 (p_b A b)
    rw [nI_pred, R_X3_puts_L87, if_neg (nI_pos (by omega)), if_neg (nI_pos (by omega)), u_many h hs hb, Option.bind_some, if_pos (nI_ne0 (Nat.pos_of_ne_zero fun q => h0 ((pc_b0 h hb).mp q)) (by omega)), Option.bind_some, show nI d + (-1 : Int32) = nI d - 1 by rw [Int32.sub_eq_add_neg]]
    exact ih f (by omega) (by omega)
theorem u_p87 (h : WF n A) (hs : SR z A) {j : Nat} (hj : j < p_n A) : ∀ (d f : Nat) (a : Option Nat), d ≤ 12 → d < f → (∀ b, a = some b → b < 12 ∧ p_b A b = 0) → ∃ x, R_X3_puts_L87 z (nI j) f (nI d - 1) (oI a) = some (x, oI (fd (fun a i => if em A j i = true then some i else a) d a)) := by
  intro d
  induction d with
  | zero =>
    intro f a _ hf _
    obtain ⟨f, rfl⟩ : ∃ g, f = g + 1 := ⟨f - 1, by omega⟩
    exact ⟨_, by rw [R_X3_puts_L87, if_pos (by decide)]; rfl⟩
  | succ d ih =>
    intro f a hd hf ha
    obtain ⟨f, rfl⟩ : ∃ g, f = g + 1 := ⟨f - 1, by omega⟩
    have hd2 : d < 12 := by omega
    have hstep : ∀ b, (if em A j d = true then some d else a) = some b → b < 12 ∧ p_b A b = 0 := by
      intro b hb
      by_cases he : em A j d = true
      · rw [if_pos he] at hb; cases hb; exact ⟨hd2, (em_ob he).2⟩
      · rw [if_neg he] at hb; exact ha b hb
    have hbody : (if oI a < 0 then (R_X3_isEmpty z (nI d) (nI j)).bind fun v106 => if v106 = 0 then some (oI a) else some (nI d) else (R_X3_many z (oI a)).bind fun v97 => if ¬ v97 = 0 then some (oI a) else (R_X3_isEmpty z (nI d) (nI j)).bind fun v106 => if v106 = 0 then some (oI a) else some (nI d)) = some (oI (if em A j d = true then some d else a)) := by
      have hin : ((R_X3_isEmpty z (nI d) (nI j)).bind fun v106 => if v106 = 0 then some (oI a) else some (nI d)) = some (oI (if em A j d = true then some d else a)) := by
        rw [u_isEmpty h hs hd2 hj, Option.bind_some]
        by_cases he : em A j d = true
        · rw [if_neg (b1_t he), if_pos he]; rfl
        · rw [if_pos (b1_f he), if_neg he]
      cases a with
      | none => rw [if_pos (show oI none < 0 by decide)]; exact hin
      | some b =>
        obtain ⟨hb, hb0⟩ := ha b rfl
        rw [if_neg (show ¬ oI (some b) < 0 from nI_pos (by omega)), show oI (some b) = nI b from rfl, u_many h hs hb, Option.bind_some, if_neg (fun q => q (by rw [(pc_b0 h hb).mpr hb0]; rfl))]
        exact hin
    rw [nI_pred, R_X3_puts_L87, if_neg (nI_pos (by omega)), hbody, Option.bind_some, show nI d + (-1 : Int32) = nI d - 1 by rw [Int32.sub_eq_add_neg], fd]
    exact ih f _ (by omega) (by omega) hstep
theorem u_p126 (h : WF n A) (hs : SR z A) : ∀ (d q f : Nat), q + d = 12 → d < f → R_X3_puts_L126 z f (nI q) = some (nI ((fi (fr A) d q).getD 12)) := by
  intro d
  induction d with
  | zero =>
    intro q f hq hf
    obtain ⟨f, rfl⟩ : ∃ g, f = g + 1 := ⟨f - 1, by omega⟩
    obtain rfl : q = 12 := by omega
    rw [R_X3_puts_L126, if_pos (by decide)]
    rfl
  | succ d ih =>
    intro q f hq hf
    obtain ⟨f, rfl⟩ : ∃ g, f = g + 1 := ⟨f - 1, by omega⟩
    have hq2 : q < 12 := by omega
    rw [R_X3_puts_L126, if_neg (nI_nge hq2), if_pos (nI_inb hq2), if_pos (by decide), nI_cl hq2, zc0, hs.o hq2, nI_1, fi]
    by_cases h0 : p_o A q = 0
    · rw [if_pos (by rw [(oI_m1 h hq2).mpr h0]; decide), if_pos (show fr A q = true by simp [fr, h0])]
      rfl
    · rw [if_neg (by rw [ow_I h0]; exact nI_pos (by have := w_o h hq2; have := h.1; omega)), if_neg (show ¬ fr A q = true by simp [fr, h0])]
      exact ih (q + 1) f (by omega) (by omega)
/-! changes of the Sim's state -/
theorem SR.set (hs : SR z A) {i b : Nat} {s : Int32} {g r : Nat → Int32} (hg : ∀ q, q < 12 → g q = nI (b1 (b.testBit q))) (h0 : r 0 = zH z i 0) (h1 : r 1 = zH z i 1) (h2 : r 2 = s) : SR (zHs (zBs z i g) i r) (p_set A i b s) := by
  refine ⟨hs.1, hs.2.1, fun x hx => ?_⟩
  obtain ⟨g1, g2, g3, g4, g5⟩ := hs.2.2 x hx
  rw [zH_Hs, zL_Hs, zB_Hs, zH_Bs, zL_Bs, zB_Bs, s_set, b_set]
  by_cases e : x = i
  · subst e
    rw [if_pos rfl, if_pos rfl, if_pos rfl, if_pos rfl]
    exact ⟨h0.trans g1, fun q => h1.trans (g2 q), h2, g4, hg⟩
  · rw [if_neg e, if_neg e, if_neg e, if_neg e]
    exact ⟨g1, g2, g3, g4, g5⟩
theorem SR.setB (hs : SR z A) {i b : Nat} {g : Nat → Int32} (hi : i < 12) (hg : ∀ q, q < 12 → g q = nI (b1 (b.testBit q))) : SR (zBs z i g) (p_set A i b (p_s A i)) := by
  refine ⟨hs.1, hs.2.1, fun x hx => ?_⟩
  obtain ⟨g1, g2, g3, g4, g5⟩ := hs.2.2 x hx
  rw [zH_Bs, zL_Bs, zB_Bs, s_set, b_set]
  by_cases e : x = i
  · subst e
    rw [if_pos rfl, if_pos rfl, if_pos rfl]
    exact ⟨g1, g2, g3, g4, hg⟩
  · rw [if_neg e, if_neg e, if_neg e]
    exact ⟨g1, g2, g3, g4, g5⟩
theorem SR.tp (hs : SR z A) : SR (zFs (zFs z 0 (zF z 0 + 1)) 2 (zF (zFs z 0 (zF z 0 + 1)) 2 + 1)) (p_tp A) := by
  obtain ⟨⟨e0, e1, e2, e3, e4⟩, h2, h3⟩ := hs
  refine ⟨⟨?_, ?_, ?_, ?_, e4⟩, h2, h3⟩
  · rw [zF_Fs, if_neg (by omega), zF_Fs, if_pos rfl, e0]; rfl
  · rw [zF_Fs, if_neg (by omega), zF_Fs, if_neg (by omega)]; exact e1
  · rw [zF_Fs, if_pos rfl, zF_Fs, if_neg (by omega), e2]; rfl
  · rw [zF_Fs, if_neg (by omega), zF_Fs, if_neg (by omega)]; exact e3
theorem SR.tm (hs : SR z A) (v : Int32) : SR (zFs z 0 v) (p_tm A v) := by
  obtain ⟨⟨e0, e1, e2, e3, e4⟩, h2, h3⟩ := hs
  refine ⟨⟨?_, ?_, ?_, ?_, e4⟩, h2, h3⟩
  · rw [zF_Fs, if_pos rfl]; rfl
  · rw [zF_Fs, if_neg (by omega)]; exact e1
  · rw [zF_Fs, if_neg (by omega)]; exact e2
  · rw [zF_Fs, if_neg (by omega)]; exact e3
theorem on_bits {x q : Nat} {f : Nat → Int32} (hf : ∀ y, y < 12 → f y = nI (b1 (x.testBit y))) : ∀ y, y < 12 → upd f q (vp_nar .boolean 1) y = nI (b1 ((x ||| 2 ^ q).testBit y)) := by
  intro y hy
  unfold upd
  rw [tb_or]
  by_cases e : y = q
  · rw [if_pos e, decide_eq_true e.symm, Bool.or_true]; rfl
  · rw [if_neg e, decide_eq_false (fun h => e h.symm), Bool.or_false]; exact hf y hy
theorem off_bits {x q : Nat} {f : Nat → Int32} (hb : x.testBit q = true) (hf : ∀ y, y < 12 → f y = nI (b1 (x.testBit y))) : ∀ y, y < 12 → upd f q (vp_nar .boolean 0) y = nI (b1 ((x ^^^ 2 ^ q).testBit y)) := by
  intro y hy
  unfold upd
  rw [tb_xor]
  by_cases e : y = q
  · subst e; rw [if_pos rfl, hb, decide_eq_true rfl]; rfl
  · rw [if_neg e, decide_eq_false (fun h => e h.symm), Bool.bne_false]; exact hf y hy
theorem u_tail (h : WF n A) (hs : SR z A) {i : Nat} (hi : i < 12) (h0 : p_o A i ≠ 0) (hp : pc (p_b A i) < p_ps A i) : ∃ z', zTail z (nI i) = some (nI (24 * i + p_rs A i + hq A i * p_zs A i), z') ∧ SR z' (p_tp (p_set A i (p_b A i ||| 2 ^ hq A i) (-1))) := by
  obtain ⟨q1, q2, q3⟩ := hq_ok h hi hp
  have hps := w_ps h hi
  have hB : WF n (p_tp (p_set A i (p_b A i ||| 2 ^ hq A i) (-1))) := by exact WF.set h (or_lt (w_b h hi) q2) (fun _ => rfl) h0
  unfold zTail
  rw [u_hole h hs hi, Option.bind_some, q1, show oI (some (hq A i)) = nI (hq A i) from rfl, if_pos (nI_inb hi), nI_cl hi, hs.l hi, if_pos (inb_nI q2 (by omega)), Option.bind_some, if_pos (nI_inb hi), if_pos (by decide), Option.bind_some, Option.bind_some, Option.bind_some, cl (by omega), zc2]
  generalize hz : zHs (zBs z i (upd (zB z i) (hq A i) (vp_nar .boolean (1 : Int32)))) i (upd (zH (zBs z i (upd (zB z i) (hq A i) (vp_nar .boolean (1 : Int32)))) i) 2 (-1 : Int32)) = z2
  have h2 : SR z2 (p_set A i (p_b A i ||| 2 ^ hq A i) (-1)) := by
    rw [← hz]
    exact SR.set hs (on_bits (fun y hy => hs.b hi hy)) (by unfold upd; rw [if_neg (by omega), zH_Bs]) (by unfold upd; rw [if_neg (by omega), zH_Bs]) (by unfold upd; rw [if_pos rfl])
  have h3 := h2.tp
  rw [u_spot hB h3 hi h0, Option.bind_some]
  exact ⟨_, rfl, h3⟩
theorem u_come (h : WF n A) (hs : SR z A) {i j : Nat} (hn : n < 512) (hi : i < 12) (hj : j < p_n A) (h0 : p_o A i = 0) : ∃ z', zCome z (nI j) (nI i) = zTail z' (nI i) ∧ SR z' (p_come A i j) := by
  have h5 := h.1
  obtain ⟨z1, z2⟩ := w_z h hj
  obtain ⟨k0, k1⟩ := hs.2.1 j hj
  have hg := (h.2.1 j hj).2.2
  have hrest : 24 % p_z A j < 12 := by have := Nat.mod_lt 24 (show 0 < p_z A j by omega); omega
  have hq := Nat.mod_lt (p_g A j) (show 0 < 24 % p_z A j + 1 by omega)
  have e24 : (24 : Int32) / nI (p_z A j) = nI (p_pl A j) := pk_div (a := 24) (by omega) (by omega) (by omega)
  have er : (24 : Int32) - nI (p_pl A j) * nI (p_z A j) + 1 = nI (24 % p_z A j + 1) := by
    have e1 := pk_rem (a := 24) (d := p_z A j) (by omega) (by omega) (by omega)
    rw [show nI 24 = (24 : Int32) from rfl, e24] at e1
    rw [e1, nI_1]
  have hpl := w_pl h hj
  unfold zCome
  rw [hs.nn, if_pos (inb_nI hj (by omega)), if_pos (by decide), Option.bind_some, if_pos (by decide), if_pos (by decide), cl (by omega), zc0, zc1, zc2, k0, k1, if_pos (nI_ne0 (by omega) (by omega)), if_pos (by decide), e24, er, if_pos (nI_ne0 (by omega) (by omega)), pk_rem (by omega) (by omega) (by omega), Option.bind_some, if_pos (by decide), Option.bind_some, if_pos (by decide), Option.bind_some, if_pos (nI_inb hi), nI_cl hi, Option.bind_some, if_pos (by decide), zK_Hs, k0, if_pos (nI_ne0 (by omega) (by omega)), e24, Option.bind_some, cl (by omega), if_pos ⟨nI_pos (by omega), by omega⟩, if_pos (nI_inb hi), Option.bind_some, if_pos (by decide), zK_Ls, zK_Hs, k1, Option.bind_some, if_pos (by decide), Option.bind_some, nI_1]
  refine ⟨_, rfl, ?_⟩
  obtain ⟨e1, e2, e3⟩ := hs
  have eo : ∀ x, p_o (p_come A i j) x = if x = i then j + 1 else p_o A x := fun _ => rfl
  refine ⟨e1, fun x hx => ?_, fun x hx => ?_⟩
  · rw [zK_Ks, zK_Ls, zK_Hs]
    show _ = nI (p_z A x) ∧ _ = nI (if x = j then p_g A j + 1 else p_g A x)
    by_cases e : x = j
    · subst e
      rw [if_pos rfl, if_pos rfl]
      unfold upd
      exact ⟨k0, rfl⟩
    · rw [if_neg e, if_neg e]
      exact e2 x hx
  · obtain ⟨g1, g2, g3, g4, g5⟩ := e3 x hx
    rw [zH_Ks, zL_Ks, zB_Ks, zH_Ls, zL_Ls, zB_Ls, zH_Hs, zL_Hs, zB_Hs]
    by_cases e : x = i
    · subst e
      have hb := w_fr h hi h0
      rw [if_pos rfl, if_pos rfl, if_pos rfl]
      refine ⟨?_, fun _ => ?_, ?_, ?_, fun q hq => ?_⟩
      · show nI j = p_oI (p_come A x j) x
        unfold p_oI
        rw [eo, if_pos rfl, if_neg (by omega), Nat.add_sub_cancel]
      · show nI _ = nI (if x = x then p_g A j % (24 % p_z A j + 1) else p_r A x)
        rw [if_pos rfl]
      · show (-1 : Int32) = p_s A x
        exact hb.2.symm
      · show p_pl A j = p_ps (p_come A x j) x
        unfold p_ps
        rw [eo, if_pos rfl, if_neg (by omega), Nat.add_sub_cancel]
        rfl
      · show (0 : Int32) = nI (b1 ((p_b A x).testBit q))
        rw [hb.1, Nat.zero_testBit]
        rfl
    · rw [if_neg e, if_neg e, if_neg e]
      have e5 : p_ps (p_come A i j) x = p_ps A x := by unfold p_ps; rw [eo, if_neg e]; rfl
      have e6 : p_oI (p_come A i j) x = p_oI A x := by unfold p_oI; rw [eo, if_neg e]
      rw [e5, e6, eo, if_neg e]
      refine ⟨g1, fun q => ?_, g3, g4, g5⟩
      rw [g2 q]
      show nI (p_r A x) = nI (if x = i then p_g A j % (24 % p_z A j + 1) else p_r A x)
      rw [if_neg e]
/-- putting, on kitchens: the spot, the kitchen -/
def ptA (A : AS) (i : Nat) : AS := p_tp (p_set A i (p_b A i ||| 2 ^ hq A i) (-1))
def ptS (A : AS) (i : Nat) : Nat := 24 * i + p_rs A i + hq A i * p_zs A i
def puA (A : AS) (j : Nat) : Option (Nat × AS) := match toP A j with
  | none => none
  | some i => if p_o A i = 0 then some (ptS (p_come A i j) i, ptA (p_come A i j) i) else some (ptS A i, ptA A i)
theorem come_p (h : WF n A) {i j : Nat} (hi : i < 12) (hj : j < p_n A) (h0 : p_o A i = 0) : p_o (p_come A i j) i = j + 1 ∧ p_ps (p_come A i j) i = p_pl A j ∧ p_b (p_come A i j) i = 0 ∧ pc (p_b (p_come A i j) i) < p_ps (p_come A i j) i := by
  have hb := w_fr h hi h0
  have hpl := (w_pl h hj).1
  have eo : p_o (p_come A i j) i = j + 1 := if_pos rfl
  have e1 : p_ps (p_come A i j) i = p_pl A j := by unfold p_ps; rw [eo, if_neg (by omega)]; rfl
  have e2 : p_b (p_come A i j) i = 0 := hb.1
  refine ⟨eo, e1, e2, ?_⟩
  rw [e1, e2, show pc 0 = 0 from by decide +kernel]
  omega
theorem u_puts (hn : n < 512) (hw : p_w A = 0 ∨ p_w A = 1 ∨ p_w A = 2) (h : WF n A) (hs : SR z A) {j : Nat} (hj : j < p_n A) : match puA A j with
    | none => R_X3_puts z (nI j) = some (-1, z)
    | some r => ∃ z', R_X3_puts z (nI j) = some (nI r.1, z') ∧ SR z' r.2 := by
  obtain ⟨x5, e5⟩ := u_p5 hw h hs hj 12 FU none (Nat.le_refl _) (by decide) (fun b hb => by cases hb)
  rw [up_dn, ← by_up hw] at e5
  have hbt : ∀ b, fo (byF A j) 12 0 none = some b → b < 12 ∧ us A j b = true := by
    rw [by_up hw, ← up_dn]
    intro b hb
    have h1 := best_dn (u := us A j) (m := mW A) 12 none (Nat.le_refl _) (Or.inl ⟨rfl, fun x h1 h2 => by omega⟩)
    rw [hb] at h1
    rcases h1 with ⟨h1, -⟩ | ⟨i, h1, -, h2, h3, -⟩
    · cases h1
    · cases h1; exact ⟨h2, h3⟩
  have e5' : R_X3_puts_L5 z (nI j) FU (11 : Int32) (-1 : Int32) = some (x5, oI (fo (byF A j) 12 0 none)) := e5
  unfold puA toP
  rw [puts_eq, e5', Option.bind_some]
  cases hf : fo (byF A j) 12 0 none with
  | some i =>
    obtain ⟨hi, hu⟩ := hbt i hf
    obtain ⟨ho, hb0, hp⟩ := us_o hu
    obtain ⟨x87, e87⟩ := u_p87s h hs hj hi hb0 12 FU (Nat.le_refl _) (by decide)
    have e87' : R_X3_puts_L87 z (nI j) FU (11 : Int32) (nI i) = some (x87, nI i) := e87
    show match (if p_o A i = 0 then some (ptS (p_come A i j) i, ptA (p_come A i j) i) else some (ptS A i, ptA A i)) with
      | none => _
      | some r => _
    rw [if_neg (show ¬ p_o A i = 0 by omega)]
    show ∃ z', ((R_X3_puts_L87 z (nI j) FU (11 : Int32) (nI i)).bind _) = _ ∧ _
    rw [e87', Option.bind_some, if_pos (show (0 : Int32) ≤ nI i from nI_pos' (by omega))]
    exact u_tail h hs hi (by omega) hp
  | none =>
    obtain ⟨x87, e87⟩ := u_p87 h hs hj 12 FU none (Nat.le_refl _) (by decide) (fun b hb => by cases hb)
    have e87' : R_X3_puts_L87 z (nI j) FU (11 : Int32) (oI none) = some (x87, oI (fd (fun a i => if em A j i = true then some i else a) 12 none)) := e87
    rw [show (x5, oI none).2 = oI none from rfl, e87', Option.bind_some, fd_fi]
    cases hg : fi (em A j) 12 0 with
    | some i =>
      obtain ⟨-, hi, he⟩ := fi_some hg
      have hi : i < 12 := by omega
      obtain ⟨ho, hb⟩ := em_ob he
      have hpl := (w_pl h hj).1
      have hps : p_ps A i = p_pl A j := by rw [ps_I (by omega), ho]; rfl
      show match (if p_o A i = 0 then some (ptS (p_come A i j) i, ptA (p_come A i j) i) else some (ptS A i, ptA A i)) with
        | none => _
        | some r => _
      rw [if_neg (show ¬ p_o A i = 0 by omega)]
      show ∃ z', (if (0 : Int32) ≤ nI i then zTail z (nI i) else _) = _ ∧ _
      rw [if_pos (show (0 : Int32) ≤ nI i from nI_pos' (by omega))]
      exact u_tail h hs hi (by omega) (by rw [(pc_b0 h hi).mpr hb]; omega)
    | none =>
      show match (match fi (fr A) 12 0 with
        | none => none
        | some i => if p_o A i = 0 then some (ptS (p_come A i j) i, ptA (p_come A i j) i) else some (ptS A i, ptA A i)) with
        | none => _
        | some r => _
      have e126 := u_p126 h hs 12 0 FU (Nat.zero_add _) (by decide)
      have e126' : R_X3_puts_L126 z FU (0 : Int32) = some (nI ((fi (fr A) 12 0).getD 12)) := e126
      rw [if_neg (show ¬ (0 : Int32) ≤ oI none by decide), e126', Option.bind_some]
      cases hr : fi (fr A) 12 0 with
      | none =>
        show (if ¬ nI 12 = 12 then _ else _) = _
        rw [if_neg (fun q => q rfl)]
      | some i =>
        obtain ⟨-, hi, he⟩ := fi_some hr
        have hi : i < 12 := by omega
        have h0 : p_o A i = 0 := by simpa [fr] using he
        show match (if p_o A i = 0 then some (ptS (p_come A i j) i, ptA (p_come A i j) i) else some (ptS A i, ptA A i)) with
          | none => _
          | some r => _
        rw [if_pos h0]
        show ∃ z', (if ¬ nI i = 12 then zCome z (nI j) (nI i) else _) = _ ∧ _
        rw [if_pos (fun q => by have := (nI_eq (a := i) (b := 12) (by omega) (by omega)).mp q; omega)]
        obtain ⟨z1, c1, c2⟩ := u_come h hs hn hi hj h0
        obtain ⟨eo, -, -, hp⟩ := come_p h hi hj h0
        rw [c1]
        exact u_tail (h.come hj h0 hi) c2 hi (by rw [eo]; omega) hp
end LP
