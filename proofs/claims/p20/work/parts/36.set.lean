/-! one shelf's bowls changed -/
def p_set (A : AS) (i b : Nat) (s : Int32) : AS := (A.1, A.2.1, A.2.2.1, A.2.2.2.1, A.2.2.2.2.1, (fun x => if x = i then b else p_b A x), fun x => if x = i then s else p_s A x)
theorem b_set (A : AS) (i b : Nat) (s : Int32) (x : Nat) : p_b (p_set A i b s) x = if x = i then b else p_b A x := rfl
theorem s_set (A : AS) (i b : Nat) (s : Int32) (x : Nat) : p_s (p_set A i b s) x = if x = i then s else p_s A x := rfl
section LP
variable {n : Nat} {A : AS} {k : KSt}
theorem WF.set (h : WF n A) {i b : Nat} {s : Int32} (hb : b < 2 ^ p_ps A i) (hs : b ≠ 0 → s = -1) (h0 : p_o A i ≠ 0) : WF n (p_set A i b s) := by
  refine ⟨h.1, h.2.1, fun x hx => ?_⟩
  obtain ⟨g1, g2, g3, g4, g5⟩ := h.2.2 x hx
  by_cases e : x = i
  · subst e
    refine ⟨g1, fun q => absurd q h0, g3, ?_, ?_⟩
    · rw [b_set, if_pos rfl]; exact hb
    · rw [b_set, s_set, if_pos rfl, if_pos rfl]; exact hs
  · refine ⟨g1, fun q => ?_, g3, ?_, ?_⟩
    · rw [b_set, s_set, if_neg e, if_neg e]; exact g2 q
    · rw [b_set, if_neg e]; exact g4
    · rw [b_set, s_set, if_neg e, if_neg e]; exact g5
theorem KR.set (hk : KR k A) {i b : Nat} {s : Int32} {g : Nat → Int32} (hg : ∀ q, q < 12 → g q = nI (b1 (b.testBit q))) : KR (kSs (kSs (kBs k i g) 6 i (nI (pc b))) 7 i s) (p_set A i b s) := by
  refine ⟨hk.1, hk.2.1, fun x hx => ?_⟩
  obtain ⟨g2, g3, g4, g5, g6, g7, g8⟩ := hk.2.2 x hx
  refine ⟨g2, g3, g4, g5, ?_, ?_, fun q hq => ?_⟩
  · rw [kS_Ss, if_neg (by omega), kS_Ss, b_set]
    by_cases e : x = i
    · rw [if_pos ⟨rfl, e⟩, if_pos e]
    · rw [if_neg (fun q => e q.2), if_neg e, kS_Bs, g6]
  · rw [kS_Ss, s_set]
    by_cases e : x = i
    · rw [if_pos ⟨rfl, e⟩, if_pos e]
    · rw [if_neg (fun q => e q.2), if_neg e, kS_Ss, if_neg (by omega), kS_Bs, g7]
  · rw [kB_Ss, kB_Ss, kB_Bs, b_set]
    by_cases e : x = i
    · rw [if_pos e, if_pos e]; exact hg q hq
    · rw [if_neg e, if_neg e]; exact g8 q hq
theorem kSs_2 (k : KSt) (f i : Nat) (v w : Int32) : kSs (kSs k f i v) f i w = kSs k f i w := by
  unfold kSs
  refine congrArg (fun z => (k.1, k.2.1, z, k.2.2.2)) (funext fun g => funext fun x => ?_)
  by_cases e : g = f ∧ x = i
  · simp [e]
  · simp [e]
theorem s_add (hk : KR k A) {i q : Nat} (hi : i < 12) (hq : q < 12) (hb : (p_b A i).testBit q = false) : ∃ k', R_X1_addBowl k i (nI q) = some k' ∧ KR k' (p_set A i (p_b A i ||| 2 ^ q) (-1)) ∧ (∀ f, kG k' f = kG k f) ∧ kN k' = kN k := by
  obtain ⟨g2, g3, g4, g5, g6, g7, g8⟩ := hk.2.2 i hi
  refine ⟨_, ?_, KR.set hk (i := i) (b := p_b A i ||| 2 ^ q) (s := -1) (g := upd (kB k i) q 1) (fun x hx => ?_), fun f => rfl, rfl⟩
  · unfold R_X1_addBowl
    rw [if_neg (nI_pos (by omega)), if_neg (nI_nge hq), if_pos (nI_inb hq), nI_cl hq, kS_Bs, g6, nI_1, pc_or hq hb]
    rfl
  · unfold upd
    rw [tb_or]
    by_cases e : x = q
    · rw [if_pos e, decide_eq_true e.symm, Bool.or_true]; rfl
    · rw [if_neg e, decide_eq_false (fun h => e h.symm), Bool.or_false]; exact g8 x hx
theorem s_remove (h : WF n A) (hk : KR k A) {i q : Nat} (hi : i < 12) (hq : q < 12) (hb : (p_b A i).testBit q = true) (now : Int32) : ∃ k', R_X1_removeBowl k i (nI q) now = some k' ∧ KR k' (p_set A i (p_b A i ^^^ 2 ^ q) (if p_b A i ^^^ 2 ^ q = 0 then now else -1)) ∧ (∀ f, kG k' f = kG k f) ∧ kN k' = kN k := by
  obtain ⟨g2, g3, g4, g5, g6, g7, g8⟩ := hk.2.2 i hi
  have h1 := pc_xor hq hb
  have h12 := pc_12 (p_b A i)
  have hqP : q < p_ps A i := Nat.not_le.mp fun hle => by rw [tb_lt (w_b h hi) hle] at hb; cases hb
  have hlt : p_b A i ^^^ 2 ^ q < 4096 := m_4096 (xor_lt (w_b h hi) hqP) (w_ps h hi)
  have ev : nI (pc (p_b A i)) - 1 = nI (pc (p_b A i ^^^ 2 ^ q)) := by rw [← h1, nI_pred]
  refine ⟨_, ?_, KR.set hk (i := i) (b := p_b A i ^^^ 2 ^ q) (s := if p_b A i ^^^ 2 ^ q = 0 then now else -1) (g := upd (kB k i) q 0) (fun x hx => ?_), fun f => rfl, rfl⟩
  · unfold R_X1_removeBowl
    rw [if_neg (nI_pos (by omega)), if_neg (nI_nge hq), if_pos (nI_inb hq), nI_cl hq, kS_Bs, g6, ev, show ∀ (K : KSt) (v : Int32), kS (kSs K 6 i v) 6 i = v from fun K v => by rw [kS_Ss, if_pos ⟨rfl, rfl⟩]]
    by_cases e : p_b A i ^^^ 2 ^ q = 0
    · rw [if_neg (fun z => z (by rw [e]; decide +kernel)), if_pos e]; rfl
    · rw [if_pos (nI_ne0 (Nat.pos_of_ne_zero (fun z => e (bit_0 _ hlt z))) (by omega)), if_neg e]; rfl
  · unfold upd
    rw [tb_xor]
    by_cases e : x = q
    · subst e; rw [if_pos rfl, hb, decide_eq_true rfl]; rfl
    · rw [if_neg e, decide_eq_false (fun h => e h.symm), Bool.bne_false]; exact g8 x hx
/-! packing's one move -/
def lf (A : AS) (f : Nat) : Nat := (gr (fun x => (p_b A f).testBit x) (p_ps A f)).getD 0
def hq (A : AS) (t : Nat) : Nat := (fi (fun x => !(p_b A t).testBit x) (p_ps A t) 0).getD 0
def frP (A : AS) (j : Nat) : Option Nat := fo (laF A j) 12 0 none
def toQ (A : AS) (j : Nat) : Option Nat := fo (moF A j (frP A j)) 12 0 none
def sF (A : AS) (f : Nat) : Int32 := if p_b A f ^^^ 2 ^ lf A f = 0 then p_t A else -1
def mvA (A : AS) (f t : Nat) : AS := p_set (p_set A f (p_b A f ^^^ 2 ^ lf A f) (sF A f)) t (p_b A t ||| 2 ^ hq A t) (-1)
theorem us_o {j i : Nat} (hu : us A j i = true) : p_o A i = j + 1 ∧ p_b A i ≠ 0 ∧ pc (p_b A i) < p_ps A i := by
  simp only [us, Bool.and_eq_true, beq_iff_eq, bne_iff_ne, decide_eq_true_eq] at hu
  exact hu
theorem lf_ok (h : WF n A) {j i : Nat} (hi : i < 12) (hu : us A j i = true) : gr (fun x => (p_b A i).testBit x) (p_ps A i) = some (lf A i) ∧ lf A i < p_ps A i ∧ (p_b A i).testBit (lf A i) = true ∧ True := by
  obtain ⟨q, h1, h2, h3⟩ := last_ex (w_b h hi) (us_o hu).2.1
  have e : lf A i = q := by unfold lf; rw [h1]; rfl
  rw [e]
  exact ⟨h1, h2, h3, trivial⟩
theorem hq_ok (h : WF n A) {i : Nat} (hi : i < 12) (hp : pc (p_b A i) < p_ps A i) : fi (fun x => !(p_b A i).testBit x) (p_ps A i) 0 = some (hq A i) ∧ hq A i < p_ps A i ∧ (p_b A i).testBit (hq A i) = false := by
  obtain ⟨q, h1, h2, h3⟩ := hole_ex (w_b h hi) (w_ps h hi) hp
  have e : hq A i = q := by unfold hq; rw [h1]; rfl
  rw [e]
  exact ⟨h1, h2, h3⟩
theorem laF_inv (A : AS) (j : Nat) : ∀ (d i : Nat) (a : Option Nat), i + d = 12 → (∀ b, a = some b → b < 12 ∧ us A j b = true) → (∀ x, x < i → us A j x = true → ∃ b, a = some b ∧ pc (p_b A b) ≤ pc (p_b A x)) →
    (∀ b, fo (laF A j) d i a = some b → b < 12 ∧ us A j b = true) ∧ ∀ x, x < 12 → us A j x = true → ∃ b, fo (laF A j) d i a = some b ∧ pc (p_b A b) ≤ pc (p_b A x) := by
  intro d
  induction d with
  | zero => intro i a hi h1 h2; obtain rfl : i = 12 := (by omega); exact ⟨h1, h2⟩
  | succ d ih =>
    intro i a hi h1 h2
    rw [fo]
    refine ih (i + 1) _ (by omega) (fun b hb => ?_) (fun x hx hu => ?_)
    · unfold laF at hb
      by_cases hu : us A j i = true
      · rw [if_pos hu] at hb
        cases a with
        | none => cases hb; exact ⟨by omega, hu⟩
        | some c =>
          by_cases hp : pc (p_b A i) ≤ pc (p_b A c)
          · have hb : (if pc (p_b A i) ≤ pc (p_b A c) then some i else some c) = some b := hb
            rw [if_pos hp] at hb; cases hb; exact ⟨by omega, hu⟩
          · have hb : (if pc (p_b A i) ≤ pc (p_b A c) then some i else some c) = some b := hb
            rw [if_neg hp] at hb; cases hb; exact h1 _ rfl
      · rw [if_neg hu] at hb; exact h1 b hb
    · unfold laF
      by_cases hui : us A j i = true
      · rw [if_pos hui]
        cases a with
        | none =>
          refine ⟨i, rfl, ?_⟩
          by_cases e : x = i
          · rw [e]; exact Nat.le_refl _
          · obtain ⟨b, hb, -⟩ := h2 x (by omega) hu; cases hb
        | some c =>
          show ∃ b, (if pc (p_b A i) ≤ pc (p_b A c) then some i else some c) = some b ∧ _
          by_cases hp : pc (p_b A i) ≤ pc (p_b A c)
          · rw [if_pos hp]
            refine ⟨i, rfl, ?_⟩
            by_cases e : x = i
            · rw [e]; exact Nat.le_refl _
            · obtain ⟨b, hb, hle⟩ := h2 x (by omega) hu
              cases hb; omega
          · rw [if_neg hp]
            refine ⟨c, rfl, ?_⟩
            by_cases e : x = i
            · rw [e]; omega
            · obtain ⟨b, hb, hle⟩ := h2 x (by omega) hu
              cases hb; exact hle
      · rw [if_neg hui]
        by_cases e : x = i
        · rw [e] at hu; exact absurd hu hui
        · exact h2 x (by omega) hu
theorem moF_inv (A : AS) (j : Nat) (but : Option Nat) : ∀ (d i : Nat) (a : Option Nat), i + d = 12 → (∀ b, a = some b → b < 12 ∧ us A j b = true ∧ some b ≠ but) → (∀ x, x < i → us A j x = true → some x ≠ but → a ≠ none) →
    (∀ b, fo (moF A j but) d i a = some b → b < 12 ∧ us A j b = true ∧ some b ≠ but) ∧ ∀ x, x < 12 → us A j x = true → some x ≠ but → fo (moF A j but) d i a ≠ none := by
  intro d
  induction d with
  | zero => intro i a hi h1 h2; obtain rfl : i = 12 := (by omega); exact ⟨h1, h2⟩
  | succ d ih =>
    intro i a hi h1 h2
    rw [fo]
    refine ih (i + 1) _ (by omega) (fun b hb => ?_) (fun x hx hu hn => ?_)
    · unfold moF at hb
      by_cases hu : us A j i = true ∧ some i ≠ but
      · rw [if_pos hu] at hb
        cases a with
        | none => cases hb; exact ⟨by omega, hu⟩
        | some c =>
          by_cases hp : pc (p_b A c) < pc (p_b A i)
          · have hb : (if pc (p_b A c) < pc (p_b A i) then some i else some c) = some b := hb
            rw [if_pos hp] at hb; cases hb; exact ⟨by omega, hu⟩
          · have hb : (if pc (p_b A c) < pc (p_b A i) then some i else some c) = some b := hb
            rw [if_neg hp] at hb; cases hb; exact h1 _ rfl
      · rw [if_neg hu] at hb; exact h1 b hb
    · unfold moF
      by_cases hui : us A j i = true ∧ some i ≠ but
      · rw [if_pos hui]
        cases a with
        | none => simp
        | some c =>
          show (if pc (p_b A c) < pc (p_b A i) then some i else some c) ≠ none
          split <;> simp
      · rw [if_neg hui]
        by_cases e : x = i
        · rw [e] at hu hn; exact absurd ⟨hu, hn⟩ hui
        · exact h2 x (by omega) hu hn
theorem frP_ok (A : AS) (j : Nat) : (∀ f, frP A j = some f → f < 12 ∧ us A j f = true) ∧ ∀ x, x < 12 → us A j x = true → ∃ f, frP A j = some f ∧ pc (p_b A f) ≤ pc (p_b A x) :=
  laF_inv A j 12 0 none rfl (fun b hb => by cases hb) (fun x hx => by omega)
theorem toQ_ok (A : AS) (j : Nat) : (∀ t, toQ A j = some t → t < 12 ∧ us A j t = true ∧ some t ≠ frP A j) ∧ ∀ x, x < 12 → us A j x = true → some x ≠ frP A j → toQ A j ≠ none :=
  moF_inv A j (frP A j) 12 0 none rfl (fun b hb => by cases hb) (fun x hx => by omega)
theorem toQ_fr {j t : Nat} (ht : toQ A j = some t) : ∃ f, frP A j = some f ∧ f < 12 ∧ us A j f = true ∧ t < 12 ∧ us A j t = true ∧ t ≠ f ∧ pc (p_b A f) ≤ pc (p_b A t) := by
  obtain ⟨h1, h2, h3⟩ := (toQ_ok A j).1 t ht
  obtain ⟨f, h4, h5⟩ := (frP_ok A j).2 t h1 h2
  obtain ⟨h6, h7⟩ := (frP_ok A j).1 f h4
  exact ⟨f, h4, h6, h7, h1, h2, fun e => h3 (by rw [h4, e]), h5⟩
end LP
