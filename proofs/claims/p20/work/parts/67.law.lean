/-! the law's rounds, on both sides at once -/
theorem yb_ok {α β : Type} (v : β) (f : β → Option α) : yb (some (.ok v)) f = f v := rfl
theorem lg_self (x : Int64) : lg_cmp x x = 0 := by
  unfold lg_cmp
  rw [if_neg (fun q => by
    have q : x < x := q
    rw [Int64.lt_iff_toInt_lt] at q
    omega), if_pos rfl]
section LP
variable {n : Nat} {A : AS} {k : KSt} {z : SSt}
theorem w_55 (x4 v39 : Int32) : ∀ (d x f n : Nat) (k : KSt) (z : SSt) (A : AS), x + d = 3 → d < f → n + d < 500 → Rl n k z A → 0 < p_n A → ∃ k' z' A', R_L_law_L55 x4 v39 f k z (nI x) = some (k', z', nI 3) ∧ Rl (n + d) k' z' A' ∧ p_n A' = p_n A := by
  intro d
  induction d with
  | zero =>
    intro x f n k z A hx hf hn hR h1
    obtain ⟨f, rfl⟩ : ∃ g, f = g + 1 := ⟨f - 1, by omega⟩
    obtain rfl : x = 3 := by omega
    exact ⟨k, z, A, by rw [R_L_law_L55, if_pos (by decide)], hR, rfl⟩
  | succ d ih =>
    intro x f n k z A hx hf hn hR h1
    obtain ⟨f, rfl⟩ : ∃ g, f = g + 1 := ⟨f - 1, by omega⟩
    obtain ⟨k1, z1, A1, e1, e2, e3⟩ := w_act (show n < 511 by omega) hR h1 ((((v39 >>> ((2 : Int32) &&& 31)) + ((53 : Int32) * x4)) >>> (((3 : Int32) * nI x) &&& 31)) + ((29 : Int32) * nI x))
    rw [R_L_law_L55, if_neg (show ¬ (3 : Int32) ≤ nI x from nI_ge (b := 3) (by omega) (by omega)), e1, Option.bind_some, if_pos (by decide), nI_1]
    obtain ⟨k2, z2, A2, g1, g2, g3⟩ := ih (x + 1) f (n + 1) k1 z1 A1 (by omega) (by omega) (by omega) e2 (by omega)
    exact ⟨k2, z2, A2, g1, g2.by (by omega), g3.trans e3⟩
theorem w_706 (h : WF n A) (hk : KR k A) {a : Nat} (ha : a ≤ 99) (h0 : a = 0 → ∀ x, nX A x 1 = 0) : ∀ (d x f : Nat), x + d = p_n A → d < f → ∃ v, R_L_law_L706 k (nI a) (nI (p_n A)) f (nI x) = some v := by
  have h5 := h.1
  intro d
  induction d with
  | zero =>
    intro x f hx hf
    obtain ⟨f, rfl⟩ : ∃ g, f = g + 1 := ⟨f - 1, by omega⟩
    exact ⟨_, by rw [R_L_law_L706, if_pos (nI_le (by omega) (by omega))]⟩
  | succ d ih =>
    intro x f hx hf
    obtain ⟨f, rfl⟩ : ∃ g, f = g + 1 := ⟨f - 1, by omega⟩
    by_cases ha0 : a = 0
    · have e6 : R_X2_about k (nI x) (6 : Int32) = some (.ok (nI (nX A x 1))) := c_about h hk (x := 6) (by omega) (by omega)
      rw [R_L_law_L706, if_neg (nI_ge (by omega) (by omega)), if_neg (fun q => q (by rw [ha0]; rfl)), e6, yb_ok, if_pos (by rw [h0 ha0]; rfl), nI_1]
      exact ih (x + 1) f (by omega) (by omega)
    · exact ⟨_, by rw [R_L_law_L706, if_neg (nI_ge (by omega) (by omega)), if_pos (nI_ne0 (by omega) (by omega))]⟩
theorem w_588 (h : WF n A) (hk : KR k A) {gx : Nat → Int32} (hg : ∀ x, x < p_n A → gx x = nI (nB A x)) : ∀ (d x f : Nat), x + d = p_n A → d < f → R_L_law_L588 k (nI (p_n A)) (p_n A) gx f (nI x) = some (nI (p_n A)) := by
  have h5 := h.1
  intro d
  induction d with
  | zero =>
    intro x f hx hf
    obtain ⟨f, rfl⟩ : ∃ g, f = g + 1 := ⟨f - 1, by omega⟩
    rw [R_L_law_L588, if_pos (nI_le (by omega) (by omega)), show x = p_n A by omega]
  | succ d ih =>
    intro x f hx hf
    obtain ⟨f, rfl⟩ : ∃ g, f = g + 1 := ⟨f - 1, by omega⟩
    have e7 : R_X2_about k (nI x) (7 : Int32) = some (.ok (nI (nB A x))) := c_about h hk (x := 7) (by omega) (by omega)
    rw [R_L_law_L588, if_neg (nI_ge (by omega) (by omega)), e7, yb_ok, if_pos (inb_nI (by omega) (by omega)), cl (by omega), if_pos (hg x (by omega)).symm, nI_1]
    exact ih (x + 1) f (by omega) (by omega)
theorem w_434 (h : WF n A) (hk : KR k A) : ∀ (d x f : Nat) (g : Nat → Int32), x + d = p_n A → d < f → ∃ g', R_L_law_L434 k (nI (p_n A)) f g (nI x) = some (g', nI (p_n A)) ∧ (∀ y, y < x → g' y = g y) ∧ ∀ y, x ≤ y → y < p_n A → g' y = nI (nB A y) := by
  have h5 := h.1
  intro d
  induction d with
  | zero =>
    intro x f g hx hf
    obtain ⟨f, rfl⟩ : ∃ g, f = g + 1 := ⟨f - 1, by omega⟩
    exact ⟨g, by rw [R_L_law_L434, if_pos (nI_le (by omega) (by omega)), show x = p_n A by omega], fun _ _ => rfl, fun y h1 h2 => by omega⟩
  | succ d ih =>
    intro x f g hx hf
    obtain ⟨f, rfl⟩ : ∃ g, f = g + 1 := ⟨f - 1, by omega⟩
    have e7 : R_X2_about k (nI x) (7 : Int32) = some (.ok (nI (nB A x))) := c_about h hk (x := 7) (by omega) (by omega)
    obtain ⟨g', g1, g2, g3⟩ := ih (x + 1) f (upd g x (nI (nB A x))) (by omega) (by omega)
    refine ⟨g', ?_, fun y hy => ?_, fun y h1 h2 => ?_⟩
    · rw [R_L_law_L434, if_neg (nI_ge (by omega) (by omega)), e7, yb_ok, cl (show p_n A < 2 ^ 31 by omega), if_pos (inb_nI (by omega) (by omega)), Option.bind_some, cl (show x < 2 ^ 31 by omega), nI_1]
      exact g1
    · rw [g2 y (by omega)]
      unfold upd
      rw [if_neg (by omega)]
    · by_cases e : y = x
      · rw [e, g2 x (by omega)]
        unfold upd
        rw [if_pos rfl]
      · exact g3 y (by omega) h2
theorem w_C703 (hR : Rl n k z A) {a : Nat} (ha : a ≤ 99) (h0 : a = 0 → ∀ x, nX A x 1 = 0) {y3 : Int32} (e3 : y3 = nI (p_n A)) (y22 y14 y13 y20 y19 y18 y17 y15 y12 y11 y10 y9 y8 : Int32) (y6 : Int64) (y5 y4 : Int32) (nx : Nat) (gx : Nat → Int32) (K : KSt → SSt → Int32 → Option Unit) : R_L_law_C703 k z y22 (nI a) y14 y13 y20 y19 y18 y17 y15 y12 y11 y10 y9 y8 y6 y5 y4 y3 nx gx K = K k z (y4 + 1) := by
  subst e3
  obtain ⟨h, hw, hk, hs⟩ := hR
  obtain ⟨v, e⟩ := w_706 h hk ha h0 (p_n A) 0 FU (Nat.zero_add _) (by have := h.1; unfold FU; omega)
  have e : R_L_law_L706 k (nI a) (nI (p_n A)) FU (0 : Int32) = some v := e
  unfold R_L_law_C703
  rw [e, Option.bind_some, u_isSame h hk hs, Option.bind_some, if_pos (by decide)]
theorem w_C618 (hn : n < 512) (hR : Rl n k z A) {y3 : Int32} (e3 : y3 = nI (p_n A)) (y21 y20 y19 y18 y17 y15 y14 y13 y12 y11 y10 y9 y8 : Int32) (y6 : Int64) (y5 y4 : Int32) (nx : Nat) (gx : Nat → Int32) (K : KSt → SSt → Int32 → Option Unit) : ∃ k' z' A', R_L_law_C618 k z y21 y20 y19 y18 y17 y15 y14 y13 y12 y11 y10 y9 y8 y6 y5 y4 y3 nx gx K = K k' z' (y4 + 1) ∧ Rl n k' z' A' ∧ p_n A' = p_n A := by
  have c3 : R_X2_count k (3 : Int32) = some (.ok (nI (nA A))) := s_count hR.1 hR.2.2.1 (x := 3) (by omega)
  have c2 : R_X2_count k (2 : Int32) = some (.ok (nI (nF A))) := s_count hR.1 hR.2.2.1 (x := 2) (by omega)
  unfold R_L_law_C618
  rw [c3, yb_ok, c2, yb_ok, if_pos (by decide)]
  have key : ∀ (x : Option Int32) (a : Nat), a ≤ 99 → x = some (nI a) → ∃ k' z' A', (x.bind fun v640 => yb (R_X2_reap k v640) fun v662 => (R_X3_reaps z v640).bind fun v670 => if ¬ v670.1 = v662.1 then none else yb (R_X2_count v662.2 (3 : Int32)) fun v680 => if ¬ v680 = nI (nA A) then none else yb (R_X2_count v662.2 (2 : Int32)) fun v690 => if v690 = (nI (nF A) + v662.1) then R_L_law_C703 v662.2 v670.2 v662.1 v640 (nI (nF A)) (nI (nA A)) y20 y19 y18 y17 y15 y12 y11 y10 y9 y8 y6 y5 y4 y3 nx gx (fun kk zz xx => K kk zz xx) else none) = K k' z' (y4 + 1) ∧ Rl n k' z' A' ∧ p_n A' = p_n A := by
    intro x a ha hx
    obtain ⟨k', z', e1, e2, e4⟩ := r_reap hn hR ha
    obtain ⟨p1, p2, p3⟩ := rp_ok (nI a) 12 0 A 0 rfl
    have h0 : a = 0 → ∀ x, nX (fo (rpF (nI a)) 12 0 (A, 0)).1 x 1 = 0 := fun ea x => by
      subst ea
      exact no_em (rp_all hn 12 0 A 0 rfl hR.2.1 (fun q hq => by omega)) x
    generalize fo (rpF (nI a)) 12 0 (A, 0) = D at *
    have d3 : R_X2_count k' (3 : Int32) = some (.ok (nI (nA D.1))) := s_count e4.1 e4.2.2.1 (x := 3) (by omega)
    have d2 : R_X2_count k' (2 : Int32) = some (.ok (nI (nF D.1))) := s_count e4.1 e4.2.2.1 (x := 2) (by omega)
    rw [hx, Option.bind_some, e1, yb_ok, e2, Option.bind_some, if_neg (fun q => q rfl), d3, yb_ok, if_neg (fun q => q (by rw [p1])), d2, yb_ok, if_pos (by rw [nI_add, ← p2, Nat.add_zero])]
    refine ⟨k', z', D.1, ?_, e4, p3⟩
    exact w_C703 e4 ha h0 (by rw [e3, p3]) _ _ _ _ _ _ _ _ _ _ _ _ _ _ _ _ _ _ _
  by_cases c5 : bl_ (y5 >>> ((5 : Int32) &&& 31)) (3 : Int32) = 0
  · exact key _ 0 (by omega) (by rw [if_neg (fun q => q c5)]; rfl)
  · obtain ⟨a, ha, ea⟩ := sh_I y5 7 (9 : Int32) (N := 9) (by omega) (by omega) rfl
    exact key _ a (by omega) (by rw [if_pos c5, if_pos (by decide), ea])
theorem w_C585 (hn : n < 512) (hR : Rl n k z A) {y3 : Int32} (e3 : y3 = nI (p_n A)) {nx : Nat} {gx : Nat → Int32} (hnx : nx = p_n A) (hg : ∀ x, x < p_n A → gx x = nI (nB A x)) (y20 y19 y18 y17 y15 y14 y13 y12 y11 y10 y9 y8 : Int32) (y6 : Int64) (y5 y4 : Int32) (K : KSt → SSt → Int32 → Option Unit) : ∃ k' z' A', R_L_law_C585 k z y20 y19 y18 y17 y15 y14 y13 y12 y11 y10 y9 y8 y6 y5 y4 y3 nx gx K = K k' z' (y4 + 1) ∧ Rl n k' z' A' ∧ p_n A' = p_n A := by
  subst hnx
  have e : R_L_law_L588 k (nI (p_n A)) (p_n A) gx FU (0 : Int32) = some (nI (p_n A)) := w_588 hR.1 hR.2.2.1 hg (p_n A) 0 FU (Nat.zero_add _) (by have := hR.1.1; unfold FU; omega)
  unfold R_L_law_C585
  rw [e3, e, Option.bind_some]
  exact w_C618 hn hR rfl _ _ _ _ _ _ _ _ _ _ _ _ _ _ _ _ _ _ _
theorem nX_le (A : AS) (j x : Nat) : nX A j x ≤ 12 := by
  have := sm_le (f := fun q => b1 (p_o A q == j + 1 && stN A q == x)) (g := fun _ => 1) (n := 12) (fun q _ => b1_le _)
  rw [sm_const] at this
  exact this
theorem w_C505 (hn : n < 512) (hR : Rl n k z A) {j : Nat} (hj : j < p_n A) {y3 y8 y17 y18 y19 : Int32} (e3 : y3 = nI (p_n A)) (e8 : y8 = nI j) (e17 : y17 = nI (nX A j 1)) (e18 : y18 = nI (gn A j)) (e19 : y19 = p_m A) {nx : Nat} {gx : Nat → Int32} (hnx : nx = p_n A) (hg : ∀ x, x < p_n A → gx x = nI (nB A x)) (y15 y14 y13 y12 y11 y10 y9 : Int32) (y6 : Int64) (y5 y4 : Int32) (K : KSt → SSt → Int32 → Option Unit) : ∃ k' z' A', R_L_law_C505 k z y19 y18 y17 y15 y14 y13 y12 y11 y10 y9 y8 y6 y5 y4 y3 nx gx K = K k' z' (y4 + 1) ∧ Rl n k' z' A' ∧ p_n A' = p_n A := by
  obtain ⟨p1, p2, p3, p4, p5, p6, p7, p8, p9⟩ := pc_ok hR.1 hj
  obtain ⟨k1, z1, a1, a2, a3⟩ := r_pack hR hj
  have hj1 : j < p_n (pcA A j) := by omega
  obtain ⟨k2, b1', b2, b3⟩ := c_pack a3.1 a3.2.2.1 hj1
  rw [p5] at b1'
  rw [p6] at b2 b3
  have x12 := nX_le (pcA A j) j 2
  have d6 : R_X2_about k1 (nI j) (6 : Int32) = some (.ok (nI (nX (pcA A j) j 1))) := c_about a3.1 a3.2.2.1 (x := 6) hj1 (by omega)
  have d5 : R_X2_about k1 (nI j) (5 : Int32) = some (.ok (nI (nX (pcA A j) j 2))) := c_about a3.1 a3.2.2.1 (x := 5) hj1 (by omega)
  have d8 : R_X2_count k1 (8 : Int32) = some (.ok (p_m (pcA A j))) := s_count a3.1 a3.2.2.1 (x := 8) (by omega)
  have dg := c_gains b3 b2 hj1
  unfold R_L_law_C505
  rw [e8, a1, yb_ok, a2, Option.bind_some, if_neg (fun q => q rfl), d6, yb_ok, if_neg (fun q => q (by rw [e17, e18, nI_add, p2])), d5, yb_ok, if_neg (fun q => by
    have := (nI_ltI (a := 1) (b := nX (pcA A j) j 2) (by omega) (by omega)).mp q
    omega), d8, yb_ok, if_neg (fun q => q (by rw [e19, p4])), b1', yb_ok, if_neg (fun q => q rfl), dg, yb_ok, p7, if_pos (show nI 0 = 0 from rfl)]
  obtain ⟨k', z', A', r1, r2, r3⟩ := w_C585 hn (show Rl n k2 z1 (pcA A j) from ⟨b3, a3.2.1, b2, a3.2.2.2⟩) (show y3 = nI (p_n (pcA A j)) by rw [e3, p1]) (show nx = p_n (pcA A j) by rw [hnx, p1]) (gx := gx) (fun x hx => by rw [p8 x]; exact hg x (by omega)) (nI (pkC j 864 A)) y19 y18 y17 y15 y14 y13 y12 y11 y10 y9 (nI j) y6 y5 y4 (fun kk zz xx => K kk zz xx)
  exact ⟨k', z', A', r1, r2, r3.trans p1⟩
theorem w_C426 (hn : n < 512) (hR : Rl n k z A) {j : Nat} (hj : j < p_n A) {y3 y8 : Int32} (e3 : y3 = nI (p_n A)) (e8 : y8 = nI j) (y15 y14 y13 y12 y11 y10 y9 : Int32) (y6 : Int64) (y5 y4 : Int32) (K : KSt → SSt → Int32 → Option Unit) : ∃ k' z' A', R_L_law_C426 k z y15 y14 y13 y12 y11 y10 y9 y8 y6 y5 y4 y3 K = K k' z' (y4 + 1) ∧ Rl n k' z' A' ∧ p_n A' = p_n A := by
  obtain ⟨h, hw, hk, hs⟩ := id hR
  have h5 := h.1
  obtain ⟨g', g1, -, g3⟩ := w_434 h hk (p_n A) 0 FU (fun _ => (0 : Int32)) (Nat.zero_add _) (by unfold FU; omega)
  have g1 : R_L_law_L434 k (nI (p_n A)) FU (fun _ => (0 : Int32)) (0 : Int32) = some (g', nI (p_n A)) := g1
  have d6 : R_X2_about k (nI j) (6 : Int32) = some (.ok (nI (nX A j 1))) := c_about h hk (x := 6) hj (by omega)
  have d8 : R_X2_count k (8 : Int32) = some (.ok (p_m A)) := s_count h hk (x := 8) (by omega)
  obtain ⟨ad1, ad2⟩ := adv_ok A (p_n A) 0 none (fun b hb => by cases hb) (fun _ => rfl)
  have hgj := gn_12 A j
  cases ea : fo (aF A) (p_n A) 0 none with
  | none => have := ad2 ea; omega
  | some b =>
    obtain ⟨hb1, hb2⟩ := ad1 b ea
    have hgb := gn_12 A b
    have hle := hb2 j (by omega)
    have ed : R_X2_advise k = some (nI b) := (c_advise h hk).trans (by rw [ea]; rfl)
    unfold R_L_law_C426
    rw [e3, cl (show p_n A < 2 ^ 31 by omega), if_pos ⟨nI_pos (by omega), by omega⟩, g1, Option.bind_some, e8, d6, yb_ok, c_gains h hk hj, yb_ok, d8, yb_ok, if_neg (nI_pos (by omega)), ed, Option.bind_some, c_gains h hk (show b < p_n A by omega), yb_ok, if_pos (nI_le hle (by omega))]
    exact w_C505 hn hR hj rfl rfl rfl rfl rfl rfl (fun x hx => g3 x (Nat.zero_le _) hx) _ _ _ _ _ _ _ _ _ _ _
theorem w_C220 (hn : n + 2 < 512) (hR : Rl n k z A) {j : Nat} (hj : j < p_n A) {y3 y8 y9 y10 y11 y12 y13 y14 y15 : Int32} (e3 : y3 = nI (p_n A)) (e8 : y8 = nI j) (e9 : y9 = aNx A j) (e10 : y10 = nI (ftA A j)) (e11 : y11 = wdA A j) (e12 : y12 = nI (nB A j)) (e13 : y13 = nI (nA A)) (e14 : y14 = nI (nF A)) (e15 : y15 = p_t A) (y6 : Int64) (y5 y4 : Int32) (K : KSt → SSt → Int32 → Option Unit) : ∃ k' z' A', R_L_law_C220 k z y15 y14 y13 y12 y11 y10 y9 y8 y6 y5 y4 y3 K = K k' z' (y4 + 1) ∧ Rl (n + 2) k' z' A' ∧ p_n A' = p_n A := by
  obtain ⟨h, hw, hk, hs⟩ := id hR
  unfold R_L_law_C220
  have key : ∀ (x : Option (KSt × SSt)) (k1 : KSt) (z1 : SSt) (A1 : AS), x = some (k1, z1) → Rl (n + 2) k1 z1 A1 → p_n A1 = p_n A → ∃ k' z' A', (x.bind fun v222 => R_L_law_C426 v222.1 v222.2 y15 y14 y13 y12 y11 y10 y9 y8 y6 y5 y4 y3 (fun kk zz xx => K kk zz xx)) = K k' z' (y4 + 1) ∧ Rl (n + 2) k' z' A' ∧ p_n A' = p_n A := by
    intro x k1 z1 A1 hx hR1 hn1
    rw [hx, Option.bind_some]
    obtain ⟨k', z', A', r1, r2, r3⟩ := w_C426 hn hR1 (show j < p_n A1 by omega) (show y3 = nI (p_n A1) by rw [e3, hn1]) e8 y15 y14 y13 y12 y11 y10 y9 y6 y5 y4 (fun kk zz xx => K kk zz xx)
    exact ⟨k', z', A', r1, r2, r3.trans hn1⟩
  rcases r_put (show n < 512 by omega) hR hj with ⟨e0, -, -⟩ | ⟨r, k1, z1, e0, u1, u2, hR1, hn1⟩
  · obtain ⟨q1, -, -⟩ := pu_no h hw hj e0
    exact key _ k z A (by rw [e9, q1, if_pos (by decide)]) (hR.by (by omega)) rfl
  · obtain ⟨i, c, A1, hi, hr, f1, f2, f3, f4, f5, f6, f7, f8, f9, f10, f11, f12, f13⟩ := pu_ok (show n < 512 by omega) h hw hj e0
    subst hr
    have hj1 : j < p_n A1 := by omega
    obtain ⟨g1, g2, g3, g4, g5, g6, g7, g8, g9⟩ := pt_ok f1 hi hj1 f2 f3
    obtain ⟨t1, t2, t3, t4, t5, t6⟩ := tk_back f1 hi hj1 f2 f3
    have h1 := hR1.1
    have hk1 := hR1.2.2.1
    have hj2 : j < p_n (ptA A1 i) := hj1
    have epl : p_pl A1 j = p_pl A j := by unfold p_pl; rw [f6]
    have hle1 := (nB_le g1 hj2).1
    rw [g6, g9, f10, f11, show p_pl (ptA A1 i) j = p_pl A1 j from rfl, epl] at hle1
    have hle0 := (nB_le h hj).1
    have eft : ftA (ptA A1 i) j + 1 = ftA A j := by
      unfold ftA
      rw [g6, g9, g8, f10, f11, show p_pl (ptA A1 i) j = p_pl A1 j from rfl, epl, ← f9]
      exact ft_step (b := 0) hle1 hle0
    have d0 : R_X2_place k1 (nI (ptS A1 i)) (0 : Int32) = some (.ok (nI j)) := (c_place h1 hk1 (x := 0) g2 (by omega)).trans (by rw [g5 0 (by omega)]; rfl)
    have d2 : R_X2_place k1 (nI (ptS A1 i)) (2 : Int32) = some (.ok 1) := (c_place h1 hk1 (x := 2) g2 (by omega)).trans (by rw [g5 2 (by omega)]; rfl)
    have d3 : R_X2_place k1 (nI (ptS A1 i)) (3 : Int32) = some (.ok (nI (ptS A1 i))) := (c_place h1 hk1 (x := 3) g2 (by omega)).trans (by rw [g5 3 (by omega)]; rfl)
    have d7 : R_X2_about k1 (nI j) (7 : Int32) = some (.ok (nI (nB (ptA A1 i) j))) := c_about h1 hk1 (x := 7) hj2 (by omega)
    have c3 : R_X2_count k1 (3 : Int32) = some (.ok (nI (nA (ptA A1 i)))) := s_count h1 hk1 (x := 3) (by omega)
    have c2 : R_X2_count k1 (2 : Int32) = some (.ok (nI (nF (ptA A1 i)))) := s_count h1 hk1 (x := 2) (by omega)
    have cf := c_fits h1 hk1 hj2
    have hF := nF_le A
    by_cases c6 : bl_ (y5 >>> ((6 : Int32) &&& 31)) (2 : Int32) = 0
    · rcases r_take hR1 g2 with ⟨x0, -, -⟩ | ⟨q, k2, z2, x0, x1, x2, hR2⟩
      · rw [show tkQ (ptA A1 i) (ptS A1 i) = some (hq A1 i) from t1] at x0; cases x0
      · have x0 : tkQ (ptA A1 i) (ptS A1 i) = some q := x0
        rw [t1] at x0
        cases x0
        have h2 := hR2.1
        have hk2 := hR2.2.2.1
        have hj3 : j < p_n (tkA (ptA A1 i) (ptS A1 i) (hq A1 i)) := hj1
        have m2 : R_X2_place k2 (nI (ptS A1 i)) (2 : Int32) = some (.ok 0) := (c_place h2 hk2 (x := 2) g2 (by omega)).trans (by rw [t2])
        have m7 : R_X2_about k2 (nI j) (7 : Int32) = some (.ok (nI (nB A1 j))) := (c_about h2 hk2 (x := 7) hj3 (by omega)).trans (congrArg (fun x => some (Except.ok (nI x))) t3)
        have m3 : R_X2_count k2 (3 : Int32) = some (.ok (nI (nA A1))) := (s_count h2 hk2 (x := 3) (by omega)).trans (congrArg (fun x => some (Except.ok (nI x))) t4)
        have m0 : R_X2_count k2 (0 : Int32) = some (.ok (p_t A1 + 1 + 1)) := s_count h2 hk2 (x := 0) (by omega)
        have eft2 : ftA (tkA (ptA A1 i) (ptS A1 i) (hq A1 i)) j = ftA A j := by
          unfold ftA
          rw [t3, t5, t6, f10, f11, show p_pl (tkA (ptA A1 i) (ptS A1 i) (hq A1 i)) j = p_pl A1 j from rfl, epl, ← f9]
          rw [Nat.add_mul, Nat.add_mul]
          omega
        have mf := c_fits h2 hk2 hj3
        rw [eft2] at mf
        refine key _ k2 z2 (tkA (ptA A1 i) (ptS A1 i) (hq A1 i)) ?_ hR2 (show p_n A1 = p_n A from f4)
        rw [e9, f7, if_neg (nI_pos (by omega)), e8, u2, yb_ok, if_neg (fun q => q rfl), u1, Option.bind_some, if_neg (fun q => q rfl), d0, yb_ok, if_neg (fun q => q rfl), d2, yb_ok, if_neg (fun q => q rfl), d3, yb_ok, if_neg (fun q => q rfl), d7, yb_ok, if_neg (fun q => q (by rw [e12, nI_1, g6, f11])), c3, yb_ok, if_neg (fun q => q (by rw [e13, nI_1, g7, f12])), c2, yb_ok, if_neg (fun q => q (by rw [e14, e11, f8, pk_sub (show c ≤ nF A by omega), g8]; exact congrArg nI (by omega))), cf, yb_ok, if_pos (by rw [e10, ← eft, nI_pred]), if_pos (by decide), if_neg (fun q => q c6), x2, yb_ok, x1, Option.bind_some, if_neg (fun q => q rfl), m2, yb_ok, if_neg (fun q => q rfl), m7, yb_ok, if_neg (fun q => q (by rw [e12, f11])), m3, yb_ok, if_neg (fun q => q (by rw [e13, f12])), m0, yb_ok, if_neg (fun q => q (by rw [e15, f5, Int32.add_assoc]; rfl)), mf, yb_ok, if_pos e10.symm]
    · refine key _ k1 z1 (ptA A1 i) ?_ hR1.up hn1
      rw [e9, f7, if_neg (nI_pos (by omega)), e8, u2, yb_ok, if_neg (fun q => q rfl), u1, Option.bind_some, if_neg (fun q => q rfl), d0, yb_ok, if_neg (fun q => q rfl), d2, yb_ok, if_neg (fun q => q rfl), d3, yb_ok, if_neg (fun q => q rfl), d7, yb_ok, if_neg (fun q => q (by rw [e12, nI_1, g6, f11])), c3, yb_ok, if_neg (fun q => q (by rw [e13, nI_1, g7, f12])), c2, yb_ok, if_neg (fun q => q (by rw [e14, e11, f8, pk_sub (show c ≤ nF A by omega), g8]; exact congrArg nI (by omega))), cf, yb_ok, if_pos (by rw [e10, ← eft, nI_pred]), if_pos (by decide), if_pos c6]
theorem w_C90 (hn : n + 2 < 512) (hR : Rl n k z A) (h1 : 0 < p_n A) {y3 : Int32} (e3 : y3 = nI (p_n A)) (y6 y5 y4 : Int32) (K : KSt → SSt → Int32 → Option Unit) : ∃ k' z' A', R_L_law_C90 k z y6 y5 y4 y3 K = K k' z' (y4 + 1) ∧ Rl (n + 2) k' z' A' ∧ p_n A' = p_n A := by
  obtain ⟨h, hw, hk, hs⟩ := id hR
  have h5 := h.1
  obtain ⟨j, hj, ej⟩ := sh_I y5 4 y3 (N := p_n A) h1 (by omega) e3
  have d7 : R_X2_about k (nI j) (7 : Int32) = some (.ok (nI (nB A j))) := c_about h hk (x := 7) hj (by omega)
  have c3 : R_X2_count k (3 : Int32) = some (.ok (nI (nA A))) := s_count h hk (x := 3) (by omega)
  have c2 : R_X2_count k (2 : Int32) = some (.ok (nI (nF A))) := s_count h hk (x := 2) (by omega)
  have c0 : R_X2_count k (0 : Int32) = some (.ok (p_t A)) := s_count h hk (x := 0) (by omega)
  have hb : ∃ v : Int32, (if 0 ≤ aNx A j then some (0 : Int32) else some (1 : Int32)) = some v ∧ (if ¬ nI (ftA A j) = 0 then some (0 : Int32) else some (1 : Int32)) = some v ∧ (if 0 ≤ wdA A j then some (0 : Int32) else some (1 : Int32)) = some v := by
    cases e : puA A j with
    | none =>
      obtain ⟨q1, q2, q3⟩ := pu_no h hw hj e
      refine ⟨1, ?_, ?_, ?_⟩
      · rw [q1, if_neg (by decide)]
      · rw [q3, if_neg (fun q => q rfl)]
      · rw [q2, if_neg (by decide)]
    | some r =>
      obtain ⟨i, c, A1, hi, hr, f1, f2, f3, f4, f5, f6, f7, f8, f9, f10, f11, f12, f13⟩ := pu_ok (show n < 512 by omega) h hw hj e
      subst hr
      have hj1 : j < p_n A1 := by omega
      obtain ⟨g1, g2, g3, g4, g5, g6, g7, g8, g9⟩ := pt_ok f1 hi hj1 f2 f3
      have hF := nF_le A
      have epl : p_pl A1 j = p_pl A j := by unfold p_pl; rw [f6]
      have hle1 := (nB_le g1 (show j < p_n (ptA A1 i) from hj1)).1
      rw [g6, g9, f10, f11, show p_pl (ptA A1 i) j = p_pl A1 j from rfl, epl] at hle1
      obtain ⟨hle0, hs12⟩ := nB_le h hj
      have hp := w_pl h hj
      have eft : ftA (ptA A1 i) j + 1 = ftA A j := by
        unfold ftA
        rw [g6, g9, g8, f10, f11, show p_pl (ptA A1 i) j = p_pl A1 j from rfl, epl, ← f9]
        exact ft_step (b := 0) hle1 hle0
      have hft : ftA A j ≤ 288 := by
        unfold ftA
        have m1 : nS A j * p_pl A j ≤ 12 * 12 := Nat.mul_le_mul hs12 hp.2
        have m2 : nF A * p_pl A j ≤ 12 * 12 := Nat.mul_le_mul hF hp.2
        omega
      refine ⟨0, ?_, ?_, ?_⟩
      · rw [f7, if_pos (nI_pos' (by omega))]
      · rw [if_pos (nI_ne0 (by omega) (by omega))]
      · rw [f8, if_pos (nI_pos' (by omega))]
  obtain ⟨v, v1, v2, v3⟩ := hb
  unfold R_L_law_C90
  rw [c_digest h hk, Option.bind_some, if_pos (by rw [e3]; exact nI_ne0 h1 (by omega)), ej, c_next h hk hj, yb_ok, c_fits h hk hj, yb_ok, c_would h hk hj, yb_ok, d7, yb_ok, c3, yb_ok, c2, yb_ok, c0, yb_ok, v1, Option.bind_some, v2, Option.bind_some, if_neg (fun q => q rfl), Option.bind_some, v3, Option.bind_some, if_neg (fun q => q rfl), Option.bind_some, lg_self, if_pos rfl]
  exact w_C220 hn hR hj e3 rfl rfl rfl rfl rfl rfl rfl rfl _ _ _ _
theorem w_29 {L : Nat} (hL : L ≤ 260) (xs : Nat → Int32) : ∀ (d x f n : Nat) (k : KSt) (z : SSt) (A : AS) (v22 : Int32), x + d = 16 → d < f → n + 5 * d < 400 → Rl n k z A → 0 < p_n A → v22 = nI (p_n A) → R_L_law_L29 L xs v22 f k z (nI x) = some () := by
  intro d
  induction d with
  | zero =>
    intro x f n k z A v22 hx hf hn hR h1 e
    obtain ⟨f, rfl⟩ : ∃ g, f = g + 1 := ⟨f - 1, by omega⟩
    obtain rfl : x = 16 := by omega
    rw [R_L_law_L29, if_pos (by decide)]
  | succ d ih =>
    intro x f n k z A v22 hx hf hn hR h1 e
    obtain ⟨f, rfl⟩ : ∃ g, f = g + 1 := ⟨f - 1, by omega⟩
    obtain ⟨v39, e39⟩ := cl_ok hL xs (c := x) (by omega)
    obtain ⟨k1, z1, A1, g1, g2, g3⟩ := w_55 (nI x) v39 3 0 4 n k z A rfl (by omega) (by omega) hR h1
    have g1 : R_L_law_L55 (nI x) v39 4 k z (0 : Int32) = some (k1, z1, nI 3) := g1
    rw [R_L_law_L29, if_neg (show ¬ (16 : Int32) ≤ nI x from nI_ge (b := 16) (by omega) (by omega)), e39, Option.bind_some, g1, Option.bind_some]
    obtain ⟨k2, z2, A2, r1, r2, r3⟩ := w_C90 (show n + 3 + 2 < 512 by omega) g2 (show 0 < p_n A1 by omega) (show v22 = nI (p_n A1) by rw [e, g3]) (nI 3) ((v39 >>> ((2 : Int32) &&& 31)) + ((53 : Int32) * nI x)) (nI x) (fun kk zz xx => R_L_law_L29 L xs v22 f kk zz xx)
    refine r1.trans ?_
    show R_L_law_L29 L xs v22 f k2 z2 (nI x + 1) = some ()
    rw [nI_1]
    exact ih (x + 1) f (n + 3 + 2) k2 z2 A2 v22 (by omega) (by omega) (by omega) r2 (by omega) (by rw [e, r3, g3])
theorem w_law {L : Nat} (hL : L ≤ 260) (xs : Nat → Int32) (hn : n ≤ 60) (hR : Rl n k z A) (h1 : 0 < p_n A) : R_L_law L xs k z = some () := by
  have c1 : R_X2_count k (1 : Int32) = some (.ok (nI (p_n A))) := s_count hR.1 hR.2.2.1 (x := 1) (by omega)
  unfold R_L_law
  rw [c1, yb_ok]
  exact w_29 hL xs 16 0 17 n k z A (nI (p_n A)) rfl (by omega) (by omega) hR h1 rfl
end LP
