/-! both sides stand for one kitchen -/
def Rl (n : Nat) (k : KSt) (z : SSt) (A : AS) : Prop := WF n A ∧ WT n A ∧ KR k A ∧ SR z A
theorem sh_I (v s : Int32) (w : Int32) {N : Nat} (h0 : 0 < N) (hN : N < 2 ^ 31) (e : w = nI N) : ∃ a, a < N ∧ bl_ (v >>> (s &&& 31)) w = nI a := by
  subst e; exact bl_ok _ h0 hN
section LP
variable {n : Nat} {A : AS} {k : KSt} {z : SSt}
theorem Rl.up (h : Rl n k z A) : Rl (n + 1) k z A := ⟨h.1.up, h.2.1.up, h.2.2.1, h.2.2.2⟩
theorem Rl.by {m : Nat} (h : Rl n k z A) (hm : n ≤ m) : Rl m k z A := by
  obtain ⟨d, rfl⟩ : ∃ d, m = n + d := ⟨m - n, by omega⟩
  induction d with
  | zero => exact h
  | succ d ih => exact (ih (by omega)).up
theorem SR.wy (hs : SR z A) (v : Int32) : SR (zFs z 1 v) (p_wy A v) := by
  obtain ⟨⟨e0, e1, e2, e3, e4⟩, h2, h3⟩ := hs
  refine ⟨⟨?_, ?_, ?_, ?_, e4⟩, h2, h3⟩
  · rw [zF_Fs, if_neg (by omega)]; exact e0
  · rw [zF_Fs, if_pos rfl]; rfl
  · rw [zF_Fs, if_neg (by omega)]; exact e2
  · rw [zF_Fs, if_neg (by omega)]; exact e3
/-! the calls, both at once -/
theorem r_put (hn : n < 512) (hR : Rl n k z A) {j : Nat} (hj : j < p_n A) : (puA A j = none ∧ R_X3_puts z (nI j) = some (-1, z) ∧ R_X2_put k (nI j) = some (.error exIS)) ∨ ∃ r k' z', puA A j = some r ∧ R_X3_puts z (nI j) = some (nI r.1, z') ∧ R_X2_put k (nI j) = some (.ok (nI r.1, k')) ∧ Rl (n + 1) k' z' r.2 ∧ p_n r.2 = p_n A := by
  obtain ⟨h, hw, hk, hs⟩ := hR
  have c1 := c_put hn h hk hj
  have u1 := u_puts hn hw.1 h hs hj
  cases e : puA A j with
  | none =>
    rw [e] at c1 u1
    exact Or.inl ⟨rfl, u1, c1⟩
  | some r =>
    rw [e] at c1 u1
    obtain ⟨k', c2, c3, c4⟩ := c1
    obtain ⟨z', u2, u3⟩ := u1
    obtain ⟨i, c, A1, hi, hr, f1, f2, f3, f4, f5, f6, f7, f8, f9, f10, f11, f12, f13⟩ := pu_ok hn h hw hj e
    exact Or.inr ⟨r, k', z', rfl, u2, c2, ⟨c4, f13, c3, u3⟩, by rw [hr]; exact f4⟩
theorem r_take (hR : Rl n k z A) {a : Nat} (ha : a < 288) : (tkQ A a = none ∧ R_X3_takes z (nI a) = some (-1, z) ∧ R_X2_take k (nI a) = some (.error exIA)) ∨ ∃ q k' z', tkQ A a = some q ∧ R_X3_takes z (nI a) = some (nI (pc (p_b A (a / 24) ^^^ 2 ^ q)), z') ∧ R_X2_take k (nI a) = some (.ok (nI (pc (p_b A (a / 24) ^^^ 2 ^ q)), k')) ∧ Rl (n + 1) k' z' (tkA A a q) := by
  obtain ⟨h, hw, hk, hs⟩ := hR
  have c1 := c_take h hk ha
  have u1 := u_takes h hs ha
  cases e : tkQ A a with
  | none =>
    rw [e] at c1 u1
    exact Or.inl ⟨rfl, u1, c1⟩
  | some q =>
    rw [e] at c1 u1
    obtain ⟨k', c2, c3⟩ := c1
    obtain ⟨z', u2, u3⟩ := u1
    exact Or.inr ⟨q, k', z', rfl, u2, c2, (WF.tk h (by omega) (tkQ_plc h ha e).2.1).up, hw.tk a q, c3, u3⟩
theorem r_reap (hn : n < 512) (hR : Rl n k z A) {a : Nat} (ha : a ≤ 99) : ∃ k' z', R_X2_reap k (nI a) = some (.ok (nI (fo (rpF (nI a)) 12 0 (A, 0)).2, k')) ∧ R_X3_reaps z (nI a) = some (nI (fo (rpF (nI a)) 12 0 (A, 0)).2, z') ∧ Rl n k' z' (fo (rpF (nI a)) 12 0 (A, 0)).1 := by
  obtain ⟨h, hw, hk, hs⟩ := hR
  obtain ⟨k', c1, c2, c3⟩ := c_reap h hk ha
  obtain ⟨z', u1, u2, u3⟩ := u_reaps hn ha h hw hs
  exact ⟨k', z', c1, u1, c3, u3, c2, u2⟩
theorem r_pack (hR : Rl n k z A) {j : Nat} (hj : j < p_n A) : ∃ k' z', R_X2_pack k (nI j) = some (.ok (nI (pkC j 864 A), k')) ∧ R_X3_packs z (nI j) = some (nI (pkC j 864 A), z') ∧ Rl n k' z' (pcA A j) := by
  obtain ⟨h, hw, hk, hs⟩ := hR
  obtain ⟨k', c1, c2, c3⟩ := c_pack h hk hj
  obtain ⟨z', u1, u2⟩ := u_packs h hs hj
  exact ⟨k', z', c1, u1, c3, wt_pc hw j, c2, u2⟩
/-! act -/
theorem w_221 (h : WF n A) (hs : SR z A) {p2 : Int32} {i : Nat} (hi : i < 12) (ei : bl_ (p2 >>> ((5 : Int32) &&& 31)) (12 : Int32) = nI i) : ∀ (d e q f : Nat), e ≤ d → d < f → q < p_ps A i → (p_b A i).testBit ((q + e) % p_ps A i) = true → ∃ y, R_L_act_L221 z p2 f (nI q) = some (nI y) ∧ y < p_ps A i := by
  have hps := w_ps h hi
  intro d
  induction d with
  | zero =>
    intro e q f he hf hq hb
    obtain ⟨f, rfl⟩ : ∃ g, f = g + 1 := ⟨f - 1, by omega⟩
    obtain rfl : e = 0 := by omega
    rw [Nat.add_zero, Nat.mod_eq_of_lt hq] at hb
    refine ⟨q, ?_, hq⟩
    rw [R_L_act_L221, ei, if_pos (nI_inb hi), nI_cl hi, hs.l hi, if_pos (inb_nI hq (by omega)), cl (by omega), hs.b hi (by omega), if_pos (bt_0 hb)]
  | succ d ih =>
    intro e q f he hf hq hb
    obtain ⟨f, rfl⟩ : ∃ g, f = g + 1 := ⟨f - 1, by omega⟩
    by_cases hb0 : (p_b A i).testBit q = true
    · refine ⟨q, ?_, hq⟩
      rw [R_L_act_L221, ei, if_pos (nI_inb hi), nI_cl hi, hs.l hi, if_pos (inb_nI hq (by omega)), cl (by omega), hs.b hi (by omega), if_pos (bt_0 hb0)]
    · have he0 : e ≠ 0 := fun e0 => by
        rw [e0, Nat.add_zero, Nat.mod_eq_of_lt hq] at hb
        exact hb0 hb
      obtain ⟨y, y1, y2⟩ := ih (e - 1) ((q + 1) % p_ps A i) f (by omega) (by omega) (Nat.mod_lt _ (by omega)) (by
        rw [Nat.mod_add_mod, show q + 1 + (e - 1) = q + e by omega]; exact hb)
      refine ⟨y, ?_, y2⟩
      rw [R_L_act_L221, ei, if_pos (nI_inb hi), nI_cl hi, hs.l hi, if_pos (inb_nI hq (by omega)), cl (by omega), hs.b hi (by omega), if_neg (fun x => x (b1_f hb0)), if_pos (nI_inb hi), if_pos (nI_ne0 (by omega) (by omega)), nI_1, pk_rem (by omega) (by omega) (by omega)]
      exact y1
theorem w_act (hn : n < 511) (hR : Rl n k z A) (h1 : 0 < p_n A) (p2 : Int32) : ∃ k' z' A', R_L_act k z p2 = some (k', z') ∧ Rl (n + 1) k' z' A' ∧ p_n A' = p_n A := by
  obtain ⟨h, hw, hk, hs⟩ := id hR
  have h5 := h.1
  have e3 : (3 : Int32) = nI 3 := rfl
  unfold R_L_act
  rw [hs.nn, if_pos (nI_ne0 (by omega) (by omega)), if_pos (by decide)]
  by_cases c0 : bl_ p2 (12 : Int32) = 0
  · obtain ⟨w, hw3, ew⟩ := sh_I p2 4 (3 : Int32) (N := 3) (by omega) (by omega) rfl
    obtain ⟨s1, s2⟩ := c_setWay hk hw3
    rw [if_pos c0, if_pos (by decide), ew, Option.bind_some, zF_Fs, if_pos rfl, s1]
    show ∃ k' z' A', (if ¬ p_w A = zF z 1 then none else some (kGs k 1 (nI w), zFs z 1 (nI w))) = some (k', z') ∧ _
    rw [if_neg (fun q => q hs.1.2.1.symm)]
    exact ⟨_, _, p_wy A (nI w), rfl, Rl.up ⟨h, hw.wy hw3, s2, hs.wy _⟩, rfl⟩
  · rw [if_neg c0]
    by_cases c1 : bl_ p2 (12 : Int32) = 1
    · rw [if_pos c1, if_pos (by decide)]
      have key : ∀ N : Nat, 0 < N → N ≤ 100 → ∃ k' z' A', (if ¬ nI N = 0 then yb (R_X2_reap k (bl_ (p2 >>> ((4 : Int32) &&& 31)) (nI N))) fun v125 => (R_X3_reaps z (bl_ (p2 >>> ((4 : Int32) &&& 31)) (nI N))).bind fun v131 => if ¬ v125.1 = v131.1 then none else some (v125.2, v131.2) else none) = some (k', z') ∧ Rl (n + 1) k' z' A' ∧ p_n A' = p_n A := by
        intro N hN0 hN
        obtain ⟨a, ha, ea⟩ := sh_I p2 4 (nI N) (N := N) hN0 (by omega) rfl
        obtain ⟨k', z', e1, e2, e3⟩ := r_reap (show n < 512 by omega) hR (show a ≤ 99 by omega)
        rw [if_pos (nI_ne0 hN0 (by omega)), ea, e1]
        show ∃ k' z' A', ((R_X3_reaps z (nI a)).bind _) = _ ∧ _
        rw [e2, Option.bind_some, if_neg (fun q => q rfl)]
        exact ⟨_, _, _, rfl, e3.up, (rp_ok (nI a) 12 0 A 0 rfl).2.2⟩
      by_cases c7 : bl_ (p2 >>> ((7 : Int32) &&& 31)) (3 : Int32) = 0
      · rw [if_neg (fun q => q c7), Option.bind_some]
        exact key 100 (by omega) (by omega)
      · rw [if_pos c7, Option.bind_some]
        exact key 6 (by omega) (by omega)
    · rw [if_neg c1]
      by_cases c2 : bl_ p2 (12 : Int32) = 2
      · rw [if_pos c2]
        obtain ⟨j, hj, ej⟩ := sh_I p2 4 (nI (p_n A)) (N := p_n A) (by omega) (by omega) rfl
        obtain ⟨k', z', e1, e2, e3⟩ := r_pack hR hj
        rw [ej, e1]
        show ∃ k' z' A', ((R_X3_packs z (nI j)).bind _) = _ ∧ _
        rw [e2, Option.bind_some, if_neg (fun q => q rfl)]
        exact ⟨_, _, _, rfl, e3.up, (pc_ok h hj).1⟩
      · rw [if_neg c2]
        by_cases c3 : bl_ p2 (12 : Int32) = 3 ∨ bl_ p2 (12 : Int32) = 4 ∨ bl_ p2 (12 : Int32) = 5 ∨ bl_ p2 (12 : Int32) = 6
        · rw [if_pos c3, if_pos (by decide), if_pos (by decide), if_pos (by decide)]
          have key : ∀ (x : Option Int32) (a : Nat), a < 288 → x = some (nI a) → ∃ k' z' A', (x.bind fun v192 => (R_X3_takes z v192).bind fun v265 => tb (R_X2_take k v192) exIA (fun v273 => if ¬ v273.1 = v265.1 then none else some (v273.2, v265.2)) (if ¬ (-1 : Int32) = v265.1 then none else some (k, v265.2))) = some (k', z') ∧ Rl (n + 1) k' z' A' ∧ p_n A' = p_n A := by
            intro x a ha hx
            rw [hx, Option.bind_some]
            rcases r_take hR ha with ⟨-, e1, e2⟩ | ⟨q, k', z', -, e1, e2, e3⟩
            · rw [e1, Option.bind_some, e2]
              unfold tb
              simp only [if_true, not_true_eq_false, if_false]
              exact ⟨k, z, A, rfl, hR.up, rfl⟩
            · rw [e1, Option.bind_some, e2]
              unfold tb
              simp only [not_true_eq_false, if_false]
              exact ⟨k', z', _, rfl, e3, rfl⟩
          obtain ⟨a, ha, ea⟩ := sh_I p2 4 (288 : Int32) (N := 288) (by omega) (by omega) rfl
          obtain ⟨i, hi, ei⟩ := sh_I p2 5 (12 : Int32) (N := 12) (by omega) (by omega) rfl
          by_cases c9 : bl_ (p2 >>> ((9 : Int32) &&& 31)) (8 : Int32) ≤ 0
          · exact key _ a ha (by rw [if_pos c9, ea])
          · have hm := u_many h hs hi
            have hp12 := pc_12 (p_b A i)
            by_cases c10 : p_b A i = 0
            · refine key _ a ha ?_
              rw [if_neg c9, ei, hm, Option.bind_some, if_pos ((nI_le0 (by omega)).mpr ((pc_b0 h hi).mpr c10)), ea]
            · obtain ⟨y, -, y1, y2⟩ := last_ex (w_b h hi) c10
              have hps := w_ps h hi
              obtain ⟨q, hq, eq⟩ := sh_I p2 7 (nI (p_ps A i)) (N := p_ps A i) (by omega) (by omega) rfl
              have ho := (bit_in h hi y2).2.1
              obtain ⟨x, x1, x2⟩ := w_221 h hs hi ei (2 * p_ps A i) (y + p_ps A i - q) q FU (by omega) (by unfold FU; omega) hq (by
                rw [show q + (y + p_ps A i - q) = y + p_ps A i by omega, Nat.add_mod_right, Nat.mod_eq_of_lt y1]; exact y2)
              obtain ⟨s1, -, -⟩ := plc_spot h hi x2
              refine key _ _ s1 ?_
              rw [if_neg c9, ei, hm, Option.bind_some, if_neg (fun y => c10 ((pc_b0 h hi).mp ((nI_le0 (by omega)).mp y))), if_pos (nI_inb hi), nI_cl hi, hs.l hi, if_pos (nI_ne0 (by omega) (by omega)), eq, x1, Option.bind_some, u_spot h hs hi ho, Option.bind_some]
        · rw [if_neg c3]
          obtain ⟨j, hj, ej⟩ := sh_I p2 4 (nI (p_n A)) (N := p_n A) (by omega) (by omega) rfl
          rw [ej]
          rcases r_put (show n < 512 by omega) hR hj with ⟨-, e1, e2⟩ | ⟨r, k', z', -, e1, e2, e3, e4⟩
          · rw [e1, Option.bind_some, e2]
            unfold tb
            simp only [if_true, not_true_eq_false, if_false]
            exact ⟨k, z, A, rfl, hR.up, rfl⟩
          · rw [e1, Option.bind_some, e2]
            unfold tb
            simp only [not_true_eq_false, if_false]
            exact ⟨k', z', _, rfl, e3, e4⟩
/-! build -/
theorem rl_0 : Rl 0 k0 (zi 12) A0 := by
  refine ⟨⟨by decide, fun j hj => absurd hj (Nat.not_lt_zero j), fun i hi => ⟨Nat.le_refl _, fun _ => ⟨rfl, rfl⟩, fun h => absurd rfl h, by show 0 < 2 ^ _; exact Nat.two_pow_pos _, fun _ => rfl⟩⟩, ⟨Or.inl rfl, 0, Nat.le_refl _, rfl, fun i _ h => absurd rfl h⟩, ⟨⟨rfl, rfl, rfl, rfl, rfl, rfl⟩, fun j hj => absurd hj (Nat.not_lt_zero j), fun i hi => ⟨rfl, rfl, rfl, rfl, ?_, rfl, fun q hq => ?_⟩⟩, ⟨rfl, rfl, rfl, rfl, rfl⟩, fun j hj => absurd hj (Nat.not_lt_zero j), fun i hi => ⟨?_, fun h => absurd rfl h, ?_, rfl, fun q hq => ?_⟩⟩
  · show (if ((6 : Nat) = 2 ∨ (6 : Nat) = 7) then (-1 : Int32) else 0) = nI (pc 0)
    decide +kernel
  · show (0 : Int32) = nI (b1 (Nat.testBit 0 q))
    rw [Nat.zero_testBit]
    rfl
  · show (if i < 12 ∧ ((0 : Nat) = 0 ∨ (0 : Nat) = 2) then (-1 : Int32) else 0) = -1
    rw [if_pos ⟨hi, Or.inl rfl⟩]
  · show (if i < 12 ∧ ((2 : Nat) = 0 ∨ (2 : Nat) = 2) then (-1 : Int32) else 0) = -1
    rw [if_pos ⟨hi, Or.inr rfl⟩]
  · show (0 : Int32) = nI (b1 (Nat.testBit 0 q))
    rw [Nat.zero_testBit]
    rfl
theorem SR.kd (h : WF n A) (hs : SR z A) {s : Nat} {g : Nat → Int32} (g0 : g 0 = nI s) (g1 : g 1 = 0) : SR (zNs z g) (p_kd A s) := by
  have hN := hs.nn
  obtain ⟨⟨e0, e1, e2, e3, e4⟩, h2, h3⟩ := hs
  refine ⟨⟨e0, e1, e2, e3, congrArg (· + 1) e4⟩, fun j hj => ?_, fun i hi => ?_⟩
  · have hj : j < p_n A + 1 := hj
    by_cases e : j = p_n A
    · rw [show zK (zNs z g) j = g from if_pos (e.trans hN.symm), show p_z (p_kd A s) j = s from if_pos e, show p_g (p_kd A s) j = 0 from if_pos e]
      exact ⟨g0, g1⟩
    · rw [show zK (zNs z g) j = zK z j from if_neg (fun q => e (q.trans hN)), show p_z (p_kd A s) j = p_z A j from if_neg e, show p_g (p_kd A s) j = p_g A j from if_neg e]
      exact h2 j (by omega)
  · have h1 := w_o h hi
    have ep : p_ps (p_kd A s) i = p_ps A i := by
      show (if p_o A i = 0 then 0 else 24 / p_z (p_kd A s) (p_o A i - 1)) = _
      unfold p_ps p_pl
      by_cases h0 : p_o A i = 0
      · rw [if_pos h0, if_pos h0]
      · rw [if_neg h0, if_neg h0]; exact congrArg (24 / ·) (if_neg (by omega))
    have := h3 i hi
    rw [← ep] at this
    exact this
theorem w_23 {L : Nat} (hL : L ≤ 260) (xs : Nat → Int32) (v11 : Int32) {b : Nat} (hb : b < 5) (eb : bl_ v11 (5 : Int32) = nI b) : ∀ (d x f : Nat) (k : KSt) (z : SSt) (A : AS), x + d = 1 + b → d < f → p_n A = x → Rl 0 k z A → ∃ k' z' A', R_L_build_L23 L xs v11 f k z (nI x) = some (k', z', nI (1 + b)) ∧ Rl 0 k' z' A' ∧ p_n A' = 1 + b := by
  intro d
  induction d with
  | zero =>
    intro x f k z A hx hf hn hR
    obtain ⟨f, rfl⟩ : ∃ g, f = g + 1 := ⟨f - 1, by omega⟩
    refine ⟨k, z, A, ?_, hR, by omega⟩
    rw [R_L_build_L23, eb, show (1 : Int32) + nI b = nI (1 + b) from nI_add 1 b, if_pos (nI_le (by omega) (by omega)), show x = 1 + b by omega]
  | succ d ih =>
    intro x f k z A hx hf hn hR
    obtain ⟨f, rfl⟩ : ∃ g, f = g + 1 := ⟨f - 1, by omega⟩
    obtain ⟨h, hw, hk, hs⟩ := id hR
    obtain ⟨v32, e32⟩ := cl_ok hL xs (c := 0) (by omega)
    have e32 : cl_ L xs (0 : Int32) = some v32 := e32
    obtain ⟨s, hs11, es⟩ := sh_I v32 ((3 : Int32) + (3 : Int32) * nI x) (11 : Int32) (N := 11) (by omega) (by omega) rfl
    obtain ⟨c1, c2, c3⟩ := c_kind h hk (z := 2 + s) ⟨by omega, by omega⟩ (by omega)
    rw [R_L_build_L23, eb, show (1 : Int32) + nI b = nI (1 + b) from nI_add 1 b, if_neg (nI_ge (by omega) (by omega)), e32, Option.bind_some, if_pos (by decide), es, show (2 : Int32) + nI s = nI (2 + s) from nI_add 2 s, Option.bind_some, if_pos (by decide), Option.bind_some, if_pos (by decide), Option.bind_some, hs.nn, if_pos (by omega), Option.bind_some, c1, hn]
    show ∃ k' z' A', (if nI x = nI x then R_L_build_L23 L xs v11 f _ _ (nI x + 1) else none) = _ ∧ _
    rw [if_pos rfl, nI_1, zc0, zc1]
    exact ih (x + 1) f _ _ (p_kd A (2 + s)) (by omega) (by omega) (show p_n A + 1 = x + 1 by omega) ⟨c3, hw, c2, SR.kd h hs rfl rfl⟩
theorem w_107 {L : Nat} (hL : L ≤ 260) (xs : Nat → Int32) (v11 v94 : Int32) {b c : Nat} (hb : b < 5) (eb : bl_ v11 (5 : Int32) = nI b) (hc : c < 60) (ec : bl_ v94 (60 : Int32) = nI c) : ∀ (d x f n : Nat) (k : KSt) (z : SSt) (A : AS), x + d = c → d < f → n + d < 400 → p_n A = 1 + b → Rl n k z A → ∃ k' z' x' A', R_L_build_L107 L xs v11 v94 f k z (nI x) = some (k', z', x') ∧ Rl (n + d) k' z' A' ∧ p_n A' = 1 + b := by
  intro d
  induction d with
  | zero =>
    intro x f n k z A hx hf hn2 hn hR
    obtain ⟨f, rfl⟩ : ∃ g, f = g + 1 := ⟨f - 1, by omega⟩
    refine ⟨k, z, nI x, A, ?_, hR, hn⟩
    rw [R_L_build_L107, ec, if_pos (nI_le (by omega) (by omega))]
  | succ d ih =>
    intro x f n k z A hx hf hn2 hn hR
    obtain ⟨f, rfl⟩ : ∃ g, f = g + 1 := ⟨f - 1, by omega⟩
    obtain ⟨v122, e122⟩ := cl_ok hL xs (c := 2 + x % 14) (by omega)
    have er : (2 : Int32) + (nI x - nI x / (14 : Int32) * (14 : Int32)) = nI (2 + x % 14) := by
      rw [show (14 : Int32) = nI 14 from rfl, pk_rem (by omega) (by omega) (by omega)]
      exact nI_add 2 _
    have em : (1 : Int32) + nI b = nI (1 + b) := nI_add 1 b
    obtain ⟨j, hj, ej⟩ := bl_ok ((v122 >>> (((nI x / (14 : Int32)) * (5 : Int32)) &&& 31)) + ((3 : Int32) * nI x)) (N := 1 + b) (by omega) (by omega)
    rw [R_L_build_L107, ec, if_neg (nI_ge (by omega) (by omega)), er, e122, Option.bind_some, eb, em, if_pos (nI_ne0 (by omega) (by omega)), ej]
    rcases r_put (show n < 512 by omega) hR (show j < p_n A by omega) with ⟨-, e1, e2⟩ | ⟨r, k', z', e0, e1, e2, e3, e4⟩
    · rw [e1, Option.bind_some, if_neg (show ¬ (0 : Int32) ≤ (-1 : Int32) by decide)]
      exact ⟨_, _, _, A, rfl, hR.by (by omega), hn⟩
    · obtain ⟨i, c', A1, hi, hr, f1, f2, f3, f4, f5, f6, f7, f8, f9, f10, f11, f12, f13⟩ := pu_ok (show n < 512 by omega) hR.1 hR.2.1 (show j < p_n A by omega) e0
      have hlt : r.1 < 288 := by rw [hr]; exact (pt_ok f1 hi (by omega) f2 f3).2.1
      rw [e1, Option.bind_some, if_pos (show (0 : Int32) ≤ nI r.1 from nI_pos' (by omega)), e2]
      show ∃ k'' z'' x' A', (if nI r.1 = nI r.1 then R_L_build_L107 L xs v11 v94 f k' z' (nI x + 1) else none) = _ ∧ _
      rw [if_pos rfl, nI_1]
      obtain ⟨k2, z2, x2, A2, g1, g2, g3⟩ := ih (x + 1) f (n + 1) k' z' r.2 (by omega) (by omega) (by omega) (by omega) e3
      exact ⟨k2, z2, x2, A2, g1, g2.by (by omega), g3⟩
theorem w_build {L : Nat} (hL : L ≤ 260) (xs : Nat → Int32) : ∃ k' z' A', R_L_build L xs k0 = some (k', z') ∧ Rl 60 k' z' A' ∧ 0 < p_n A' := by
  obtain ⟨v11, e11⟩ := cl_ok hL xs (c := 0) (by omega)
  have e11 : cl_ L xs (0 : Int32) = some v11 := e11
  obtain ⟨v94, e94⟩ := cl_ok hL xs (c := 1) (by omega)
  have e94 : cl_ L xs (1 : Int32) = some v94 := e94
  obtain ⟨b, hb, eb⟩ := bl_ok v11 (N := 5) (by omega) (by omega)
  have eb : bl_ v11 (5 : Int32) = nI b := eb
  obtain ⟨c, hc, ec⟩ := bl_ok v94 (N := 60) (by omega) (by omega)
  have ec : bl_ v94 (60 : Int32) = nI c := ec
  obtain ⟨k1, z1, A1, g1, g2, g3⟩ := w_23 hL xs v11 hb eb (1 + b) 0 6 k0 (zi 12) A0 (Nat.zero_add _) (by omega) rfl rl_0
  have g1 : R_L_build_L23 L xs v11 6 k0 (zi 12) (0 : Int32) = some (k1, z1, nI (1 + b)) := g1
  obtain ⟨k2, z2, x2, A2, f1, f2, f3⟩ := w_107 hL xs v11 v94 hb eb hc ec c 0 61 0 k1 z1 A1 (Nat.zero_add _) (by omega) (by omega) g3 g2
  have f1 : R_L_build_L107 L xs v11 v94 61 k1 z1 (0 : Int32) = some (k2, z2, x2) := f1
  refine ⟨k2, z2, A2, ?_, f2.by (by omega), by omega⟩
  unfold R_L_build
  rw [e11, Option.bind_some, if_pos (by decide), g1, Option.bind_some, e94, Option.bind_some, if_pos (by decide)]
  show ((R_L_build_L107 L xs v11 v94 61 k1 z1 (0 : Int32)).bind _) = _
  rw [f1, Option.bind_some]
end LP
