/-! what the class answers, where what is asked for is there -/
def wdA (A : AS) (j : Nat) : Int32 := if 0 < nS A j * p_pl A j - nB A j then 0 else if 0 < nF A then 1 else -1
def ftA (A : AS) (j : Nat) : Nat := nS A j * p_pl A j - nB A j + nF A * p_pl A j
section LP
variable {n : Nat} {A : AS} {k : KSt}
theorem c_kd (h : WF n A) (hk : KR k A) {j : Nat} (hj : j < p_n A) : R_X2_kindOf k (nI j) = some (.ok j) := by
  have h5 := h.1
  unfold R_X2_kindOf
  rw [if_neg (nI_pos (by omega)), if_neg (show ¬ (5 : Int32) ≤ nI j from nI_ge (b := 5) (by omega) (by omega)), if_pos (inb_nI (by omega) (by omega)), cl (by omega), show knd k j = some j from by unfold knd; rw [if_pos (by rw [hk.kn]; exact hj)]]
  show (if j < kN k then _ else none) = _
  rw [if_pos (by rw [hk.kn]; exact hj), if_pos (inb_nI (by omega) (by omega))]
theorem kn_lt (hk : KR k A) {j : Nat} (hj : j < p_n A) : j < kN k := by rw [hk.kn]; exact hj
theorem c_shelf (h : WF n A) (hk : KR k A) {i x : Nat} (hi : i < 12) (hx : x ≤ 5) : R_X2_shelf k (nI i) (nI x) = some (.ok (aSh A i x)) := by
  unfold R_X2_shelf
  rw [if_neg (nI_pos (by omega)), if_pos (show nI i < (12 : Int32) from nI_lt (b := 12) (by omega) (by omega)), show (6 : Int32) = nI 6 from rfl, req_ok (by omega) (by omega)]
  show (if _ then _ else _) = _
  rw [if_pos (nI_inb (by omega)), nI_cl (by omega), s_answer h hk (by omega) hx]
  rfl
theorem c_about (h : WF n A) (hk : KR k A) {j x : Nat} (hj : j < p_n A) (hx : x ≤ 8) : R_X2_about k (nI j) (nI x) = some (.ok (aAb A j x)) := by
  unfold R_X2_about
  rw [c_kd h hk hj]
  show (if j < kN k then _ else none) = _
  rw [if_pos (kn_lt hk hj), show (9 : Int32) = nI 9 from rfl, req_ok (by omega) (by omega)]
  show (R_X2_answerAbout k j (nI x)).bind _ = _
  rw [s_about h hk hj hx]
  rfl
theorem c_place (h : WF n A) (hk : KR k A) {a x : Nat} (ha : a < 288) (hx : x ≤ 3) : R_X2_place k (nI a) (nI x) = some (.ok (plV A a x)) := by
  have hi : a / 24 < 12 := by omega
  unfold R_X2_place
  rw [s_shelfAt ha]
  show (if a / 24 < 12 then _ else none) = _
  rw [if_pos hi, show (4 : Int32) = nI 4 from rfl, req_ok (by omega) (by omega)]
  show (R_X1_placeAt k (a / 24) (nI a)).bind _ = _
  rw [s_placeAt h hk ha, Option.bind_some]
  unfold plV
  cases e : plc A a with
  | none => rfl
  | some y =>
    obtain ⟨p1, p2⟩ := plc_ok h ha e
    have hy : y < 12 := by have := w_ps h hi; omega
    rw [if_pos (show ¬ oI (some y) = -1 from nI_m1 (by omega)), show oI (some y) = nI y from rfl]
    match x, hx with
    | 0, _ => rw [if_pos (by decide), (hk.2.2 _ hi).1]; rfl
    | 1, _ => rw [if_neg (by decide), if_pos (by decide)]; rfl
    | 2, _ =>
      rw [if_neg (by decide), if_neg (by decide), if_pos (by decide), s_stands hk hi hy, Option.bind_some]
      by_cases hb : (p_b A (a / 24)).testBit y = true
      · rw [if_neg (b1_t hb)]; simp only [hb]; rfl
      · rw [if_pos (b1_f hb)]; rw [Bool.not_eq_true] at hb; simp only [hb]; rfl
    | 3, _ => rw [if_neg (by decide), if_neg (by decide), if_neg (by decide), s_begin hk hi]; rfl
theorem c_next (h : WF n A) (hk : KR k A) {j : Nat} (hj : j < p_n A) : R_X2_next k (nI j) = some (.ok (aNx A j)) := by
  unfold R_X2_next
  rw [c_kd h hk hj]
  show (if j < kN k then _ else none) = _
  rw [if_pos (kn_lt hk hj), s_next h hk hj]; rfl
theorem ga_I (h : WF n A) {j : Nat} (hj : j < p_n A) : nI (nS A j) * nI (p_pl A j) - nI (nB A j) = nI (nS A j * p_pl A j - nB A j) := by
  rw [pk_mul, pk_sub (nB_le h hj).1]
theorem c_fits (h : WF n A) (hk : KR k A) {j : Nat} (hj : j < p_n A) : R_X2_fits k (nI j) = some (.ok (nI (ftA A j))) := by
  unfold R_X2_fits
  rw [c_kd h hk hj]
  show (if j < kN k then _ else none) = _
  rw [if_pos (kn_lt hk hj), s_gaps h hk hj, Option.bind_some, s_free h hk, Option.bind_some, (hk.2.1 j hj).2.1, ga_I h hj, pk_mul, nI_add]
  rfl
theorem c_would (h : WF n A) (hk : KR k A) {j : Nat} (hj : j < p_n A) : R_X2_would k (nI j) (1 : Int32) = some (.ok (wdA A j)) := by
  have hp := w_pl h hj
  obtain ⟨q1, q2⟩ := nB_le h hj
  have hF := nF_le A
  have hsp : nS A j * p_pl A j ≤ 144 := Nat.mul_le_mul q2 hp.2
  unfold R_X2_would
  rw [c_kd h hk hj]
  show (if j < kN k then _ else none) = _
  rw [if_pos (kn_lt hk hj), if_neg (show ¬ (1 : Int32) < (1 : Int32) by decide), if_pos (show (1 : Int32) ≤ (150 : Int32) by decide), s_gaps h hk hj, Option.bind_some, ga_I h hj]
  unfold wdA
  have hr0 : nS A j * p_pl A j - nB A j ≤ 144 := by omega
  generalize nS A j * p_pl A j - nB A j = r at *
  have hs := sb_I (a := 1) (r := r) (by omega) (by omega)
  by_cases hr : 0 < r
  · rw [if_neg (show ¬ 0 < (1 : Int32) - nI r by
      rw [Int32.lt_iff_toInt_lt, show (1 : Int32) = nI 1 from rfl, hs]; show ¬ (0 : Int) < _; omega), if_pos hr]
  · obtain rfl : r = 0 := by omega
    rw [if_pos (show 0 < (1 : Int32) - nI 0 by decide), if_neg hr, show (1 : Int32) - nI 0 = nI 1 from by decide, s_for h hk hj 1 (by omega), Option.bind_some, s_free h hk, Option.bind_some, show (1 + p_pl A j - 1) / p_pl A j = 1 from by rw [Nat.add_sub_cancel_left]; exact Nat.div_self (by omega)]
    by_cases hf : 0 < nF A
    · rw [if_pos (nI_le (by omega) (by omega)), if_pos hf]; rfl
    · rw [if_neg (nI_ge (by omega) (by omega)), if_neg hf]
theorem c_gains (h : WF n A) (hk : KR k A) {j : Nat} (hj : j < p_n A) : R_X2_gains k (nI j) = some (.ok (nI (gn A j))) := by
  unfold R_X2_gains
  rw [c_kd h hk hj]
  show (if j < kN k then _ else none) = _
  rw [if_pos (kn_lt hk hj), s_gains h hk hj]; rfl
theorem c_advise (h : WF n A) (hk : KR k A) : R_X2_advise k = some (oI (fo (aF A) (p_n A) 0 none)) := s_advL h hk 5 0 FU none rfl (by decide)
theorem c_digest (h : WF n A) (hk : KR k A) : R_X2_digest k = some (qD A) := s_d6 h hk 10 0 FU 1733 rfl (by decide)
theorem c_put (hn : n < 512) (h : WF n A) (hk : KR k A) {j : Nat} (hj : j < p_n A) : match puA A j with
    | none => R_X2_put k (nI j) = some (.error exIS)
    | some r => ∃ k', R_X2_put k (nI j) = some (.ok (nI r.1, k')) ∧ KR k' r.2 ∧ WF (n + 1) r.2 := by
  have cl0 : ∀ r, (Option.elim (toP A j) (some (.error exIS)) (fun j13 => if j13 < 12 then (R_X1_state k j13).bind fun v27 => if ¬ v27 = 0 then tailC k j13 else (R_X1_comeTo k j13 j).bind fun v35 => tailC v35 j13 else none)) = some r → R_X2_put k (nI j) = some r := by
    intro r hr
    rw [put_eq, c_kd h hk hj]
    show (if j < kN k then _ else none) = _
    rw [if_pos (kn_lt hk hj), s_toPut h hk hj, Option.bind_some]
    exact hr
  unfold puA
  cases e : toP A j with
  | none =>
    rw [e] at cl0
    exact cl0 _ rfl
  | some i =>
    obtain ⟨hi, ho⟩ := toP_ok h e
    rw [e] at cl0
    have cl1 : ∀ r, ((R_X1_state k i).bind fun v27 => if ¬ v27 = 0 then tailC k i else (R_X1_comeTo k i j).bind fun v35 => tailC v35 i) = some r → R_X2_put k (nI j) = some r := by
      intro r hr
      refine cl0 r ?_
      show (if i < 12 then _ else none) = _
      rw [if_pos hi]
      exact hr
    rw [s_state h hk hi, Option.bind_some] at cl1
    show match (if p_o A i = 0 then some (ptS (p_come A i j) i, ptA (p_come A i j) i) else some (ptS A i, ptA A i)) with
      | none => _
      | some r => _
    by_cases h0 : p_o A i = 0
    · have hst : stN A i = 0 := by unfold stN; rw [if_pos h0]
      have hw := h.come (j := j) hj h0 hi
      obtain ⟨eo, -, -, hp⟩ := come_p h hi hj h0
      obtain ⟨k1, s1, s2⟩ := s_come h hk hn hi hj h0
      obtain ⟨k2, s3, s4⟩ := s_tail hw s2 hi hp
      rw [if_neg (fun y => y (by rw [hst]; rfl)), s1, Option.bind_some, s3] at cl1
      rw [if_pos h0]
      exact ⟨k2, cl1 _ rfl, s4, WF.set hw (or_lt (w_b hw hi) (hq_ok hw hi hp).2.1) (fun _ => rfl) (by rw [eo]; omega)⟩
    · have hst : ¬ stN A i = 0 := fun q => h0 (by have := fr_st.mpr q; simpa [fr] using this)
      have hp := (ho.resolve_left h0).2
      obtain ⟨k2, s3, s4⟩ := s_tail h hk hi hp
      rw [if_pos (show ¬ nI (stN A i) = 0 from fun q => hst ((st_I (x := 0) (by omega)).mp q)), s3] at cl1
      rw [if_neg h0]
      exact ⟨k2, cl1 _ rfl, s4, WF.up (WF.set h (or_lt (w_b h hi) (hq_ok h hi hp).2.1) (fun _ => rfl) h0)⟩
/-- a place begins at one spot alone -/
theorem plc_spot (h : WF n A) {i q : Nat} (hi : i < 12) (hq : q < p_ps A i) : 24 * i + p_rs A i + q * p_zs A i < 288 ∧ (24 * i + p_rs A i + q * p_zs A i) / 24 = i ∧ plc A (24 * i + p_rs A i + q * p_zs A i) = some q := by
  have h0 : p_o A i ≠ 0 := fun e => by
    have : p_ps A i = 0 := if_pos e
    omega
  have hz := zs_2 h hi h0
  have hr := w_r h hi h0
  have h2 := w_z h (ow_lt h hi h0)
  have e1 : p_ps A i * p_zs A i + 24 % p_z A (p_o A i - 1) = 24 := by
    rw [ps_I h0, zs_I h0]
    unfold p_pl
    have := Nat.div_add_mod 24 (p_z A (p_o A i - 1))
    rw [Nat.mul_comm] at this
    exact this
  have e2 : q * p_zs A i + p_zs A i ≤ p_ps A i * p_zs A i := by
    have := Nat.mul_le_mul_right (p_zs A i) (show q + 1 ≤ p_ps A i from hq)
    rw [Nat.add_mul, Nat.one_mul] at this
    exact this
  have e3 : p_rs A i ≤ 24 % p_z A (p_o A i - 1) := by rw [rs_I h0]; exact hr
  have d1 : (24 * i + p_rs A i + q * p_zs A i) / 24 = i := by
    generalize q * p_zs A i = y at *
    omega
  have d2 : (24 * i + p_rs A i + q * p_zs A i) % 24 = p_rs A i + q * p_zs A i := by
    generalize q * p_zs A i = y at *
    omega
  refine ⟨by generalize q * p_zs A i = y at *; omega, d1, ?_⟩
  unfold plc
  rw [d1, d2, if_neg h0, if_neg (by omega), Nat.add_sub_cancel_left, if_pos (by omega), Nat.mul_div_cancel _ (by omega)]
theorem tkQ_plc (h : WF n A) {a : Nat} (ha : a < 288) {q : Nat} (e : tkQ A a = some q) : plc A a = some q ∧ (p_b A (a / 24)).testBit q = true ∧ 24 * (a / 24) + p_rs A (a / 24) + q * p_zs A (a / 24) = a ∧ q < p_ps A (a / 24) := by
  obtain ⟨-, h2, h3⟩ := fi_some e
  simp only [tkP, Bool.and_eq_true, beq_iff_eq] at h3
  obtain ⟨hb, he⟩ := h3
  have hq : q < p_ps A (a / 24) := by omega
  have := (plc_spot h (i := a / 24) (by omega) hq).2.2
  rw [he] at this
  exact ⟨this, hb, he, hq⟩
theorem tkQ_ex (h : WF n A) {a q : Nat} (ha : a < 288) (hb : (p_b A (a / 24)).testBit q = true) (he : 24 * (a / 24) + p_rs A (a / 24) + q * p_zs A (a / 24) = a) : tkQ A a = some q := by
  have hq := (bit_in h (i := a / 24) (by omega) hb).1
  cases e : tkQ A a with
  | none =>
    have := fi_none e q (Nat.zero_le _) (by omega)
    simp [tkP, hb, he] at this
  | some y =>
    have h1 := (tkQ_plc h ha e).1
    have h2 := (plc_spot h (i := a / 24) (by omega) hq).2.2
    rw [he] at h2
    rw [h1] at h2
    exact h2
theorem c_take (h : WF n A) (hk : KR k A) {a : Nat} (ha : a < 288) : match tkQ A a with
    | none => R_X2_take k (nI a) = some (.error exIA)
    | some q => ∃ k', R_X2_take k (nI a) = some (.ok (nI (pc (p_b A (a / 24) ^^^ 2 ^ q)), k')) ∧ KR k' (tkA A a q) := by
  have hi : a / 24 < 12 := by omega
  have cl0 : ∀ (y : Option Nat) (r : Except String (Int32 × KSt)), plc A a = y → ((R_X1_standsOn k (a / 24) (oI y)).bind fun v14 => if v14 = 0 then some (.error "java/lang/IllegalArgumentException") else (R_X1_beginOf k (a / 24) (oI y)).bind fun v22 => if v22 = nI a then (R_X1_removeBowl (kGs k 2 ((kG k 2) + (1 : Int32))) (a / 24) (oI y) (kG (kGs k 2 ((kG k 2) + (1 : Int32))) 2)).bind fun v55 => some (.ok ((kS v55 6 (a / 24)), v55)) else some (.error "java/lang/IllegalArgumentException")) = some r → R_X2_take k (nI a) = some r := by
    intro y r ey hr
    unfold R_X2_take
    rw [s_shelfAt ha]
    show (if a / 24 < 12 then _ else none) = _
    rw [if_pos hi, s_placeAt h hk ha, ey, Option.bind_some]
    exact hr
  cases et : tkQ A a with
  | some q =>
    obtain ⟨e, hb, he, hq⟩ := tkQ_plc h ha et
    obtain ⟨-, p1, -⟩ := bit_in h hi hb
    have hq12 : q < 12 := by have := w_ps h hi; omega
    have et2 : kG k 2 = p_t A := hk.1.2.2.1
    obtain ⟨k', r1, r2, r3, r4⟩ := s_remove (A := p_tm A (kG k 2 + 1)) (show WF n (p_tm A (kG k 2 + 1)) from h) (hk.tm (kG k 2 + 1)) hi hq12 hb (kG k 2 + 1)
    have ev : kS k' 6 (a / 24) = nI (pc (p_b A (a / 24) ^^^ 2 ^ q)) := by
      rw [(r2.2.2 _ hi).2.2.2.2.1, b_set, if_pos rfl]
      rfl
    refine ⟨k', ?_, ?_⟩
    · refine cl0 _ _ e ?_
      rw [show oI (some q) = nI q from rfl, s_stands hk hi hq12, Option.bind_some, s_begin hk hi, Option.bind_some, if_neg (b1_t hb), if_pos (by rw [he]), show kG (kGs k 2 (kG k 2 + 1)) 2 = kG k 2 + 1 from rfl, r1, Option.bind_some, ev]
    · unfold tkA
      rw [← et2]
      exact r2
  | none =>
    show R_X2_take k (nI a) = some (.error exIA)
    cases e : plc A a with
    | none =>
      refine cl0 _ _ e ?_
      rw [show R_X1_standsOn k (a / 24) (oI none) = some 0 from by unfold R_X1_standsOn; rw [if_pos (by decide)]]
      rfl
    | some q =>
      obtain ⟨p1, p2⟩ := plc_ok h ha e
      have hq12 : q < 12 := by have := w_ps h hi; omega
      have hsp := spot_lt h hi p2
      refine cl0 _ _ e ?_
      rw [show oI (some q) = nI q from rfl, s_stands hk hi hq12, Option.bind_some]
      by_cases hb : (p_b A (a / 24)).testBit q = true
      · rw [if_neg (b1_t hb), s_begin hk hi, Option.bind_some, if_neg (fun y => by
          have := (nI_eq (by omega) (by omega)).mp y
          rw [tkQ_ex h ha hb this] at et; cases et)]
        rfl
      · rw [if_pos (b1_f hb)]; rfl
theorem c_reap (h : WF n A) (hk : KR k A) {a : Nat} (ha : a ≤ 99) : ∃ k', R_X2_reap k (nI a) = some (.ok (nI (fo (rpF (nI a)) 12 0 (A, 0)).2, k')) ∧ KR k' (fo (rpF (nI a)) 12 0 (A, 0)).1 ∧ WF n (fo (rpF (nI a)) 12 0 (A, 0)).1 := by
  obtain ⟨k', e1, e2, e3⟩ := s_reapL (nI a) 12 0 FU 0 A k rfl (by decide) h hk
  refine ⟨k', ?_, e2, e3⟩
  unfold R_X2_reap
  rw [if_neg (nI_pos (by omega)), if_pos (show nI a ≤ (99 : Int32) from nI_le (b := 99) ha (by omega))]
  exact e1
theorem c_pack (h : WF n A) (hk : KR k A) {j : Nat} (hj : j < p_n A) : ∃ k', R_X2_pack k (nI j) = some (.ok (nI (pkC j 864 A), k')) ∧ KR k' (pcA A j) ∧ WF n (pcA A j) := by
  obtain ⟨k', e1, e2⟩ := s_packL j 864 0 FU A k h hk hj (by omega) (by omega) (by decide)
  obtain ⟨g1, -⟩ := pk_all 864 A j h (by omega)
  rw [Nat.zero_add] at e1
  have em : kG k' 4 = p_m A := e2.1.2.2.2.2.1.trans (pkA_m j 864 A)
  rw [em] at e1
  refine ⟨kGs k' 4 (p_m A + nI (pkC j 864 A)), ?_, ?_, (show WF n (p_mo (pkA j 864 A) (p_m A + nI (pkC j 864 A))) from g1)⟩
  · unfold R_X2_pack
    rw [c_kd h hk hj]
    show (if j < kN k then _ else none) = _
    rw [if_pos (kn_lt hk hj)]
    exact e1
  · obtain ⟨⟨q0, q1, q2, q3, q4, q5⟩, h2, h3⟩ := e2
    exact ⟨⟨q0, q1, q2, q3, rfl, q5⟩, h2, h3⟩
theorem c_setWay (hk : KR k A) {w : Nat} (hw : w < 3) : R_X2_setWay k (nI w) = some (.ok (p_w A, kGs k 1 (nI w))) ∧ KR (kGs k 1 (nI w)) (p_wy A (nI w)) := by
  refine ⟨?_, ?_⟩
  · unfold R_X2_setWay
    rw [if_neg (nI_pos (by omega)), if_pos (show nI w ≤ (2 : Int32) from nI_le (b := 2) (by omega) (by omega)), hk.1.2.1]
  · obtain ⟨⟨g0, g1, g2, g3, g4, g5⟩, h2, h3⟩ := hk
    exact ⟨⟨g0, rfl, g2, g3, g4, g5⟩, h2, h3⟩
theorem c_kind (h : WF n A) (hk : KR k A) {z : Nat} (hz : 2 ≤ z ∧ z ≤ 12) (h5 : p_n A < 5) : R_X2_kind k (nI z) = some (.ok (nI (p_n A), kGs (mkK k (nI z)) 0 (kG k 0 + 1))) ∧ KR (kGs (mkK k (nI z)) 0 (kG k 0 + 1)) (p_kd A z) ∧ WF n (p_kd A z) := by
  refine ⟨?_, KR.kd h hk hz, by show p_n A + 1 ≤ 5; omega, fun j hj => ?_, fun i hi => ?_⟩
  · unfold R_X2_kind
    rw [if_neg (show ¬ nI z < (2 : Int32) from nI_nlt (b := 2) hz.1 (by omega)), if_pos (show nI z ≤ (12 : Int32) from nI_le (b := 12) hz.2 (by omega)), if_pos (show kG k 0 < (5 : Int32) from by rw [hk.1.1]; exact nI_lt (b := 5) (by omega) (by omega)), if_pos ⟨by rw [hk.kn]; exact hk.1.1, by rw [hk.kn]; omega⟩, hk.1.1]
  · have hj : j < p_n A + 1 := hj
    by_cases e : j = p_n A
    · rw [show p_z (p_kd A z) j = z from if_pos e, show p_g (p_kd A z) j = 0 from if_pos e]
      exact ⟨hz.1, hz.2, Nat.zero_le _⟩
    · rw [show p_z (p_kd A z) j = p_z A j from if_neg e, show p_g (p_kd A z) j = p_g A j from if_neg e]
      exact h.2.1 j (by omega)
  · obtain ⟨q1, q2, q3, q4, q5⟩ := h.2.2 i hi
    refine ⟨by show p_o A i ≤ p_n A + 1; omega, q2, fun h0 => ?_, ?_, q5⟩
    · have h0 : p_o A i ≠ 0 := h0
      show p_r A i ≤ 24 % p_z (p_kd A z) (p_o A i - 1)
      rw [show p_z (p_kd A z) (p_o A i - 1) = p_z A (p_o A i - 1) from if_neg (by omega)]
      exact q3 h0
    · show p_b A i < 2 ^ (if p_o A i = 0 then 0 else 24 / p_z (p_kd A z) (p_o A i - 1))
      have : (if p_o A i = 0 then 0 else 24 / p_z (p_kd A z) (p_o A i - 1)) = p_ps A i := by
        unfold p_ps p_pl
        by_cases h0 : p_o A i = 0
        · rw [if_pos h0, if_pos h0]
        · rw [if_neg h0, if_neg h0]; exact congrArg (24 / ·) (if_neg (by omega))
      rw [this]
      exact q4
end LP
