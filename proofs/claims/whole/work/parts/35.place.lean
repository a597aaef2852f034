/-! spots: place and take -/
def plc (A : AS) (a : Nat) : Option Nat := if p_o A (a / 24) = 0 then none else if a % 24 < p_rs A (a / 24) then none else if a % 24 - p_rs A (a / 24) < p_ps A (a / 24) * p_zs A (a / 24) then some ((a % 24 - p_rs A (a / 24)) / p_zs A (a / 24)) else none
def p_tm (A : AS) (v : Int32) : AS := ((p_n A, p_w A, v, p_p A, p_m A), A.2)
section LP
variable {n : Nat} {A : AS} {k : KSt} {m : MSt}
theorem zs_2 (h : WF n A) {i : Nat} (hi : i < 12) (h0 : p_o A i ≠ 0) : 2 ≤ p_zs A i := by rw [zs_I h0]; exact (w_z h (ow_lt h hi h0)).1
theorem rs_lt (h : WF n A) {i : Nat} (hi : i < 12) : p_rs A i < 12 := by
  by_cases h0 : p_o A i = 0
  · unfold p_rs; rw [if_pos h0]; omega
  · have h1 := w_r h hi h0
    have h2 := w_z h (ow_lt h hi h0)
    have := Nat.mod_lt 24 (show 0 < p_z A (p_o A i - 1) by omega)
    rw [rs_I h0]; omega
theorem plc_ok (h : WF n A) {a q : Nat} (ha : a < 288) (e : plc A a = some q) : p_o A (a / 24) ≠ 0 ∧ q < p_ps A (a / 24) := by
  unfold plc at e
  by_cases h0 : p_o A (a / 24) = 0
  · rw [if_pos h0] at e; cases e
  · rw [if_neg h0] at e
    by_cases h1 : a % 24 < p_rs A (a / 24)
    · rw [if_pos h1] at e; cases e
    · rw [if_neg h1] at e
      by_cases h2 : a % 24 - p_rs A (a / 24) < p_ps A (a / 24) * p_zs A (a / 24)
      · rw [if_pos h2] at e
        cases e
        exact ⟨h0, Nat.div_lt_of_lt_mul (by rw [Nat.mul_comm]; exact h2)⟩
      · rw [if_neg h2] at e; cases e
theorem s_placeAt (h : WF n A) (hk : KR k A) {a : Nat} (ha : a < 288) : R_X1_placeAt k (a / 24) (nI a) = some (oI (plc A a)) := by
  have hi : a / 24 < 12 := by omega
  obtain ⟨-, g3, g4, g5, -, -, -⟩ := hk.2.2 _ hi
  have hr := rs_lt h hi
  have hps := w_ps h hi
  have hpz := ps_zs h hi
  have e1 : nI a - nI (24 * (a / 24)) = nI (a % 24) := by
    rw [pk_sub (by omega)]
    exact congrArg nI (by omega)
  unfold R_X1_placeAt plc
  rw [g3, g4, g5, e1, pk_mul]
  by_cases h0 : p_o A (a / 24) = 0
  · have : p_zs A (a / 24) = 0 := if_pos h0
    rw [if_pos (by rw [this]; decide), if_pos h0]; rfl
  · have hz := zs_2 h hi h0
    have hz2 := w_zs h hi
    rw [if_neg (show ¬ nI (p_zs A (a / 24)) < (1 : Int32) from nI_nlt (b := 1) (by omega) (by omega)), if_neg h0]
    by_cases h1 : a % 24 < p_rs A (a / 24)
    · rw [if_pos (show nI (a % 24) - nI (p_rs A (a / 24)) < 0 from by rw [Int32.lt_iff_toInt_lt, sb_I (by omega) (by omega)]; show _ < (0 : Int); omega), if_pos h1]; rfl
    · rw [pk_sub (by omega), if_neg (nI_pos (by omega)), if_neg h1]
      by_cases h2 : a % 24 - p_rs A (a / 24) < p_ps A (a / 24) * p_zs A (a / 24)
      · rw [if_pos (nI_lt h2 (by omega)), if_pos h2, if_pos (nI_ne0 (by omega) (by omega)), pk_div (by omega) (by omega) (by omega)]; rfl
      · rw [if_neg (nI_nlt (by omega) (by omega)), if_neg h2]; rfl
theorem t_placeOf (h : WF n A) (hm : MR m A) {a : Nat} (ha : a < 288) : R_X3_placeOf m (nI a) = some (oI (plc A a)) := by
  have hi : a / 24 < 12 := by omega
  have h5 := h.1
  have hr := rs_lt h hi
  have hps := w_ps h hi
  have hpz := ps_zs h hi
  have e2 : nI a - nI a / nI 24 * nI 24 = nI (a % 24) := pk_rem (by omega) (by omega) (by omega)
  have e1 : nI a / nI 24 = nI (a / 24) := pk_div (by omega) (by omega) (by omega)
  obtain ⟨g1, g2, -, -⟩ := hm.2.2.2 _ hi
  unfold R_X3_placeOf plc
  rw [show (24 : Int32) = nI 24 from rfl, e2, e1, t_isFree h hm hi, Option.bind_some]
  by_cases h0 : p_o A (a / 24) = 0
  · rw [if_neg (b1_t (by simp [fr, h0])), if_pos h0]; rfl
  · have hz := zs_2 h hi h0
    have hz2 := w_zs h hi
    have ho := ow_lt h hi h0
    rw [if_pos (b1_f (by simp [fr, h0])), if_neg h0, if_pos (nI_inb hi), nI_cl hi, g2 h0, ← rs_I h0]
    by_cases h1 : a % 24 < p_rs A (a / 24)
    · rw [if_pos (show nI (a % 24) - nI (p_rs A (a / 24)) < 0 from by rw [Int32.lt_iff_toInt_lt, sb_I (by omega) (by omega)]; show _ < (0 : Int); omega), if_pos h1]; rfl
    · rw [pk_sub (by omega), if_neg (nI_pos (by omega)), if_neg h1, if_pos (nI_inb hi), g1, ow_I h0, t_places h hm ho, Option.bind_some, if_pos (nI_inb hi), if_pos (inb_nI (by omega) (by omega)), cl (by omega), (hm.2.1 _ ho).1, ← ps_I h0, ← zs_I h0, pk_mul]
      by_cases h2 : a % 24 - p_rs A (a / 24) < p_ps A (a / 24) * p_zs A (a / 24)
      · rw [if_pos (nI_lt h2 (by omega)), if_pos h2, if_pos (nI_inb hi), if_pos (inb_nI (by omega) (by omega)), if_pos (nI_ne0 (by omega) (by omega)), pk_div (by omega) (by omega) (by omega)]; rfl
      · rw [if_neg (nI_nlt (by omega) (by omega)), if_neg h2]; rfl
theorem s_shelfAt {a : Nat} (ha : a < 288) : R_X2_shelfAt k (nI a) = some (.ok (a / 24)) := by
  have e1 : nI a / nI 24 = nI (a / 24) := pk_div (by omega) (by omega) (by omega)
  unfold R_X2_shelfAt
  rw [if_neg (nI_pos (by omega)), if_pos (show nI a < (288 : Int32) from nI_lt (b := 288) ha (by omega)), show (24 : Int32) = nI 24 from rfl, e1, if_pos (nI_inb (by omega)), nI_cl (by omega)]
def plV (A : AS) (a x : Nat) : Int32 := match plc A a with
  | none => -1
  | some q => (match x with
    | 0 => p_oI A (a / 24)
    | 1 => nI q
    | 2 => nI (b1 ((p_b A (a / 24)).testBit q))
    | _ => nI (24 * (a / 24) + p_rs A (a / 24) + q * p_zs A (a / 24)))
theorem y_place (h : WF n A) (hk : KR k A) (hm : MR m A) (p q : Int32) : AgreeR Rel0 n k cdIO [exIO] (R_X2_place k p q) (R_X3_place m p q) := by
  have er : R_X2_place k p q = some (.error exIO) → R_X3_place m p q = some (0, mFs (mFs m 0 0) 0 1) → AgreeR Rel0 n k cdIO [exIO] (R_X2_place k p q) (R_X3_place m p q) := fun e1 e2 => ar_er h hk ((hm.f0 0).f0 1) e1 (List.mem_singleton.mpr rfl) e2 rfl (by decide)
  have hm0 := hm.f0 0
  rcases in_cases p 0 287 (by omega) (by omega) with ⟨a, -, ha, rfl⟩ | h1 | ⟨h1, h2⟩
  · have ha : a < 288 := by omega
    have hi : a / 24 < 12 := by omega
    have isp : R_X3_isSpot (nI a) = some 1 := by
      unfold R_X3_isSpot
      rw [show R_X3_isIn (nI a) 0 287 = some 1 from in_ok (lo := 0) (hi := 287) (by omega) (by omega) (by omega)]
      rfl
    rcases in_cases q 0 3 (by omega) (by omega) with ⟨x, -, hx, rfl⟩ | g1 | ⟨g1, g2⟩
    · refine ar_ok (v := plV A a x) h hk hm0 ?_ ?_ rfl
      · unfold R_X2_place
        rw [s_shelfAt ha]
        show (if a / 24 < 12 then _ else none) = _
        rw [if_pos hi, show (4 : Int32) = nI 4 from rfl, req_ok (by omega) (by omega)]
        show (R_X1_placeAt k (a / 24) (nI a)).bind _ = _
        rw [s_placeAt h hk ha, Option.bind_some]
        unfold plV
        cases e : plc A a with
        | none => rfl
        | some y =>
          obtain ⟨p1, p2⟩ := plc_ok h ha e
          have hy : y < 12 := by have := w_ps h hi; omega
          rw [if_pos (show ¬ oI (some y) = -1 from nI_m1 (by omega)), show oI (some y) = nI y from rfl]
          match x, hx with
          | 0, _ => rw [if_pos (by decide), (hk.2.2 _ hi).1]; rfl
          | 1, _ => rw [if_neg (by decide), if_pos (by decide)]; rfl
          | 2, _ =>
            rw [if_neg (by decide), if_neg (by decide), if_pos (by decide), s_stands hk hi hy, Option.bind_some]
            by_cases hb : (p_b A (a / 24)).testBit y = true
            · rw [if_neg (b1_t hb)]; simp only [hb]; rfl
            · rw [if_pos (b1_f hb)]; rw [Bool.not_eq_true] at hb; simp only [hb]; rfl
          | 3, _ => rw [if_neg (by decide), if_neg (by decide), if_neg (by decide), s_begin hk hi]; rfl
      · unfold R_X3_place
        rw [isp, Option.bind_some, if_neg (by decide), show R_X3_isIn (nI x) 0 3 = some 1 from in_ok (lo := 0) (hi := 3) (by omega) (by omega) hx, Option.bind_some, if_neg (by decide)]
        unfold R_X3_placeTold
        have e1 : nI a / (24 : Int32) = nI (a / 24) := pk_div (d := 24) (by omega) (by omega) (by omega)
        rw [t_placeOf h hm0 ha, Option.bind_some, e1]
        unfold plV
        cases e : plc A a with
        | none => rfl
        | some y =>
          obtain ⟨p1, p2⟩ := plc_ok h ha e
          have hy : y < 12 := by have := w_ps h hi; omega
          rw [if_pos (show ¬ oI (some y) = -1 from nI_m1 (by omega)), show oI (some y) = nI y from rfl]
          match x, hx with
          | 0, _ => rw [if_neg (by decide), if_pos (nI_inb hi), nI_cl hi, (hm0.2.2.2 _ hi).1]; rfl
          | 1, _ => rw [if_pos (by decide), if_neg (by decide)]; rfl
          | 2, _ => rw [if_pos (by decide), if_pos (by decide), if_neg (by decide), if_pos (nI_inb hi), nI_cl hi, (hm0.2.2.2 _ hi).2.2.1, bit_at _ (w_b4 h hi) y hy]; rfl
          | 3, _ => rw [if_pos (by decide), if_pos (by decide), if_pos (by decide), t_spotOf h hm0 hi p1]; rfl
    · refine er ?_ ?_
      · unfold R_X2_place
        rw [s_shelfAt ha]
        show (if a / 24 < 12 then _ else none) = _
        rw [if_pos hi, show (4 : Int32) = nI 4 from rfl, req_lo g1]; rfl
      · unfold R_X3_place
        rw [isp, Option.bind_some, if_neg (by decide), show R_X3_isIn q 0 3 = some 0 from in_lo (lo := 0) (hi := 3) g1]; rfl
    · refine er ?_ ?_
      · unfold R_X2_place
        rw [s_shelfAt ha]
        show (if a / 24 < 12 then _ else none) = _
        rw [if_pos hi, show (4 : Int32) = nI (3 + 1) from rfl, req_hi g1 g2 (by omega)]; rfl
      · unfold R_X3_place
        rw [isp, Option.bind_some, if_neg (by decide), show R_X3_isIn q 0 3 = some 0 from in_hi (lo := 0) (hi := 3) g1 g2]; rfl
  · refine er ?_ ?_
    · unfold R_X2_place R_X2_shelfAt
      rw [if_pos (show p < 0 from h1)]; rfl
    · unfold R_X3_place R_X3_isSpot
      rw [show R_X3_isIn p 0 287 = some 0 from in_lo (lo := 0) (hi := 287) h1]; rfl
  · refine er ?_ ?_
    · obtain ⟨a, ha, rfl⟩ := nI_of (show ¬ p < 0 from h1)
      rw [nI_ltI (by omega) ha] at h2
      unfold R_X2_place R_X2_shelfAt
      rw [if_neg (show ¬ nI a < 0 from h1), if_neg (show ¬ nI a < (288 : Int32) from nI_nlt (b := 288) (by omega) ha)]; rfl
    · unfold R_X3_place R_X3_isSpot
      rw [show R_X3_isIn p 0 287 = some 0 from in_hi (lo := 0) (hi := 287) h1 h2]; rfl
/-! writing calls -/
theorem aw_ok {cd : String → Int32} {hs : List String} {cl : Option (Except String (Int32 × KSt))} {rf : Option (Int32 × MSt)} {v : Int32} {k' : KSt} {m' : MSt} {B : AS} (h : WF (n + 1) B) (hk : KR k' B) (hm : MR m' B) (h1 : cl = some (.ok (v, k'))) (h2 : rf = some (v, m')) (h3 : mF m' 0 = 0) : Agree Rel0 n k cd hs cl rf :=
  ⟨.ok (v, k'), v, m', h1, h2, (fun E e => by cases e), h3, rfl, B, h, hk, hm⟩
theorem aw_er {cd : String → Int32} {hs : List String} {cl : Option (Except String (Int32 × KSt))} {rf : Option (Int32 × MSt)} {E : String} {rb : Int32} {m' : MSt} (h : WF n A) (hk : KR k A) (hm : MR m' A) (h1 : cl = some (.error E)) (hE : E ∈ hs) (h2 : rf = some (rb, m')) (h3 : mF m' 0 = cd E) (h4 : cd E ≠ 0) : Agree Rel0 n k cd hs cl rf :=
  ⟨.error E, rb, m', h1, h2, (fun E' e => by cases e; exact hE), h3, h4, A, h.up, hk, hm⟩
theorem KR.tm (hk : KR k A) (v : Int32) : KR (kGs k 2 v) (p_tm A v) := by
  obtain ⟨⟨g0, g1, g2, g3, g4, g5⟩, h2, h3⟩ := hk
  exact ⟨⟨g0, g1, rfl, g3, g4, g5⟩, h2, h3⟩
theorem MR.tm (hm : MR m A) (v : Int32) : MR (mFs m 1 v) (p_tm A v) := by
  obtain ⟨⟨g5, g1, g2, g3, g4⟩, h2, h3, h4⟩ := hm
  exact ⟨⟨g5, rfl, g2, g3, g4⟩, h2, h3, h4⟩
theorem y_take (h : WF n A) (hk : KR k A) (hm : MR m A) (p : Int32) : Agree Rel0 n k cdIOIA [exIO, exIA] (R_X2_take k p) (R_X3_take m p) := by
  have er : R_X2_take k p = some (.error exIO) → R_X3_take m p = some (0, mFs (mFs m 0 0) 0 1) → Agree Rel0 n k cdIOIA [exIO, exIA] (R_X2_take k p) (R_X3_take m p) := fun e1 e2 => aw_er h hk ((hm.f0 0).f0 1) e1 (by decide) e2 rfl (by decide)
  have er2 : R_X2_take k p = some (.error exIA) → R_X3_take m p = some (0, mFs (mFs m 0 0) 0 2) → Agree Rel0 n k cdIOIA [exIO, exIA] (R_X2_take k p) (R_X3_take m p) := fun e1 e2 => aw_er h hk ((hm.f0 0).f0 2) e1 (by decide) e2 (by rfl) (by decide)
  have hm0 := hm.f0 0
  rcases in_cases p 0 287 (by omega) (by omega) with ⟨a, -, ha, rfl⟩ | h1 | ⟨h1, h2⟩
  · have ha : a < 288 := by omega
    have hi : a / 24 < 12 := by omega
    have isp : R_X3_isSpot (nI a) = some 1 := by
      unfold R_X3_isSpot
      rw [show R_X3_isIn (nI a) 0 287 = some 1 from in_ok (lo := 0) (hi := 287) (by omega) (by omega) (by omega)]
      rfl
    have e24 : nI a / (24 : Int32) = nI (a / 24) := pk_div (d := 24) (by omega) (by omega) (by omega)
    cases e : plc A a with
    | none =>
      refine er2 ?_ ?_
      · unfold R_X2_take
        rw [s_shelfAt ha]
        show (if a / 24 < 12 then _ else none) = _
        rw [if_pos hi, s_placeAt h hk ha, e, Option.bind_some, show R_X1_standsOn k (a / 24) (oI none) = some 0 from by unfold R_X1_standsOn; rw [if_pos (by decide)]]
        rfl
      · unfold R_X3_take
        rw [isp, Option.bind_some, if_pos (by decide), t_placeOf h hm0 ha, e, Option.bind_some, if_pos (show oI none = -1 from rfl)]
        rfl
    | some q =>
      obtain ⟨p1, p2⟩ := plc_ok h ha e
      have hq : q < 12 := by have := w_ps h hi; omega
      have hsp : 24 * (a / 24) + p_rs A (a / 24) + q * p_zs A (a / 24) < 1000 := by
        have := rs_lt h hi
        have h1 := w_zs h hi
        have : q * p_zs A (a / 24) ≤ 12 * 12 := Nat.mul_le_mul (by omega) h1
        omega
      have cl0 : ∀ r, ((R_X1_standsOn k (a / 24) (nI q)).bind fun v14 => if v14 = 0 then some (.error "java/lang/IllegalArgumentException") else (R_X1_beginOf k (a / 24) (nI q)).bind fun v22 => if v22 = nI a then (R_X1_removeBowl (kGs k 2 ((kG k 2) + (1 : Int32))) (a / 24) (nI q) (kG (kGs k 2 ((kG k 2) + (1 : Int32))) 2)).bind fun v55 => some (.ok ((kS v55 6 (a / 24)), v55)) else some (.error "java/lang/IllegalArgumentException")) = some r → R_X2_take k (nI a) = some r := by
        intro r hr
        unfold R_X2_take
        rw [s_shelfAt ha]
        show (if a / 24 < 12 then _ else none) = _
        rw [if_pos hi, s_placeAt h hk ha, e, Option.bind_some]
        exact hr
      rw [s_stands hk hi hq, Option.bind_some, s_begin hk hi, Option.bind_some] at cl0
      have rf0 : R_X3_spotOf (mFs m 0 0) (nI (a / 24)) (nI q) = some (nI (24 * (a / 24) + p_rs A (a / 24) + q * p_zs A (a / 24))) := t_spotOf h hm0 hi p1
      by_cases hb : (p_b A (a / 24)).testBit q = true
      · rw [if_neg (b1_t hb)] at cl0
        by_cases hs : 24 * (a / 24) + p_rs A (a / 24) + q * p_zs A (a / 24) = a
        · rw [if_pos (by rw [hs])] at cl0
          obtain ⟨k', r1, r2, r3, r4⟩ := s_remove (A := p_tm A (kG k 2 + 1)) (by exact h) (hk.tm (kG k 2 + 1)) hi hq hb (kG k 2 + 1)
          rw [show kG (kGs k 2 (kG k 2 + 1)) 2 = kG k 2 + 1 from rfl, r1, Option.bind_some] at cl0
          have hqP : q < p_ps A (a / 24) := p2
          have hlt := xor_lt (w_b h hi) hqP
          have hlt4 : p_b A (a / 24) ^^^ 2 ^ q < 4096 := m_4096 hlt (w_ps h hi)
          obtain ⟨o1, o2⟩ := bit_off _ (w_b4 h hi) q hq hb
          have hB : WF (n + 1) (p_set (p_tm A (kG k 2 + 1)) (a / 24) (p_b A (a / 24) ^^^ 2 ^ q) (if p_b A (a / 24) ^^^ 2 ^ q = 0 then kG k 2 + 1 else -1)) := by
            refine WF.set (A := p_tm A (kG k 2 + 1)) (by exact h.up) hlt (fun z => if_neg z) p1
          have et : kG k 2 = p_t A := hk.1.2.2.1
          have ev : kS k' 6 (a / 24) = nI (pc (p_b A (a / 24) ^^^ 2 ^ q)) := by
            rw [(r2.2.2 _ hi).2.2.2.2.1, b_set, if_pos rfl]
            rfl
          have rfm : ∃ m', R_X3_take m (nI a) = some (nI (pc (p_b A (a / 24) ^^^ 2 ^ q)), m') ∧ MR m' (p_set (p_tm A (kG k 2 + 1)) (a / 24) (p_b A (a / 24) ^^^ 2 ^ q) (if p_b A (a / 24) ^^^ 2 ^ q = 0 then kG k 2 + 1 else -1)) ∧ mF m' 0 = 0 := by
            unfold R_X3_take
            rw [isp, Option.bind_some, if_pos (by decide), t_placeOf h hm0 ha, e, Option.bind_some, if_neg (show ¬ oI (some q) = -1 from nI_m1 (by omega)), show oI (some q) = nI q from rfl, e24, rf0, Option.bind_some, if_neg (fun z => z (by rw [hs])), if_pos (nI_inb hi), nI_cl hi, (hm0.2.2.2 _ hi).2.2.1, bit_at _ (w_b4 h hi) q hq, if_pos (b1_t hb), if_pos (nI_inb hi), if_pos (nI_inb hi), if_pos (nI_inb hi), nI_bit hq, pk_sub o1, o2]
            generalize hm1 : mAs (mFs m 0 0) 4 (upd (mA (mFs m 0 0) 4) (a / 24) (nI (p_b A (a / 24) ^^^ 2 ^ q))) = m1
            have f1 : ∀ y, mF m1 y = mF (mFs m 0 0) y := fun y => by rw [← hm1, mF_As]
            have et1 : mF m1 1 + 1 = kG k 2 + 1 := by rw [f1, et]; exact congrArg (· + 1) hm0.1.2.1
            rw [et1]
            generalize hm2 : mFs m1 1 (kG k 2 + 1) = m2
            have a2 : ∀ y, mA m2 y = mA m1 y := fun y => by rw [← hm2, mA_Fs]
            have v4 : mA m2 4 (a / 24) = nI (p_b A (a / 24) ^^^ 2 ^ q) := by rw [a2, ← hm1, mA_As, if_pos rfl]; unfold upd; rw [if_pos rfl]
            have a4 : ∀ y, y ≠ 4 → mA m2 y = mA m y := fun y hy => by rw [a2, ← hm1, mA_As, if_neg hy]; rfl
            have f2 : mF m2 0 = 0 := by rw [← hm2, mF_Fs, if_neg (by omega), f1]; rfl
            have base : MR (mFs (mFs m 0 0) 1 (kG k 2 + 1)) (p_tm A (kG k 2 + 1)) := hm0.tm _
            have fin : ∀ m', (∀ y, mF m' y = mF m2 y) → (∀ y, y ≠ 5 → mA m' y = mA m2 y) → (∀ x, x < 12 → mA m' 5 x = if x = a / 24 then (if p_b A (a / 24) ^^^ 2 ^ q = 0 then kG k 2 + 1 else -1) else mA m 5 x) → MR m' (p_set (p_tm A (kG k 2 + 1)) (a / 24) (p_b A (a / 24) ^^^ 2 ^ q) (if p_b A (a / 24) ^^^ 2 ^ q = 0 then kG k 2 + 1 else -1)) ∧ mF m' 0 = 0 := by
              intro m' z1 z2 z3
              refine ⟨MR.set base (fun f hf => ?_) (fun x hx => ?_) (fun x hx => ?_) (fun x hx => ?_), by rw [z1]; exact f2⟩
              · rw [z1, ← hm2, mF_Fs, mF_Fs, f1]
              · rw [z2 x (by omega), a4 x (by omega)]; rfl
              · rw [z2 4 (by omega), a2, ← hm1, mA_As, if_pos rfl]; rfl
              · rw [z3 x hx]; rfl
            rw [v4]
            by_cases e0 : p_b A (a / 24) ^^^ 2 ^ q = 0
            · rw [if_neg (fun z => z (by rw [e0]; rfl)), if_pos (nI_inb hi)]
              generalize hm3 : mAs m2 5 (upd (mA m2 5) (a / 24) (mF m2 1)) = m3
              have hfin := fin m3 (fun y => by rw [← hm3, mF_As]) (fun y hy => by rw [← hm3, mA_As, if_neg hy]) (fun x hx => by
                rw [← hm3, mA_As, if_pos rfl, if_pos e0]
                unfold upd
                by_cases ex : x = a / 24
                · rw [if_pos ex, if_pos ex, ← hm2, mF_Fs, if_pos rfl]
                · rw [if_neg ex, if_neg ex, a4 5 (by omega)])
              rw [t_many (n := n + 1) hB hfin.1 hi, Option.bind_some, b_set, if_pos rfl]
              exact ⟨m3, rfl, hfin⟩
            · rw [if_pos (nI_ne0 (Nat.pos_of_ne_zero e0) (by omega))]
              have hfin := fin m2 (fun y => rfl) (fun y hy => rfl) (fun x hx => by
                rw [a4 5 (by omega), if_neg e0]
                by_cases ex : x = a / 24
                · rw [if_pos ex, ex, (hm.2.2.2 _ hi).2.2.2]
                  exact w_s h hi (fun z => by rw [z, Nat.zero_testBit] at hb; cases hb)
                · rw [if_neg ex])
              rw [t_many (n := n + 1) hB hfin.1 hi, Option.bind_some, b_set, if_pos rfl]
              exact ⟨m2, rfl, hfin⟩
          obtain ⟨m', s1, s2, s3⟩ := rfm
          exact aw_ok hB r2 s2 (cl0 _ (by rw [ev])) s1 s3
        · rw [if_neg (fun z => hs ((nI_eq (by omega) (by omega)).mp z))] at cl0
          refine er2 (cl0 _ rfl) ?_
          unfold R_X3_take
          rw [isp, Option.bind_some, if_pos (by decide), t_placeOf h hm0 ha, e, Option.bind_some, if_neg (show ¬ oI (some q) = -1 from nI_m1 (by omega)), show oI (some q) = nI q from rfl, e24, rf0, Option.bind_some, if_pos (fun z => hs ((nI_eq (by omega) (by omega)).mp z))]
          rfl
      · rw [if_pos (b1_f hb)] at cl0
        refine er2 (cl0 _ rfl) ?_
        unfold R_X3_take
        rw [isp, Option.bind_some, if_pos (by decide), t_placeOf h hm0 ha, e, Option.bind_some, if_neg (show ¬ oI (some q) = -1 from nI_m1 (by omega)), show oI (some q) = nI q from rfl, e24, rf0, Option.bind_some]
        by_cases hs : 24 * (a / 24) + p_rs A (a / 24) + q * p_zs A (a / 24) = a
        · rw [if_neg (fun z => z (by rw [hs])), if_pos (nI_inb hi), nI_cl hi, (hm0.2.2.2 _ hi).2.2.1, bit_at _ (w_b4 h hi) q hq, if_neg (fun z => z (b1_f hb))]
          rfl
        · rw [if_pos (fun z => hs ((nI_eq (by omega) (by omega)).mp z))]
          rfl
  · refine er ?_ ?_
    · unfold R_X2_take R_X2_shelfAt
      rw [if_pos (show p < 0 from h1)]; rfl
    · unfold R_X3_take R_X3_isSpot
      rw [show R_X3_isIn p 0 287 = some 0 from in_lo (lo := 0) (hi := 287) h1]; rfl
  · refine er ?_ ?_
    · obtain ⟨a, ha, rfl⟩ := nI_of (show ¬ p < 0 from h1)
      rw [nI_ltI (by omega) ha] at h2
      unfold R_X2_take R_X2_shelfAt
      rw [if_neg (show ¬ nI a < 0 from h1), if_neg (show ¬ nI a < (288 : Int32) from nI_nlt (b := 288) (by omega) ha)]; rfl
    · unfold R_X3_take R_X3_isSpot
      rw [show R_X3_isIn p 0 287 = some 0 from in_hi (lo := 0) (hi := 287) h1 h2]; rfl
end LP
