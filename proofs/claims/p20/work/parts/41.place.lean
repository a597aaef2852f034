/-! spots: place and take -/
def plc (A : AS) (a : Nat) : Option Nat := if p_o A (a / 24) = 0 then none else if a % 24 < p_rs A (a / 24) then none else if a % 24 - p_rs A (a / 24) < p_ps A (a / 24) * p_zs A (a / 24) then some ((a % 24 - p_rs A (a / 24)) / p_zs A (a / 24)) else none
def p_tm (A : AS) (v : Int32) : AS := ((p_n A, p_w A, v, p_p A, p_m A), A.2)
section LP
variable {n : Nat} {A : AS} {k : KSt}
theorem zs_2 (h : WF n A) {i : Nat} (hi : i < 12) (h0 : p_o A i ≠ 0) : 2 ≤ p_zs A i := by rw [zs_I h0]; exact (w_z h (ow_lt h hi h0)).1
theorem rs_lt (h : WF n A) {i : Nat} (hi : i < 12) : p_rs A i < 12 := by
  by_cases h0 : p_o A i = 0
  · unfold p_rs; rw [if_pos h0]; omega
  · have h1 := w_r h hi h0
    have h2 := w_z h (ow_lt h hi h0)
    have := Nat.mod_lt 24 (show 0 < p_z A (p_o A i - 1) by omega)
    rw [rs_I h0]; omega
theorem plc_ok (h : WF n A) {a q : Nat} (ha : a < 288) (e : plc A a = some q) : p_o A (a / 24) ≠ 0 ∧ q < p_ps A (a / 24) := by
  unfold plc at e
  by_cases h0 : p_o A (a / 24) = 0
  · rw [if_pos h0] at e; cases e
  · rw [if_neg h0] at e
    by_cases h1 : a % 24 < p_rs A (a / 24)
    · rw [if_pos h1] at e; cases e
    · rw [if_neg h1] at e
      by_cases h2 : a % 24 - p_rs A (a / 24) < p_ps A (a / 24) * p_zs A (a / 24)
      · rw [if_pos h2] at e
        cases e
        exact ⟨h0, Nat.div_lt_of_lt_mul (by rw [Nat.mul_comm]; exact h2)⟩
      · rw [if_neg h2] at e; cases e
theorem s_placeAt (h : WF n A) (hk : KR k A) {a : Nat} (ha : a < 288) : R_X1_placeAt k (a / 24) (nI a) = some (oI (plc A a)) := by
  have hi : a / 24 < 12 := by omega
  obtain ⟨-, g3, g4, g5, -, -, -⟩ := hk.2.2 _ hi
  have hr := rs_lt h hi
  have hps := w_ps h hi
  have hpz := ps_zs h hi
  have e1 : nI a - nI (24 * (a / 24)) = nI (a % 24) := by
    rw [pk_sub (by omega)]
    exact congrArg nI (by omega)
  unfold R_X1_placeAt plc
  rw [g3, g4, g5, e1, pk_mul]
  by_cases h0 : p_o A (a / 24) = 0
  · have : p_zs A (a / 24) = 0 := if_pos h0
    rw [if_pos (by rw [this]; decide), if_pos h0]; rfl
  · have hz := zs_2 h hi h0
    have hz2 := w_zs h hi
    rw [if_neg (show ¬ nI (p_zs A (a / 24)) < (1 : Int32) from nI_nlt (b := 1) (by omega) (by omega)), if_neg h0]
    by_cases h1 : a % 24 < p_rs A (a / 24)
    · rw [if_pos (show nI (a % 24) - nI (p_rs A (a / 24)) < 0 from by rw [Int32.lt_iff_toInt_lt, sb_I (by omega) (by omega)]; show _ < (0 : Int); omega), if_pos h1]; rfl
    · rw [pk_sub (by omega), if_neg (nI_pos (by omega)), if_neg h1]
      by_cases h2 : a % 24 - p_rs A (a / 24) < p_ps A (a / 24) * p_zs A (a / 24)
      · rw [if_pos (nI_lt h2 (by omega)), if_pos h2, if_pos (nI_ne0 (by omega) (by omega)), pk_div (by omega) (by omega) (by omega)]; rfl
      · rw [if_neg (nI_nlt (by omega) (by omega)), if_neg h2]; rfl
theorem s_shelfAt {a : Nat} (ha : a < 288) : R_X2_shelfAt k (nI a) = some (.ok (a / 24)) := by
  have e1 : nI a / nI 24 = nI (a / 24) := pk_div (by omega) (by omega) (by omega)
  unfold R_X2_shelfAt
  rw [if_neg (nI_pos (by omega)), if_pos (show nI a < (288 : Int32) from nI_lt (b := 288) ha (by omega)), show (24 : Int32) = nI 24 from rfl, e1, if_pos (nI_inb (by omega)), nI_cl (by omega)]
def plV (A : AS) (a x : Nat) : Int32 := match plc A a with
  | none => -1
  | some q => (match x with
    | 0 => p_oI A (a / 24)
    | 1 => nI q
    | 2 => nI (b1 ((p_b A (a / 24)).testBit q))
    | _ => nI (24 * (a / 24) + p_rs A (a / 24) + q * p_zs A (a / 24)))
/-! writing calls -/
theorem KR.tm (hk : KR k A) (v : Int32) : KR (kGs k 2 v) (p_tm A v) := by
  obtain ⟨⟨g0, g1, g2, g3, g4, g5⟩, h2, h3⟩ := hk
  exact ⟨⟨g0, g1, rfl, g3, g4, g5⟩, h2, h3⟩
end LP
