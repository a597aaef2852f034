/-! the calls that only tell: both sides agree -/
section LP
variable {n : Nat} {A : AS} {k : KSt}
theorem s_gaps (h : WF n A) (hk : KR k A) {j : Nat} (hj : j < p_n A) : R_X2_gapsOf k j = some (nI (nS A j) * nI (p_pl A j) - nI (nB A j)) := by
  unfold R_X2_gapsOf
  rw [s_shelvesOf h hk hj, Option.bind_some, s_bowlsOf h hk hj, Option.bind_some, (hk.2.1 j hj).2.1]
theorem sb_I {a r : Nat} (ha : a < 2 ^ 20) (hr : r < 2 ^ 20) : (nI a - nI r).toInt = (a : Int) - r := by
  rw [Int32.toInt_sub, nI_toInt (by omega), nI_toInt (by omega), Int.bmod_def]
  omega
theorem nB_le (h : WF n A) {j : Nat} (hj : j < p_n A) : nB A j ≤ nS A j * p_pl A j ∧ nS A j ≤ 12 := by
  obtain ⟨h1, h2, h3, h4⟩ := gn_S h hj
  have hp := w_pl h hj
  refine ⟨?_, ?_⟩
  · rw [h2, h1, Nat.add_mul, Nat.add_mul, Nat.mul_comm (p_pl A j), ]
    have : nX A j 2 * p_pl A j = p_pl A j * nX A j 2 := Nat.mul_comm _ _
    omega
  · have := sm_le (f := fun q => b1 (ofK A j q)) (g := fun _ => 1) (n := 12) (fun q _ => b1_le _)
    rw [sm_const] at this
    exact this
end LP
