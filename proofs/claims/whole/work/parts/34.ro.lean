/-! the calls that only tell: both sides agree -/
section LP
variable {n : Nat} {A : AS} {k : KSt} {m : MSt}
theorem ar_ok {cd : String → Int32} {hs : List String} {cl : Option (Except String Int32)} {rf : Option (Int32 × MSt)} {v : Int32} {m' : MSt} (h : WF n A) (hk : KR k A) (hm : MR m' A) (h1 : cl = some (.ok v)) (h2 : rf = some (v, m')) (h3 : mF m' 0 = 0) : AgreeR Rel0 n k cd hs cl rf :=
  ⟨.ok v, v, m', h1, h2, (fun E e => by cases e), h3, rfl, A, h.up, hk, hm⟩
theorem ar_er {cd : String → Int32} {hs : List String} {cl : Option (Except String Int32)} {rf : Option (Int32 × MSt)} {E : String} {rb : Int32} {m' : MSt} (h : WF n A) (hk : KR k A) (hm : MR m' A) (h1 : cl = some (.error E)) (hE : E ∈ hs) (h2 : rf = some (rb, m')) (h3 : mF m' 0 = cd E) (h4 : cd E ≠ 0) : AgreeR Rel0 n k cd hs cl rf :=
  ⟨.error E, rb, m', h1, h2, (fun E' e => by cases e; exact hE), h3, h4, A, h.up, hk, hm⟩
theorem y_shelf (h : WF n A) (hk : KR k A) (hm : MR m A) (p q : Int32) : AgreeR Rel0 n k cdIO [exIO] (R_X2_shelf k p q) (R_X3_shelf m p q) := by
  have z0 : (0 : Int32) = nI 0 := rfl
  have er : R_X2_shelf k p q = some (.error exIO) → R_X3_shelf m p q = some (0, mFs (mFs m 0 0) 0 1) → AgreeR Rel0 n k cdIO [exIO] (R_X2_shelf k p q) (R_X3_shelf m p q) := fun e1 e2 => ar_er h hk ((hm.f0 0).f0 1) e1 (List.mem_singleton.mpr rfl) e2 rfl (by decide)
  rcases in_cases p 0 11 (by omega) (by omega) with ⟨a, -, ha, rfl⟩ | h1 | ⟨h1, h2⟩
  · rcases in_cases q 0 5 (by omega) (by omega) with ⟨x, -, hx, rfl⟩ | g1 | ⟨g1, g2⟩
    · refine ar_ok (v := aSh A a x) h hk (hm.f0 0) ?_ ?_ rfl
      · unfold R_X2_shelf
        rw [if_neg (nI_pos (by omega)), if_pos (show nI a < (12 : Int32) from nI_lt (b := 12) (by omega) (by omega)), show (6 : Int32) = nI 6 from rfl, req_ok (by omega) (by omega)]
        show (if _ then _ else _) = _
        rw [if_pos (nI_inb (by omega)), nI_cl (by omega), s_answer h hk (by omega) hx]
        rfl
      · unfold R_X3_shelf
        rw [show R_X3_isIn (nI a) 0 11 = some 1 from in_ok (lo := 0) (hi := 11) (by omega) (by omega) ha, Option.bind_some, if_neg (by decide), show R_X3_isIn (nI x) 0 5 = some 1 from in_ok (lo := 0) (hi := 5) (by omega) (by omega) hx, Option.bind_some, if_neg (by decide), t_told h (hm.f0 0) (by omega) hx]
        rfl
    · refine er ?_ ?_
      · unfold R_X2_shelf
        rw [if_neg (nI_pos (by omega)), if_pos (show nI a < (12 : Int32) from nI_lt (b := 12) (by omega) (by omega)), show (6 : Int32) = nI 6 from rfl, req_lo g1]
        rfl
      · unfold R_X3_shelf
        rw [show R_X3_isIn (nI a) 0 11 = some 1 from in_ok (lo := 0) (hi := 11) (by omega) (by omega) ha, Option.bind_some, if_neg (by decide), show R_X3_isIn q 0 5 = some 0 from in_lo (lo := 0) (hi := 5) g1]
        rfl
    · refine er ?_ ?_
      · unfold R_X2_shelf
        rw [if_neg (nI_pos (by omega)), if_pos (show nI a < (12 : Int32) from nI_lt (b := 12) (by omega) (by omega)), show (6 : Int32) = nI (5 + 1) from rfl, req_hi g1 g2 (by omega)]
        rfl
      · unfold R_X3_shelf
        rw [show R_X3_isIn (nI a) 0 11 = some 1 from in_ok (lo := 0) (hi := 11) (by omega) (by omega) ha, Option.bind_some, if_neg (by decide), show R_X3_isIn q 0 5 = some 0 from in_hi (lo := 0) (hi := 5) g1 g2]
        rfl
  · refine er ?_ ?_
    · unfold R_X2_shelf
      rw [if_pos (show p < 0 from h1)]; rfl
    · unfold R_X3_shelf
      rw [show R_X3_isIn p 0 11 = some 0 from in_lo (lo := 0) (hi := 11) h1]
      rfl
  · refine er ?_ ?_
    · unfold R_X2_shelf
      obtain ⟨a, ha, rfl⟩ := nI_of (show ¬ p < 0 from h1)
      rw [nI_ltI (by omega) ha] at h2
      rw [if_neg (show ¬ nI a < 0 from h1), if_neg (show ¬ nI a < (12 : Int32) from nI_nlt (b := 12) (by omega) ha)]; rfl
    · unfold R_X3_shelf
      rw [show R_X3_isIn p 0 11 = some 0 from in_hi (lo := 0) (hi := 11) h1 h2]
      rfl
theorem y_count (h : WF n A) (hk : KR k A) (hm : MR m A) (q : Int32) : AgreeR Rel0 n k cdIO [exIO] (R_X2_count k q) (R_X3_count m q) := by
  have er : R_X2_count k q = some (.error exIO) → R_X3_count m q = some (0, mFs (mFs m 0 0) 0 1) → AgreeR Rel0 n k cdIO [exIO] (R_X2_count k q) (R_X3_count m q) := fun e1 e2 => ar_er h hk ((hm.f0 0).f0 1) e1 (List.mem_singleton.mpr rfl) e2 rfl (by decide)
  rcases in_cases q 0 9 (by omega) (by omega) with ⟨x, -, hx, rfl⟩ | g1 | ⟨g1, g2⟩
  · refine ar_ok (v := aCo A x) h hk (hm.f0 0) (s_count h hk hx) ?_ rfl
    unfold R_X3_count
    rw [show R_X3_isIn (nI x) 0 9 = some 1 from in_ok (lo := 0) (hi := 9) (by omega) (by omega) hx, Option.bind_some, if_neg (by decide), t_count h (hm.f0 0) hx]
    rfl
  · refine er ?_ ?_
    · unfold R_X2_count
      rw [show (10 : Int32) = nI 10 from rfl, req_lo g1]; rfl
    · unfold R_X3_count
      rw [show R_X3_isIn q 0 9 = some 0 from in_lo (lo := 0) (hi := 9) g1]; rfl
  · refine er ?_ ?_
    · unfold R_X2_count
      rw [show (10 : Int32) = nI (9 + 1) from rfl, req_hi g1 g2 (by omega)]; rfl
    · unfold R_X3_count
      rw [show R_X3_isIn q 0 9 = some 0 from in_hi (lo := 0) (hi := 9) g1 g2]; rfl
theorem y_about (h : WF n A) (hk : KR k A) (hm : MR m A) (p q : Int32) : AgreeR Rel0 n k cdIO [exIO] (R_X2_about k p q) (R_X3_about m p q) := by
  have er : R_X2_about k p q = some (.error exIO) → R_X3_about m p q = some (0, mFs (mFs m 0 0) 0 1) → AgreeR Rel0 n k cdIO [exIO] (R_X2_about k p q) (R_X3_about m p q) := fun e1 e2 => ar_er h hk ((hm.f0 0).f0 1) e1 (List.mem_singleton.mpr rfl) e2 rfl (by decide)
  rcases kd_cases h hk (hm.f0 0) p with ⟨j, hj, rfl, c1, c2⟩ | ⟨c1, c2⟩
  · have hkn : j < kN k := by rw [hk.kn]; exact hj
    rcases in_cases q 0 8 (by omega) (by omega) with ⟨x, -, hx, rfl⟩ | g1 | ⟨g1, g2⟩
    · refine ar_ok (v := aAb A j x) h hk (hm.f0 0) ?_ ?_ rfl
      · unfold R_X2_about
        rw [c1]
        show (if j < kN k then _ else none) = _
        rw [if_pos hkn, show (9 : Int32) = nI 9 from rfl, req_ok (by omega) (by omega)]
        show (R_X2_answerAbout k j (nI x)).bind _ = _
        rw [s_about h hk hj hx]
        rfl
      · unfold R_X3_about
        rw [c2, Option.bind_some, if_neg (by decide), show R_X3_isIn (nI x) 0 8 = some 1 from in_ok (lo := 0) (hi := 8) (by omega) (by omega) hx, Option.bind_some, if_neg (by decide), t_about h (hm.f0 0) hj hx]
        rfl
    · refine er ?_ ?_
      · unfold R_X2_about
        rw [c1]
        show (if j < kN k then _ else none) = _
        rw [if_pos hkn, show (9 : Int32) = nI 9 from rfl, req_lo g1]; rfl
      · unfold R_X3_about
        rw [c2, Option.bind_some, if_neg (by decide), show R_X3_isIn q 0 8 = some 0 from in_lo (lo := 0) (hi := 8) g1]; rfl
    · refine er ?_ ?_
      · unfold R_X2_about
        rw [c1]
        show (if j < kN k then _ else none) = _
        rw [if_pos hkn, show (9 : Int32) = nI (8 + 1) from rfl, req_hi g1 g2 (by omega)]; rfl
      · unfold R_X3_about
        rw [c2, Option.bind_some, if_neg (by decide), show R_X3_isIn q 0 8 = some 0 from in_hi (lo := 0) (hi := 8) g1 g2]; rfl
  · refine er ?_ ?_
    · unfold R_X2_about
      rw [c1]; rfl
    · unfold R_X3_about
      rw [c2]; rfl
theorem y_next (hn : n < 512) (h : WF n A) (hk : KR k A) (hm : MR m A) (p : Int32) : AgreeR Rel0 n k cdIO [exIO] (R_X2_next k p) (R_X3_next m p) := by
  rcases kd_cases h hk (hm.f0 0) p with ⟨j, hj, rfl, c1, c2⟩ | ⟨c1, c2⟩
  · have hkn : j < kN k := by rw [hk.kn]; exact hj
    refine ar_ok (v := aNx A j) h hk (hm.f0 0) ?_ ?_ rfl
    · unfold R_X2_next
      rw [c1]
      show (if j < kN k then _ else none) = _
      rw [if_pos hkn, s_next h hk hj]; rfl
    · unfold R_X3_next
      rw [c2, Option.bind_some, if_neg (by decide), t_next h (hm.f0 0) (by omega) hj]; rfl
  · refine ar_er h hk ((hm.f0 0).f0 1) (E := exIO) (rb := 0) ?_ (List.mem_singleton.mpr rfl) ?_ rfl (by decide)
    · unfold R_X2_next; rw [c1]; rfl
    · unfold R_X3_next; rw [c2]; rfl
theorem s_gaps (h : WF n A) (hk : KR k A) {j : Nat} (hj : j < p_n A) : R_X2_gapsOf k j = some (nI (nS A j) * nI (p_pl A j) - nI (nB A j)) := by
  unfold R_X2_gapsOf
  rw [s_shelvesOf h hk hj, Option.bind_some, s_bowlsOf h hk hj, Option.bind_some, (hk.2.1 j hj).2.1]
theorem t_room (h : WF n A) (hm : MR m A) {j : Nat} (hj : j < p_n A) : R_X3_room m (nI j) = some (nI (nS A j) * nI (p_pl A j) - nI (nB A j)) := by
  unfold R_X3_room
  rw [t_shelves0 h hm hj, Option.bind_some, t_places h hm hj, Option.bind_some, t_bowlsOf h hm hj, Option.bind_some]
theorem y_fits (h : WF n A) (hk : KR k A) (hm : MR m A) (p : Int32) : AgreeR Rel0 n k cdIO [exIO] (R_X2_fits k p) (R_X3_fits m p) := by
  rcases kd_cases h hk (hm.f0 0) p with ⟨j, hj, rfl, c1, c2⟩ | ⟨c1, c2⟩
  · have hkn : j < kN k := by rw [hk.kn]; exact hj
    refine ar_ok (v := nI (nS A j) * nI (p_pl A j) - nI (nB A j) + nI (nF A) * nI (p_pl A j)) h hk (hm.f0 0) ?_ ?_ rfl
    · unfold R_X2_fits
      rw [c1]
      show (if j < kN k then _ else none) = _
      rw [if_pos hkn, s_gaps h hk hj, Option.bind_some, s_free h hk, Option.bind_some, (hk.2.1 j hj).2.1]
    · unfold R_X3_fits
      rw [c2, Option.bind_some, if_neg (by decide), t_room h (hm.f0 0) hj, Option.bind_some, t_sum2 h (hm.f0 0), Option.bind_some, t_places h (hm.f0 0) hj, Option.bind_some]
  · refine ar_er h hk ((hm.f0 0).f0 1) (E := exIO) (rb := 0) ?_ (List.mem_singleton.mpr rfl) ?_ rfl (by decide)
    · unfold R_X2_fits; rw [c1]; rfl
    · unfold R_X3_fits; rw [c2]; rfl
theorem y_gains (h : WF n A) (hk : KR k A) (hm : MR m A) (p : Int32) : AgreeR Rel0 n k cdIO [exIO] (R_X2_gains k p) (R_X3_gains m p) := by
  rcases kd_cases h hk (hm.f0 0) p with ⟨j, hj, rfl, c1, c2⟩ | ⟨c1, c2⟩
  · have hkn : j < kN k := by rw [hk.kn]; exact hj
    obtain ⟨m', e1, e2, e3⟩ := t_gained h (hm.f0 0) hj
    refine ar_ok (v := nI (gn A j)) (m' := m') h hk e2 ?_ ?_ e3
    · unfold R_X2_gains
      rw [c1]
      show (if j < kN k then _ else none) = _
      rw [if_pos hkn, s_gains h hk hj]; rfl
    · unfold R_X3_gains
      rw [c2, Option.bind_some, if_neg (by decide), e1]; rfl
  · refine ar_er h hk ((hm.f0 0).f0 1) (E := exIO) (rb := 0) ?_ (List.mem_singleton.mpr rfl) ?_ rfl (by decide)
    · unfold R_X2_gains; rw [c1]; rfl
    · unfold R_X3_gains; rw [c2]; rfl
theorem sb_I {a r : Nat} (ha : a < 2 ^ 20) (hr : r < 2 ^ 20) : (nI a - nI r).toInt = (a : Int) - r := by
  rw [Int32.toInt_sub, nI_toInt (by omega), nI_toInt (by omega), Int.bmod_def]
  omega
theorem nB_le (h : WF n A) {j : Nat} (hj : j < p_n A) : nB A j ≤ nS A j * p_pl A j ∧ nS A j ≤ 12 := by
  obtain ⟨h1, h2, h3, h4⟩ := gn_S h hj
  have hp := w_pl h hj
  refine ⟨?_, ?_⟩
  · rw [h2, h1, Nat.add_mul, Nat.add_mul, Nat.mul_comm (p_pl A j), ]
    have : nX A j 2 * p_pl A j = p_pl A j * nX A j 2 := Nat.mul_comm _ _
    omega
  · have := sm_le (f := fun q => b1 (ofK A j q)) (g := fun _ => 1) (n := 12) (fun q _ => b1_le _)
    rw [sm_const] at this
    exact this
theorem y_would (h : WF n A) (hk : KR k A) (hm : MR m A) (p q : Int32) : AgreeR Rel0 n k cdIOIA [exIO, exIA] (R_X2_would k p q) (R_X3_would m p q) := by
  rcases kd_cases h hk (hm.f0 0) p with ⟨j, hj, rfl, c1, c2⟩ | ⟨c1, c2⟩
  · have hkn : j < kN k := by rw [hk.kn]; exact hj
    have hm0 := hm.f0 0
    rcases in_cases q 1 150 (by omega) (by omega) with ⟨x, hx1, hx, rfl⟩ | g1 | ⟨g1, g2⟩
    · have hp := w_pl h hj
      obtain ⟨b1', b2⟩ := nB_le h hj
      have hF := nF_le A
      have hsp : nS A j * p_pl A j ≤ 144 := Nat.mul_le_mul b2 hp.2
      have eg : nI (nS A j) * nI (p_pl A j) - nI (nB A j) = nI (nS A j * p_pl A j - nB A j) := by rw [pk_mul, pk_sub b1']
      generalize hr : nS A j * p_pl A j - nB A j = r at eg
      have hr2 : r ≤ 144 := by omega
      have cls : ∀ v, ((if 0 < nI x - nI r then (R_X0_shelvesFor k j (nI x - nI r)).bind fun v47 => (R_X2_freeShelves k).bind fun v55 => if v47 ≤ v55 then some (Except.ok v47) else some (.ok (-1 : Int32)) else some (.ok (0 : Int32))) = (some (Except.ok v) : Option (Except String Int32))) → R_X2_would k (nI j) (nI x) = some (.ok v) := by
        intro v hv
        unfold R_X2_would
        rw [c1]
        show (if j < kN k then _ else none) = _
        rw [if_pos hkn, if_neg (show ¬ nI x < (1 : Int32) from nI_nlt (b := 1) hx1 (by omega)), if_pos (show nI x ≤ (150 : Int32) from nI_le (b := 150) hx (by omega)), s_gaps h hk hj, Option.bind_some, eg]
        exact hv
      have rf : ∀ v, ((if (((mx (0 : Int32) (nI x - nI r)) + nI (p_pl A j)) - (1 : Int32)) / nI (p_pl A j) ≤ nI (nF A) then some ((((mx (0 : Int32) (nI x - nI r)) + nI (p_pl A j)) - (1 : Int32)) / nI (p_pl A j)) else some (-1 : Int32)) = some v) → R_X3_would m (nI j) (nI x) = some (v, mFs m 0 0) := by
        intro v hv
        unfold R_X3_would
        rw [c2, Option.bind_some, if_pos (by decide), show R_X3_isIn (nI x) 1 150 = some 1 from in_ok (lo := 1) (hi := 150) (by omega) hx1 hx, Option.bind_some, if_neg (by decide)]
        unfold R_X3_wouldCome
        rw [t_room h hm0 hj, Option.bind_some, t_places h hm0 hj, Option.bind_some, Option.bind_some, if_pos (nI_ne0 (by omega) (by omega)), t_sum2 h hm0, Option.bind_some, eg, hv]
        rfl
      have hs := sb_I (a := x) (r := r) (by omega) (by omega)
      by_cases hxr : r < x
      · have e1 : nI x - nI r = nI (x - r) := pk_sub (by omega)
        have pos : 0 < nI x - nI r := by rw [Int32.lt_iff_toInt_lt, hs]; show (0 : Int) < _; omega
        have emx : mx (0 : Int32) (nI x - nI r) = nI (x - r) := by unfold mx; rw [if_pos pos, e1]
        have ev : (nI (x - r) + nI (p_pl A j) - 1) / nI (p_pl A j) = nI ((x - r + p_pl A j - 1) / p_pl A j) := by
          rw [nI_add, show (1 : Int32) = nI 1 from rfl, pk_sub (by omega), pk_div (by omega) (by omega) (by omega)]
        rw [emx, ev] at rf
        rw [if_pos pos, e1, s_for h hk hj _ (by omega), Option.bind_some, s_free h hk, Option.bind_some] at cls
        by_cases hle : nI ((x - r + p_pl A j - 1) / p_pl A j) ≤ nI (nF A)
        · rw [if_pos hle] at rf
          rw [if_pos hle] at cls
          exact ar_ok h hk hm0 (cls _ rfl) (rf _ rfl) rfl
        · rw [if_neg hle] at rf
          rw [if_neg hle] at cls
          exact ar_ok h hk hm0 (cls _ rfl) (rf _ rfl) rfl
      · have npos : ¬ 0 < nI x - nI r := by rw [Int32.lt_iff_toInt_lt, hs]; show ¬ (0 : Int) < _; omega
        have emx : mx (0 : Int32) (nI x - nI r) = nI 0 := by unfold mx; rw [if_neg npos]; rfl
        have ev : (nI 0 + nI (p_pl A j) - 1) / nI (p_pl A j) = 0 := by
          rw [nI_add, show (1 : Int32) = nI 1 from rfl, pk_sub (by omega), pk_div (by omega) (by omega) (by omega), Nat.div_eq_of_lt (by omega)]
          rfl
        rw [emx, ev, if_pos (nI_pos' (by omega))] at rf
        rw [if_neg npos] at cls
        exact ar_ok h hk hm0 (cls _ rfl) (rf _ rfl) rfl
    · refine ar_er h hk ((hm.f0 0).f0 2) (E := exIA) (rb := 0) ?_ (by decide) ?_ (by rfl) (by decide)
      · unfold R_X2_would
        rw [c1]
        show (if j < kN k then _ else none) = _
        rw [if_pos hkn, if_pos (show q < 1 from g1)]; rfl
      · unfold R_X3_would
        rw [c2, Option.bind_some, if_pos (by decide), show R_X3_isIn q 1 150 = some 0 from in_lo (lo := 1) (hi := 150) g1]; rfl
    · refine ar_er h hk ((hm.f0 0).f0 2) (E := exIA) (rb := 0) ?_ (by decide) ?_ (by rfl) (by decide)
      · unfold R_X2_would
        rw [c1]
        show (if j < kN k then _ else none) = _
        rw [if_pos hkn, if_neg (show ¬ q < 1 from g1), if_neg (le_of_lt (show (150 : Int32) < q from g2))]; rfl
      · unfold R_X3_would
        rw [c2, Option.bind_some, if_pos (by decide), show R_X3_isIn q 1 150 = some 0 from in_hi (lo := 1) (hi := 150) g1 g2]; rfl
  · refine ar_er h hk ((hm.f0 0).f0 1) (E := exIO) (rb := 0) ?_ (by decide) ?_ (by rfl) (by decide)
    · unfold R_X2_would; rw [c1]; rfl
    · unfold R_X3_would; rw [c2]; rfl
end LP
