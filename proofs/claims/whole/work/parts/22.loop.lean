section LL2
variable {p : Program} {l : Launch} {e : Env} {s : State} {m : MethodId} {below : List Frame} {meth : Method} {c : Code}
set_option maxHeartbeats 8000000 in
set_option maxRecDepth 100000 in
theorem lw_loop {Rel : Nat → KSt → MSt → Prop} (hy : Sync Rel) (hR1 : ∀ n k m, n < 512 → Rel n k m → Rel (n + 1) k m) {D : va_G} {c5 : Nat → ClassId} {sx : Nat → Nat} {b L x0 o : Nat} {bm : Nat → Nat} {xs : Nat → Int32} (F : lwF p l s m meth c D c5 sx b L xs) (hr : meth.sig.returnType = ret) (hlocks : meth.locks = false) :
    ∀ (w n : Nat) (cells slots : Nat) (a : KAd) (k : KSt) (mm : MSt) (g : Nat → Int64) (H : Heap) (locs : List Loc) (ls : Array Slot), n + w = 512 → cells ≤ 37 + n → slots ≤ 361 + 6 * n → aO a 0 = x0 → Rel n k mm → lv_has ls 9 [(0, .ref b), (1, .ref x0), (2, .ref (bm 0)), (3, .ref o), (4, .int (nI (3 * n)))] → va_P D vwCl (LW c5 a k o g ++ MW c5 bm mm) H → va_D (fun q => s.heap.size ≤ q) (LW c5 a k o g ++ MW c5 bm mm) → va_S (fun q => s.heap.size ≤ q) s.heap H locs →
    W p l e room_1 s m #[Value.ref b] below meth c H locs cells slots (lw_Z below #[Value.ref b] s) (F0 m 23 ls []) := by
  intro w
  have F0' := F
  obtain ⟨hx, hb, hml, hown, hts, hXs, hbl, hK, hX, hflags, hL⟩ := F
  have hA : ∀ q : Nat, s.heap.size ≤ q → (fun q : Nat => s.heap.size ≤ q) q := fun _ h => h
  have hbA : ¬ (fun q : Nat => s.heap.size ≤ q) b := Nat.not_le.mpr hbl
  induction w with
  | zero =>
    intro n cells slots a k mm g H locs ls hn hc1 hc2 hx0 hR hl hP hD hS
    obtain rfl : n = 512 := by omega
    refine lv_iload hx hb dL_law_23 (lv_at hl 4 rfl) ?_
    refine lv_aload_n hx hb dL_law_25 rfl (lv_at hl 0 rfl) ?_
    refine va_slen hx hb hXs hbl hbA hS dL_law_26 ?_
    refine lv_iconst (v := (3 : Int32)) hx hb dL_law_27 (by decide) ?_
    refine lv_isub hx hb dL_law_28 ?_
    refine lv_icmp_gt (tgt := 1026) hx hb dL_law_29 (by decide) (fun _ => ?_) (fun q => absurd ((lw_ex hL (by omega)).mpr (by omega)) q)
    refine lv_iconst (v := (1 : Int32)) hx hb dL_law_1026 (by decide) ?_
    refine va_forget hS.2.2 ?_
    refine W.widen (k := 669600) (n := 7087305) (by omega) (by omega) ?_
    refine W.base ?_
    exact lw_ret (Drawn.sameBut.refl s.drawn lw_cs) hx hb hr hlocks dL_law_1027
  | succ w ih =>
    intro n cells slots a k mm g H locs ls hn hc1 hc2 hx0 hR hl hP hD hS
    have hn5 : n < 512 := by omega
    obtain ⟨y_kind, y_setWay, y_put, y_take, y_reap, y_pack, y_shelf, y_about, y_place, y_count, y_next, y_fits, y_would, y_gains, y_advise, y_mean, y_digest⟩ := hy n k mm hn5 hR
    refine lv_iload hx hb dL_law_23 (lv_at hl 4 rfl) ?_
    refine lv_aload_n hx hb dL_law_25 rfl (lv_at hl 0 rfl) ?_
    refine va_slen hx hb hXs hbl hbA hS dL_law_26 ?_
    refine lv_iconst (v := (3 : Int32)) hx hb dL_law_27 (by decide) ?_
    refine lv_isub hx hb dL_law_28 ?_
    refine lv_icmp_gt (tgt := 1026) hx hb dL_law_29 (by decide) (fun _ => ?_) (fun q => ?_)
    · skip
      refine lv_iconst (v := (1 : Int32)) hx hb dL_law_1026 (by decide) ?_
      refine va_forget hS.2.2 ?_
      refine W.widen (k := 669600) (n := 7087305) (by omega) (by omega) ?_
      refine W.base ?_
      exact lw_ret (Drawn.sameBut.refl s.drawn lw_cs) hx hb hr hlocks dL_law_1027
    have h3 : 3 * n + 3 ≤ L := by
      exact Nat.not_lt.mp (fun h => q ((lw_ex hL (by omega)).mpr h))
    have KE : lwK p l e s m below meth c Rel D c5 b x0 o bm n := by
      intro cells slots a k mm g H locs ls hc1 hc2 hx0 hR hl hP hD hS
      refine lv_iinc (v := nI (3 * (n + 1))) (lv' := [(4, .int (nI (3 * (n + 1)))), (0, .ref b), (1, .ref x0), (2, .ref (bm 0)), (3, .ref o)]) hx hb dL_law_1020 hl (k := 4) rfl (nI_add (3 * n) 3) (by decide) rfl (fun ls hl => ?_)
      refine lv_goto (tgt := 23) hx hb dL_law_1023 (by decide) ?_
      exact ih (n + 1) cells slots a k mm g H locs ls (by omega) hc1 hc2 hx0 hR (lv_sub hl [1, 2, 3, 4, 0] rfl) hP hD hS
    refine lv_aload_n hx hb dL_law_32 rfl (lv_at hl 0 rfl) ?_
    refine lv_iload hx hb dL_law_33 (lv_at hl 4 rfl) ?_
    refine va_sld hx hb hXs hbl hbA hS (inb_in (lw_i hL (j := 0) (by omega))) dL_law_35 ?_
    refine lv_bipush (v := (31 : Int32)) hx hb dL_law_36 (by decide) ?_
    refine lv_iand hx hb dL_law_38 ?_
    generalize hv : (xs (nI (3 * n)).toNatClampNeg &&& (31 : Int32)) = v
    have hv2 := lw_tg (x := xs (nI (3 * n)).toNatClampNeg)
    rw [hv] at hv2
    by_cases v0 : v.toInt = 0
    · refine lv_tableIn (off := 81) (tgt := 120) hx hb dL_law_39 (by omega) (by omega) (by rw [v0]; rfl) (by decide) ?_
      exact lw_kind F0' KE y_kind hn5 h3 hc1 hc2 hx0 hl hP hD hS
    by_cases v1 : v.toInt = 1
    · refine lv_tableIn (off := 137) (tgt := 176) hx hb dL_law_39 (by omega) (by omega) (by rw [v1]; rfl) (by decide) ?_
      exact lw_setWay F0' KE y_setWay hn5 h3 hc1 hc2 hx0 hl hP hD hS
    by_cases v2 : v.toInt = 2
    · refine lv_tableIn (off := 193) (tgt := 232) hx hb dL_law_39 (by omega) (by omega) (by rw [v2]; rfl) (by decide) ?_
      exact lw_put F0' KE y_put hn5 h3 hc1 hc2 hx0 hl hP hD hS
    by_cases v3 : v.toInt = 3
    · refine lv_tableIn (off := 249) (tgt := 288) hx hb dL_law_39 (by omega) (by omega) (by rw [v3]; rfl) (by decide) ?_
      exact lw_take F0' KE y_take hn5 h3 hc1 hc2 hx0 hl hP hD hS
    by_cases v4 : v.toInt = 4
    · refine lv_tableIn (off := 305) (tgt := 344) hx hb dL_law_39 (by omega) (by omega) (by rw [v4]; rfl) (by decide) ?_
      exact lw_reap F0' KE y_reap hn5 h3 hc1 hc2 hx0 hl hP hD hS
    by_cases v5 : v.toInt = 5
    · refine lv_tableIn (off := 361) (tgt := 400) hx hb dL_law_39 (by omega) (by omega) (by rw [v5]; rfl) (by decide) ?_
      exact lw_pack F0' KE y_pack hn5 h3 hc1 hc2 hx0 hl hP hD hS
    by_cases v6 : v.toInt = 6
    · refine lv_tableIn (off := 417) (tgt := 456) hx hb dL_law_39 (by omega) (by omega) (by rw [v6]; rfl) (by decide) ?_
      exact lw_shelf F0' KE y_shelf hn5 h3 hc1 hc2 hx0 hl hP hD hS
    by_cases v7 : v.toInt = 7
    · refine lv_tableIn (off := 485) (tgt := 524) hx hb dL_law_39 (by omega) (by omega) (by rw [v7]; rfl) (by decide) ?_
      exact lw_about F0' KE y_about hn5 h3 hc1 hc2 hx0 hl hP hD hS
    by_cases v8 : v.toInt = 8
    · refine lv_tableIn (off := 553) (tgt := 592) hx hb dL_law_39 (by omega) (by omega) (by rw [v8]; rfl) (by decide) ?_
      exact lw_place F0' KE y_place hn5 h3 hc1 hc2 hx0 hl hP hD hS
    by_cases v9 : v.toInt = 9
    · refine lv_tableIn (off := 621) (tgt := 660) hx hb dL_law_39 (by omega) (by omega) (by rw [v9]; rfl) (by decide) ?_
      exact lw_count F0' KE y_count hn5 h3 hc1 hc2 hx0 hl hP hD hS
    by_cases v10 : v.toInt = 10
    · refine lv_tableIn (off := 677) (tgt := 716) hx hb dL_law_39 (by omega) (by omega) (by rw [v10]; rfl) (by decide) ?_
      exact lw_next F0' KE y_next hn5 h3 hc1 hc2 hx0 hl hP hD hS
    by_cases v11 : v.toInt = 11
    · refine lv_tableIn (off := 733) (tgt := 772) hx hb dL_law_39 (by omega) (by omega) (by rw [v11]; rfl) (by decide) ?_
      exact lw_fits F0' KE y_fits hn5 h3 hc1 hc2 hx0 hl hP hD hS
    by_cases v12 : v.toInt = 12
    · refine lv_tableIn (off := 789) (tgt := 828) hx hb dL_law_39 (by omega) (by omega) (by rw [v12]; rfl) (by decide) ?_
      exact lw_would F0' KE y_would hn5 h3 hc1 hc2 hx0 hl hP hD hS
    by_cases v13 : v.toInt = 13
    · refine lv_tableIn (off := 857) (tgt := 896) hx hb dL_law_39 (by omega) (by omega) (by rw [v13]; rfl) (by decide) ?_
      exact lw_gains F0' KE y_gains hn5 h3 hc1 hc2 hx0 hl hP hD hS
    by_cases v14 : v.toInt = 14
    · refine lv_tableIn (off := 913) (tgt := 952) hx hb dL_law_39 (by omega) (by omega) (by rw [v14]; rfl) (by decide) ?_
      exact lw_advise F0' KE y_advise hn5 h3 hc1 hc2 hx0 hl hP hD hS
    by_cases v15 : v.toInt = 15
    · refine lv_tableIn (off := 926) (tgt := 965) hx hb dL_law_39 (by omega) (by omega) (by rw [v15]; rfl) (by decide) ?_
      exact lw_mean F0' KE y_mean hn5 h3 hc1 hc2 hx0 hl hP hD hS
    by_cases v16 : v.toInt = 16
    · refine lv_tableIn (off := 967) (tgt := 1006) hx hb dL_law_39 (by omega) (by omega) (by rw [v16]; rfl) (by decide) ?_
      exact lw_digest F0' KE y_digest hn5 h3 hc1 hc2 hx0 hl hP hD hS
    refine lv_tableOut (tgt := 1020) hx hb dL_law_39 (by omega) (by decide) ?_
    exact KE cells slots a k mm g H locs ls (by omega) (by omega) hx0 (hR1 n k mm hn5 hR) hl hP hD hS
end LL2
