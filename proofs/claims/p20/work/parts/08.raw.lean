def R_X0_countShelf (k : KSt) (j : Nat) : Option (KSt) := if (kK (kKs k 4 j ((kK k 4 j) + (1 : Int32))) 3 j) ≤ (kK (kKs k 4 j ((kK k 4 j) + (1 : Int32))) 5 j) then some (kKs (kKs k 4 j ((kK k 4 j) + (1 : Int32))) 5 j (0 : Int32)) else some (kKs (kKs k 4 j ((kK k 4 j) + (1 : Int32))) 5 j ((kK (kKs k 4 j ((kK k 4 j) + (1 : Int32))) 5 j) + (1 : Int32)))

def R_X0_shelvesFor (k : KSt) (j : Nat) (p1 : Int32) : Option (Int32) := if (1 : Int32) ≤ (kK k 2 j) then if ¬ (kK k 2 j) = 0 then some (((p1 + (kK k 2 j)) - (1 : Int32)) / (kK k 2 j)) else none else some (0 : Int32)

def R_X1_standsOn (k : KSt) (i : Nat) (p1 : Int32) : Option (Int32) := if p1 < 0 then some (0 : Int32) else if (12 : Int32) ≤ p1 then some (0 : Int32) else if inb p1 12 = true then if (kB k i (p1.toNatClampNeg)) = 0 then some (0 : Int32) else some (1 : Int32) else none

def R_X1_firstGap_L2 (k : KSt) (i : Nat) : Nat → Int32 → Option (Int32)
  | 0, _ => none
  | n + 1, x1_2 => if (kS k 4 i) ≤ x1_2 then some (-1 : Int32) else (R_X1_standsOn k i x1_2).bind fun v12 => if ¬ v12 = 0 then R_X1_firstGap_L2 k i n (x1_2 + (1 : Int32)) else some x1_2
def R_X1_firstGap (k : KSt) (i : Nat) : Option (Int32) := R_X1_firstGap_L2 k i FU (0 : Int32)

def R_X1_answer (k : KSt) (i : Nat) (p1 : Int32) : Option (Int32) := if p1 = 0 then some (kS k 2 i) else if p1 = 1 then some (kS k 6 i) else if p1 = 2 then some (kS k 5 i) else if p1 = 3 then some (kS k 4 i) else if p1 = 4 then (R_X1_firstGap k i).bind fun v57 => some v57 else some (kS k 7 i)

def R_X1_state (k : KSt) (i : Nat) : Option (Int32) := if ¬ (kS k 2 i) = (-1 : Int32) then if ¬ (kS k 6 i) = 0 then if (kS k 4 i) ≤ (kS k 6 i) then some (3 : Int32) else some (2 : Int32) else some (1 : Int32) else some (0 : Int32)

def R_X1_isOf (k : KSt) (i : Nat) (j1 : Nat) : Option (Int32) := if ¬ (kS k 2 i) = (nI j1) then some (0 : Int32) else some (1 : Int32)

def R_X1_comeTo (k : KSt) (i : Nat) (j1 : Nat) : Option (KSt) := (R_X0_countShelf (kSs (kSs (kSs (kSs k 2 i (nI j1)) 3 i (kK (kSs k 2 i (nI j1)) 1 j1)) 4 i (kK (kSs (kSs k 2 i (nI j1)) 3 i (kK (kSs k 2 i (nI j1)) 1 j1)) 2 j1)) 5 i (kK (kSs (kSs (kSs k 2 i (nI j1)) 3 i (kK (kSs k 2 i (nI j1)) 1 j1)) 4 i (kK (kSs (kSs k 2 i (nI j1)) 3 i (kK (kSs k 2 i (nI j1)) 1 j1)) 2 j1)) 5 j1)) j1).bind fun v33 => some v33

def R_X1_becomeFree (k : KSt) (i : Nat) : Option (KSt) := some (kSs (kSs (kSs (kSs (kSs k 2 i (-1 : Int32)) 3 i (0 : Int32)) 4 i (0 : Int32)) 5 i (0 : Int32)) 7 i (-1 : Int32))

def R_X1_addBowl (k : KSt) (i : Nat) (p1 : Int32) : Option (KSt) := if p1 < 0 then some k else if (12 : Int32) ≤ p1 then some k else if inb p1 12 = true then some (kSs (kSs (kBs k i (upd (kB k i) (p1.toNatClampNeg) (vp_nar .boolean (1 : Int32)))) 6 i ((kS (kBs k i (upd (kB k i) (p1.toNatClampNeg) (vp_nar .boolean (1 : Int32)))) 6 i) + (1 : Int32))) 7 i (-1 : Int32)) else none

def R_X1_removeBowl (k : KSt) (i : Nat) (p1 : Int32) (p2 : Int32) : Option (KSt) := if p1 < 0 then some k else if (12 : Int32) ≤ p1 then some k else if inb p1 12 = true then if ¬ (kS (kSs (kBs k i (upd (kB k i) (p1.toNatClampNeg) (vp_nar .boolean (0 : Int32)))) 6 i ((kS (kBs k i (upd (kB k i) (p1.toNatClampNeg) (vp_nar .boolean (0 : Int32)))) 6 i) - (1 : Int32))) 6 i) = 0 then some (kSs (kSs (kBs k i (upd (kB k i) (p1.toNatClampNeg) (vp_nar .boolean (0 : Int32)))) 6 i ((kS (kBs k i (upd (kB k i) (p1.toNatClampNeg) (vp_nar .boolean (0 : Int32)))) 6 i) - (1 : Int32))) 7 i (-1 : Int32)) else some (kSs (kSs (kBs k i (upd (kB k i) (p1.toNatClampNeg) (vp_nar .boolean (0 : Int32)))) 6 i ((kS (kBs k i (upd (kB k i) (p1.toNatClampNeg) (vp_nar .boolean (0 : Int32)))) 6 i) - (1 : Int32))) 7 i p2) else none

def R_X1_lastBowl_L7 (k : KSt) (i : Nat) : Nat → Int32 → Option (Int32)
  | 0, _ => none
  | n + 1, x1_7 => if x1_7 < 0 then some (-1 : Int32) else (R_X1_standsOn k i x1_7).bind fun v13 => if v13 = 0 then R_X1_lastBowl_L7 k i n (x1_7 + (-1 : Int32)) else some x1_7
def R_X1_lastBowl (k : KSt) (i : Nat) : Option (Int32) := R_X1_lastBowl_L7 k i FU ((kS k 4 i) - (1 : Int32))

def R_X1_beginOf (k : KSt) (i : Nat) (p1 : Int32) : Option (Int32) := some (((nI (24 * i)) + (kS k 5 i)) + (p1 * (kS k 3 i)))

def R_X1_placeAt (k : KSt) (i : Nat) (p1 : Int32) : Option (Int32) := if (kS k 3 i) < (1 : Int32) then some (-1 : Int32) else if ((p1 - (nI (24 * i))) - (kS k 5 i)) < 0 then some (-1 : Int32) else if ((p1 - (nI (24 * i))) - (kS k 5 i)) < ((kS k 4 i) * (kS k 3 i)) then if ¬ (kS k 3 i) = 0 then some (((p1 - (nI (24 * i))) - (kS k 5 i)) / (kS k 3 i)) else none else some (-1 : Int32)

def R_X2_setWay (k : KSt) (p1 : Int32) : Option (Except String (Int32 × KSt)) := if p1 < 0 then some (.error "java/lang/IndexOutOfBoundsException") else if p1 ≤ (2 : Int32) then some (.ok ((kG k 1), (kGs k 1 p1))) else some (.error "java/lang/IndexOutOfBoundsException")

def R_X2_kindOf (k : KSt) (p1 : Int32) : Option (Except String (Nat)) := if p1 < 0 then some (.error "java/lang/IndexOutOfBoundsException") else if (5 : Int32) ≤ p1 then some (.error "java/lang/IndexOutOfBoundsException") else if inb p1 5 = true then Option.elim (knd k (p1.toNatClampNeg)) (some (.error "java/lang/IndexOutOfBoundsException")) (fun j19 => if j19 < kN k then if inb p1 5 = true then some (.ok j19) else none else none) else none

def R_X2_mostBowls_L16 (k : KSt) (j1 : Nat) (o2 : Option Nat) : Nat → Option Nat → Int32 → Option (Option Nat)
  | 0, _, _ => none
  | n + 1, x3_16, x6_16 => if (12 : Int32) ≤ x6_16 then some x3_16 else if inb x6_16 12 = true then if (some (x6_16.toNatClampNeg) : Option Nat) = o2 then R_X2_mostBowls_L16 k j1 o2 n x3_16 (x6_16 + (1 : Int32)) else (R_X1_isOf k (x6_16.toNatClampNeg) j1).bind fun v39 => if v39 = 0 then R_X2_mostBowls_L16 k j1 o2 n x3_16 (x6_16 + (1 : Int32)) else (R_X1_state k (x6_16.toNatClampNeg)).bind fun v47 => if ¬ v47 = (2 : Int32) then R_X2_mostBowls_L16 k j1 o2 n x3_16 (x6_16 + (1 : Int32)) else Option.elim x3_16 (R_X2_mostBowls_L16 k j1 o2 n (some (x6_16.toNatClampNeg)) (x6_16 + (1 : Int32))) (fun j55 => if j55 < 12 then if (kS k 6 (x6_16.toNatClampNeg)) ≤ (kS k 6 j55) then R_X2_mostBowls_L16 k j1 o2 n (some j55) (x6_16 + (1 : Int32)) else R_X2_mostBowls_L16 k j1 o2 n (some (x6_16.toNatClampNeg)) (x6_16 + (1 : Int32)) else none) else none
def R_X2_mostBowls (k : KSt) (j1 : Nat) (o2 : Option Nat) : Option (Option Nat) := R_X2_mostBowls_L16 k j1 o2 FU none (0 : Int32)

def R_X2_fewestBowls_L14 (k : KSt) (j1 : Nat) : Nat → Option Nat → Int32 → Option (Option Nat)
  | 0, _, _ => none
  | n + 1, x2_14, x5_14 => if (12 : Int32) ≤ x5_14 then some x2_14 else if inb x5_14 12 = true then (R_X1_isOf k (x5_14.toNatClampNeg) j1).bind fun v30 => if v30 = 0 then R_X2_fewestBowls_L14 k j1 n x2_14 (x5_14 + (1 : Int32)) else (R_X1_state k (x5_14.toNatClampNeg)).bind fun v38 => if ¬ v38 = (2 : Int32) then R_X2_fewestBowls_L14 k j1 n x2_14 (x5_14 + (1 : Int32)) else Option.elim x2_14 (R_X2_fewestBowls_L14 k j1 n (some (x5_14.toNatClampNeg)) (x5_14 + (1 : Int32))) (fun j46 => if j46 < 12 then if (kS k 6 j46) ≤ (kS k 6 (x5_14.toNatClampNeg)) then R_X2_fewestBowls_L14 k j1 n (some j46) (x5_14 + (1 : Int32)) else R_X2_fewestBowls_L14 k j1 n (some (x5_14.toNatClampNeg)) (x5_14 + (1 : Int32)) else none) else none
def R_X2_fewestBowls (k : KSt) (j1 : Nat) : Option (Option Nat) := R_X2_fewestBowls_L14 k j1 FU none (0 : Int32)

def R_X2_firstInState_L12 (k : KSt) (j1 : Nat) (p2 : Int32) : Nat → Int32 → Option (Option Nat)
  | 0, _ => none
  | n + 1, x5_12 => if (12 : Int32) ≤ x5_12 then some none else if inb x5_12 12 = true then (R_X1_isOf k (x5_12.toNatClampNeg) j1).bind fun v28 => if v28 = 0 then R_X2_firstInState_L12 k j1 p2 n (x5_12 + (1 : Int32)) else (R_X1_state k (x5_12.toNatClampNeg)).bind fun v36 => if ¬ v36 = p2 then R_X2_firstInState_L12 k j1 p2 n (x5_12 + (1 : Int32)) else some (some (x5_12.toNatClampNeg)) else none
def R_X2_firstInState (k : KSt) (j1 : Nat) (p2 : Int32) : Option (Option Nat) := R_X2_firstInState_L12 k j1 p2 FU (0 : Int32)

def R_X2_inUseByWay (k : KSt) (j1 : Nat) : Option (Option Nat) := if (kG k 1) = 1 then (R_X2_mostBowls k j1 none).bind fun v35 => some v35 else if (kG k 1) = 2 then (R_X2_fewestBowls k j1).bind fun v41 => some v41 else (R_X2_firstInState k j1 (2 : Int32)).bind fun v48 => some v48

def R_X2_firstFree_L10 (k : KSt) : Nat → Int32 → Option (Option Nat)
  | 0, _ => none
  | n + 1, x3_10 => if (12 : Int32) ≤ x3_10 then some none else if inb x3_10 12 = true then (R_X1_state k (x3_10.toNatClampNeg)).bind fun v22 => if ¬ v22 = 0 then R_X2_firstFree_L10 k n (x3_10 + (1 : Int32)) else some (some (x3_10.toNatClampNeg)) else none
def R_X2_firstFree (k : KSt) : Option (Option Nat) := R_X2_firstFree_L10 k FU (0 : Int32)

def R_X2_shelfToPut (k : KSt) (j1 : Nat) : Option (Option Nat) := (R_X2_inUseByWay k j1).bind fun v2 => Option.elim v2 ((R_X2_firstInState k j1 (1 : Int32)).bind fun v13 => Option.elim v13 ((R_X2_firstFree k).bind fun v22 => some v22) (fun j18 => if j18 < 12 then some (some j18) else none)) (fun j7 => if j7 < 12 then some (some j7) else none)

def R_X2_put (k : KSt) (p1 : Int32) : Option (Except String (Int32 × KSt)) := xb (R_X2_kindOf k p1) fun v2 => if v2 < kN k then (R_X2_shelfToPut k v2).bind fun v8 => Option.elim v8 (some (.error "java/lang/IllegalStateException")) (fun j13 => if j13 < 12 then (R_X1_state k j13).bind fun v27 => if ¬ v27 = 0 then (R_X1_firstGap k j13).bind fun v39 => (R_X1_addBowl k j13 v39).bind fun v47 => (R_X1_beginOf (kGs (kGs v47 2 ((kG v47 2) + (1 : Int32))) 3 ((kG (kGs v47 2 ((kG v47 2) + (1 : Int32))) 3) + (1 : Int32))) j13 v39).bind fun v73 => some (.ok (v73, (kGs (kGs v47 2 ((kG v47 2) + (1 : Int32))) 3 ((kG (kGs v47 2 ((kG v47 2) + (1 : Int32))) 3) + (1 : Int32))))) else (R_X1_comeTo k j13 v2).bind fun v35 => (R_X1_firstGap v35 j13).bind fun v39 => (R_X1_addBowl v35 j13 v39).bind fun v47 => (R_X1_beginOf (kGs (kGs v47 2 ((kG v47 2) + (1 : Int32))) 3 ((kG (kGs v47 2 ((kG v47 2) + (1 : Int32))) 3) + (1 : Int32))) j13 v39).bind fun v73 => some (.ok (v73, (kGs (kGs v47 2 ((kG v47 2) + (1 : Int32))) 3 ((kG (kGs v47 2 ((kG v47 2) + (1 : Int32))) 3) + (1 : Int32))))) else none) else none

def R_X2_shelfAt (k : KSt) (p1 : Int32) : Option (Except String (Nat)) := if p1 < 0 then some (.error "java/lang/IndexOutOfBoundsException") else if p1 < (288 : Int32) then if inb (p1 / (24 : Int32)) 12 = true then some (.ok ((p1 / (24 : Int32)).toNatClampNeg)) else none else some (.error "java/lang/IndexOutOfBoundsException")

def R_X2_take (k : KSt) (p1 : Int32) : Option (Except String (Int32 × KSt)) := xb (R_X2_shelfAt k p1) fun v2 => if v2 < 12 then (R_X1_placeAt k v2 p1).bind fun v8 => (R_X1_standsOn k v2 v8).bind fun v14 => if v14 = 0 then some (.error "java/lang/IllegalArgumentException") else (R_X1_beginOf k v2 v8).bind fun v22 => if v22 = p1 then (R_X1_removeBowl (kGs k 2 ((kG k 2) + (1 : Int32))) v2 v8 (kG (kGs k 2 ((kG k 2) + (1 : Int32))) 2)).bind fun v55 => some (.ok ((kS v55 6 v2), v55)) else some (.error "java/lang/IllegalArgumentException") else none

def R_X2_reap_L34 (p1 : Int32) : Nat → KSt → Int32 → Int32 → Option (Except String (Int32 × KSt))
  | 0, _, _, _ => none
  | n + 1, k, x2_34, x5_34 => if (12 : Int32) ≤ x5_34 then some (.ok (x2_34, k)) else if inb x5_34 12 = true then (R_X1_state k (x5_34.toNatClampNeg)).bind fun v49 => if ¬ v49 = (1 : Int32) then R_X2_reap_L34 p1 n k x2_34 (x5_34 + (1 : Int32)) else if ((kG k 2) - (kS k 7 (x5_34.toNatClampNeg))) < p1 then R_X2_reap_L34 p1 n k x2_34 (x5_34 + (1 : Int32)) else (R_X1_becomeFree k (x5_34.toNatClampNeg)).bind fun v72 => R_X2_reap_L34 p1 n v72 (x2_34 + (1 : Int32)) (x5_34 + (1 : Int32)) else none
def R_X2_reap (k : KSt) (p1 : Int32) : Option (Except String (Int32 × KSt)) := if p1 < 0 then some (.error "java/lang/IllegalArgumentException") else if p1 ≤ (99 : Int32) then R_X2_reap_L34 p1 FU k (0 : Int32) (0 : Int32) else some (.error "java/lang/IllegalArgumentException")

def R_X2_lastFewestBowls_L14 (k : KSt) (j1 : Nat) : Nat → Option Nat → Int32 → Option (Option Nat)
  | 0, _, _ => none
  | n + 1, x2_14, x5_14 => if (12 : Int32) ≤ x5_14 then some x2_14 else if inb x5_14 12 = true then (R_X1_isOf k (x5_14.toNatClampNeg) j1).bind fun v30 => if v30 = 0 then R_X2_lastFewestBowls_L14 k j1 n x2_14 (x5_14 + (1 : Int32)) else (R_X1_state k (x5_14.toNatClampNeg)).bind fun v38 => if ¬ v38 = (2 : Int32) then R_X2_lastFewestBowls_L14 k j1 n x2_14 (x5_14 + (1 : Int32)) else Option.elim x2_14 (R_X2_lastFewestBowls_L14 k j1 n (some (x5_14.toNatClampNeg)) (x5_14 + (1 : Int32))) (fun j46 => if j46 < 12 then if (kS k 6 j46) < (kS k 6 (x5_14.toNatClampNeg)) then R_X2_lastFewestBowls_L14 k j1 n (some j46) (x5_14 + (1 : Int32)) else R_X2_lastFewestBowls_L14 k j1 n (some (x5_14.toNatClampNeg)) (x5_14 + (1 : Int32)) else none) else none
def R_X2_lastFewestBowls (k : KSt) (j1 : Nat) : Option (Option Nat) := R_X2_lastFewestBowls_L14 k j1 FU none (0 : Int32)

def R_X2_moveToPack (k : KSt) (j1 : Nat) : Option (Int32 × KSt) := (R_X2_lastFewestBowls k j1).bind fun v2 => if obn v2 12 = true then (R_X2_mostBowls k j1 v2).bind fun v9 => Option.elim v2 (some ((0 : Int32), k)) (fun j14 => if j14 < 12 then Option.elim v9 (some ((0 : Int32), k)) (fun j18 => if j18 < 12 then (R_X1_lastBowl k j14).bind fun v25 => (R_X1_removeBowl k j14 v25 (kG k 2)).bind fun v32 => (R_X1_firstGap v32 j18).bind fun v37 => (R_X1_addBowl v32 j18 v37).bind fun v40 => some ((1 : Int32), v40) else none) else none) else none

def R_X2_pack_L8 (v2 : Nat) : Nat → KSt → Int32 → Option (Except String (Int32 × KSt))
  | 0, _, _ => none
  | n + 1, k, x3_8 => if v2 < kN k then if (1000 : Int32) ≤ x3_8 then some (.ok (x3_8, (kGs k 4 ((kG k 4) + x3_8)))) else (R_X2_moveToPack k v2).bind fun v17 => if v17.1 = 0 then some (.ok (x3_8, (kGs v17.2 4 ((kG v17.2 4) + x3_8)))) else R_X2_pack_L8 v2 n v17.2 (x3_8 + (1 : Int32)) else none
def R_X2_pack (k : KSt) (p1 : Int32) : Option (Except String (Int32 × KSt)) := xb (R_X2_kindOf k p1) fun v2 => if v2 < kN k then R_X2_pack_L8 v2 FU k (0 : Int32) else none

def R_X2_requireAnswer (p0 : Int32) (p1 : Int32) : Option (Except String (Unit)) := if p0 < 0 then some (.error "java/lang/IndexOutOfBoundsException") else if p0 < p1 then some (.ok ()) else some (.error "java/lang/IndexOutOfBoundsException")

def R_X2_shelf (k : KSt) (p1 : Int32) (p2 : Int32) : Option (Except String (Int32)) := if p1 < 0 then some (.error "java/lang/IndexOutOfBoundsException") else if p1 < (12 : Int32) then xb (R_X2_requireAnswer p2 (6 : Int32)) fun v26 => if inb p1 12 = true then (R_X1_answer k (p1.toNatClampNeg) p2).bind fun v36 => some (.ok v36) else none else some (.error "java/lang/IndexOutOfBoundsException")

def R_X2_shelvesOf_L14 (k : KSt) (j1 : Nat) : Nat → Int32 → Int32 → Option (Int32)
  | 0, _, _ => none
  | n + 1, x2_14, x5_14 => if (12 : Int32) ≤ x5_14 then some x2_14 else if inb x5_14 12 = true then (R_X1_isOf k (x5_14.toNatClampNeg) j1).bind fun v30 => if v30 = 0 then R_X2_shelvesOf_L14 k j1 n x2_14 (x5_14 + (1 : Int32)) else R_X2_shelvesOf_L14 k j1 n (x2_14 + (1 : Int32)) (x5_14 + (1 : Int32)) else none
def R_X2_shelvesOf (k : KSt) (j1 : Nat) : Option (Int32) := R_X2_shelvesOf_L14 k j1 FU (0 : Int32) (0 : Int32)

def R_X2_shelvesInState_L16 (k : KSt) (j1 : Nat) (p2 : Int32) : Nat → Int32 → Int32 → Option (Int32)
  | 0, _, _ => none
  | n + 1, x3_16, x6_16 => if (12 : Int32) ≤ x6_16 then some x3_16 else if inb x6_16 12 = true then (R_X1_isOf k (x6_16.toNatClampNeg) j1).bind fun v33 => if v33 = 0 then R_X2_shelvesInState_L16 k j1 p2 n x3_16 (x6_16 + (1 : Int32)) else (R_X1_state k (x6_16.toNatClampNeg)).bind fun v41 => if ¬ v41 = p2 then R_X2_shelvesInState_L16 k j1 p2 n x3_16 (x6_16 + (1 : Int32)) else R_X2_shelvesInState_L16 k j1 p2 n (x3_16 + (1 : Int32)) (x6_16 + (1 : Int32)) else none
def R_X2_shelvesInState (k : KSt) (j1 : Nat) (p2 : Int32) : Option (Int32) := R_X2_shelvesInState_L16 k j1 p2 FU (0 : Int32) (0 : Int32)

def R_X2_bowlsOf_L14 (k : KSt) (j1 : Nat) : Nat → Int32 → Int32 → Option (Int32)
  | 0, _, _ => none
  | n + 1, x2_14, x5_14 => if (12 : Int32) ≤ x5_14 then some x2_14 else if inb x5_14 12 = true then (R_X1_isOf k (x5_14.toNatClampNeg) j1).bind fun v30 => if v30 = 0 then R_X2_bowlsOf_L14 k j1 n x2_14 (x5_14 + (1 : Int32)) else R_X2_bowlsOf_L14 k j1 n (x2_14 + (kS k 6 (x5_14.toNatClampNeg))) (x5_14 + (1 : Int32)) else none
def R_X2_bowlsOf (k : KSt) (j1 : Nat) : Option (Int32) := R_X2_bowlsOf_L14 k j1 FU (0 : Int32) (0 : Int32)

def R_X2_answerAbout (k : KSt) (j1 : Nat) (p2 : Int32) : Option (Int32) := if p2 = 0 then some (kK k 1 j1) else if p2 = 1 then some (kK k 2 j1) else if p2 = 2 then some (kK k 3 j1) else if p2 = 3 then (R_X2_shelvesOf k j1).bind fun v65 => some v65 else if p2 = 4 then (R_X2_shelvesInState k j1 (3 : Int32)).bind fun v72 => some v72 else if p2 = 5 then (R_X2_shelvesInState k j1 (2 : Int32)).bind fun v79 => some v79 else if p2 = 6 then (R_X2_shelvesInState k j1 (1 : Int32)).bind fun v86 => some v86 else if p2 = 7 then (R_X2_bowlsOf k j1).bind fun v92 => some v92 else some (kK k 4 j1)

def R_X2_about (k : KSt) (p1 : Int32) (p2 : Int32) : Option (Except String (Int32)) := xb (R_X2_kindOf k p1) fun v2 => if v2 < kN k then xb (R_X2_requireAnswer p2 (9 : Int32)) fun v9 => (R_X2_answerAbout k v2 p2).bind fun v15 => some (.ok v15) else none

def R_X2_place (k : KSt) (p1 : Int32) (p2 : Int32) : Option (Except String (Int32)) := xb (R_X2_shelfAt k p1) fun v2 => if v2 < 12 then xb (R_X2_requireAnswer p2 (4 : Int32)) fun v8 => (R_X1_placeAt k v2 p1).bind fun v13 => if ¬ v13 = (-1 : Int32) then if p2 = 0 then some (.ok (kS k 2 v2)) else if p2 = 1 then some (.ok v13) else if p2 = 2 then (R_X1_standsOn k v2 v13).bind fun v63 => if v63 = 0 then some (.ok (0 : Int32)) else some (.ok (1 : Int32)) else (R_X1_beginOf k v2 v13).bind fun v78 => some (.ok v78) else some (.ok (-1 : Int32)) else none

def R_X2_freeShelves_L13 (k : KSt) : Nat → Int32 → Int32 → Option (Int32)
  | 0, _, _ => none
  | n + 1, x1_13, x4_13 => if (12 : Int32) ≤ x4_13 then some x1_13 else if inb x4_13 12 = true then (R_X1_state k (x4_13.toNatClampNeg)).bind fun v27 => if ¬ v27 = 0 then R_X2_freeShelves_L13 k n x1_13 (x4_13 + (1 : Int32)) else R_X2_freeShelves_L13 k n (x1_13 + (1 : Int32)) (x4_13 + (1 : Int32)) else none
def R_X2_freeShelves (k : KSt) : Option (Int32) := R_X2_freeShelves_L13 k FU (0 : Int32) (0 : Int32)

def R_X2_bowlsInAll_L13 (k : KSt) : Nat → Int32 → Int32 → Option (Int32)
  | 0, _, _ => none
  | n + 1, x1_13, x4_13 => if (12 : Int32) ≤ x4_13 then some x1_13 else if inb x4_13 12 = true then R_X2_bowlsInAll_L13 k n (x1_13 + (kS k 6 (x4_13.toNatClampNeg))) (x4_13 + (1 : Int32)) else none
def R_X2_bowlsInAll (k : KSt) : Option (Int32) := R_X2_bowlsInAll_L13 k FU (0 : Int32) (0 : Int32)

def R_X2_spansUnderBowls_L13 (k : KSt) : Nat → Int32 → Int32 → Option (Int32)
  | 0, _, _ => none
  | n + 1, x1_13, x4_13 => if (12 : Int32) ≤ x4_13 then some x1_13 else if inb x4_13 12 = true then R_X2_spansUnderBowls_L13 k n (x1_13 + ((kS k 6 (x4_13.toNatClampNeg)) * (kS k 3 (x4_13.toNatClampNeg)))) (x4_13 + (1 : Int32)) else none
def R_X2_spansUnderBowls (k : KSt) : Option (Int32) := R_X2_spansUnderBowls_L13 k FU (0 : Int32) (0 : Int32)

def R_X2_takenShelves (k : KSt) : Option (Int32) := (R_X2_freeShelves k).bind fun v3 => some ((12 : Int32) - v3)

def R_X2_spansOfNoPlace_L13 (k : KSt) : Nat → Int32 → Int32 → Option (Int32)
  | 0, _, _ => none
  | n + 1, x1_13, x4_13 => if (12 : Int32) ≤ x4_13 then some x1_13 else if inb x4_13 12 = true then (R_X1_state k (x4_13.toNatClampNeg)).bind fun v27 => if v27 = 0 then R_X2_spansOfNoPlace_L13 k n x1_13 (x4_13 + (1 : Int32)) else R_X2_spansOfNoPlace_L13 k n (x1_13 + ((24 : Int32) - ((kS k 4 (x4_13.toNatClampNeg)) * (kS k 3 (x4_13.toNatClampNeg))))) (x4_13 + (1 : Int32)) else none
def R_X2_spansOfNoPlace (k : KSt) : Option (Int32) := R_X2_spansOfNoPlace_L13 k FU (0 : Int32) (0 : Int32)

def R_X2_count (k : KSt) (p1 : Int32) : Option (Except String (Int32)) := xb (R_X2_requireAnswer p1 (10 : Int32)) fun v3 => if p1 = 0 then some (.ok (kG k 2)) else if p1 = 1 then some (.ok (kG k 0)) else if p1 = 2 then (R_X2_freeShelves k).bind fun v67 => some (.ok v67) else if p1 = 3 then (R_X2_bowlsInAll k).bind fun v72 => some (.ok v72) else if p1 = 4 then (R_X2_spansUnderBowls k).bind fun v77 => some (.ok v77) else if p1 = 5 then (R_X2_takenShelves k).bind fun v82 => (R_X2_spansUnderBowls k).bind fun v89 => some (.ok ((v82 * (24 : Int32)) - v89)) else if p1 = 6 then (R_X2_spansOfNoPlace k).bind fun v95 => some (.ok v95) else if p1 = 7 then some (.ok (kG k 3)) else if p1 = 8 then some (.ok (kG k 4)) else some (.ok (kG k 1))

def R_X2_nextSpot (k : KSt) (j1 : Nat) : Option (Int32) := (R_X2_shelfToPut k j1).bind fun v2 => Option.elim v2 (some (-1 : Int32)) (fun j7 => if j7 < 12 then (R_X1_state k j7).bind fun v13 => if ¬ v13 = 0 then (R_X1_firstGap k j7).bind fun v31 => (R_X1_beginOf k j7 v31).bind fun v34 => some v34 else some ((nI (24 * j7)) + (kK k 5 j1)) else none)

def R_X2_next (k : KSt) (p1 : Int32) : Option (Except String (Int32)) := xb (R_X2_kindOf k p1) fun v3 => if v3 < kN k then (R_X2_nextSpot k v3).bind fun v6 => some (.ok v6) else none

def R_X2_gapsOf (k : KSt) (j1 : Nat) : Option (Int32) := (R_X2_shelvesOf k j1).bind fun v2 => (R_X2_bowlsOf k j1).bind fun v12 => some ((v2 * (kK k 2 j1)) - v12)

def R_X2_fits (k : KSt) (p1 : Int32) : Option (Except String (Int32)) := xb (R_X2_kindOf k p1) fun v2 => if v2 < kN k then (R_X2_gapsOf k v2).bind fun v8 => (R_X2_freeShelves k).bind fun v12 => some (.ok (v8 + (v12 * (kK k 2 v2)))) else none

def R_X2_would (k : KSt) (p1 : Int32) (p2 : Int32) : Option (Except String (Int32)) := xb (R_X2_kindOf k p1) fun v2 => if v2 < kN k then if p2 < (1 : Int32) then some (.error "java/lang/IllegalArgumentException") else if p2 ≤ (150 : Int32) then (R_X2_gapsOf k v2).bind fun v31 => if 0 < (p2 - v31) then (R_X0_shelvesFor k v2 (p2 - v31)).bind fun v47 => (R_X2_freeShelves k).bind fun v55 => if v47 ≤ v55 then some (.ok v47) else some (.ok (-1 : Int32)) else some (.ok (0 : Int32)) else some (.error "java/lang/IllegalArgumentException") else none

def R_X2_gainsOf_L18 (k : KSt) (j1 : Nat) : Nat → Int32 → Int32 → Int32 → Option (Int32)
  | 0, _, _, _ => none
  | n + 1, x2_18, x3_18, x6_18 => if (12 : Int32) ≤ x6_18 then (R_X0_shelvesFor k j1 x2_18).bind fun v70 => some (x3_18 - v70) else if inb x6_18 12 = true then (R_X1_isOf k (x6_18.toNatClampNeg) j1).bind fun v35 => if v35 = 0 then R_X2_gainsOf_L18 k j1 n x2_18 x3_18 (x6_18 + (1 : Int32)) else (R_X1_state k (x6_18.toNatClampNeg)).bind fun v43 => if ¬ v43 = (2 : Int32) then R_X2_gainsOf_L18 k j1 n x2_18 x3_18 (x6_18 + (1 : Int32)) else R_X2_gainsOf_L18 k j1 n (x2_18 + (kS k 6 (x6_18.toNatClampNeg))) (x3_18 + (1 : Int32)) (x6_18 + (1 : Int32)) else none
def R_X2_gainsOf (k : KSt) (j1 : Nat) : Option (Int32) := R_X2_gainsOf_L18 k j1 FU (0 : Int32) (0 : Int32) (0 : Int32)

def R_X2_gains (k : KSt) (p1 : Int32) : Option (Except String (Int32)) := xb (R_X2_kindOf k p1) fun v3 => if v3 < kN k then (R_X2_gainsOf k v3).bind fun v6 => some (.ok v6) else none

def R_X2_advise_L16 (k : KSt) : Nat → Int32 → Int32 → Int32 → Option (Int32)
  | 0, _, _, _ => none
  | n + 1, x1_16, x2_16, x5_16 => if (5 : Int32) ≤ x5_16 then some x1_16 else if inb x5_16 5 = true then Option.elim (knd k (x5_16.toNatClampNeg)) (R_X2_advise_L16 k n x1_16 x2_16 (x5_16 + (1 : Int32))) (fun j31 => if j31 < kN k then (R_X2_gainsOf k j31).bind fun v37 => if v37 ≤ x2_16 then R_X2_advise_L16 k n x1_16 x2_16 (x5_16 + (1 : Int32)) else (R_X2_gainsOf k j31).bind fun v53 => R_X2_advise_L16 k n (nI j31) v53 (x5_16 + (1 : Int32)) else none) else none
def R_X2_advise (k : KSt) : Option (Int32) := R_X2_advise_L16 k FU (-1 : Int32) (-1 : Int32) (0 : Int32)

def R_X2_mean (k : KSt) : Option (UInt64) := (R_X2_takenShelves k).bind fun v1 => if ¬ v1 = 0 then (R_X2_bowlsInAll k).bind fun v12 => if n64b (FP.ddiv (FP.i2d v12) (FP.i2d v1)) = true then some (FP.ddiv (FP.i2d v12) (FP.i2d v1)) else none else some FP.dconst0

def R_X2_mixed (p0 : Int64) (p2 : Int64) : Option (Int64) := some ((p0 * (31 : Int64)) + p2)

def R_X2_mixedWithShelf_L33 (k : KSt) (i2 : Nat) : Nat → Int64 → Int32 → Option (Int64)
  | 0, _, _ => none
  | n + 1, x3_33, x5_33 => if (kS k 4 i2) ≤ x5_33 then some x3_33 else (R_X1_standsOn k i2 x5_33).bind fun v46 => if v46 = 0 then (R_X2_mixed x3_33 (0 : Int64)).bind fun v57 => R_X2_mixedWithShelf_L33 k i2 n v57 (x5_33 + (1 : Int32)) else (R_X2_mixed x3_33 (1 : Int64)).bind fun v57 => R_X2_mixedWithShelf_L33 k i2 n v57 (x5_33 + (1 : Int32))
def R_X2_mixedWithShelf_L5 (k : KSt) (i2 : Nat) : Nat → Int64 → Int32 → Option (Int64)
  | 0, _, _ => none
  | n + 1, x3_5, x5_5 => if (6 : Int32) ≤ x5_5 then R_X2_mixedWithShelf_L33 k i2 FU x3_5 (0 : Int32) else (R_X1_answer k i2 x5_5).bind fun v16 => (R_X2_mixed x3_5 v16.toInt64).bind fun v20 => R_X2_mixedWithShelf_L5 k i2 n v20 (x5_5 + (1 : Int32))
def R_X2_mixedWithShelf (k : KSt) (p0 : Int64) (i2 : Nat) : Option (Int64) := R_X2_mixedWithShelf_L5 k i2 FU p0 (0 : Int32)

def R_X2_mixedWithKind_L6 (k : KSt) (j3 : Nat) : Nat → Int64 → Int32 → Option (Int64)
  | 0, _, _ => none
  | n + 1, x4_6, x6_6 => if (9 : Int32) ≤ x6_6 then (R_X2_nextSpot k j3).bind fun v38 => (R_X2_mixed x4_6 v38.toInt64).bind fun v42 => some v42 else (R_X2_answerAbout k j3 x6_6).bind fun v19 => (R_X2_mixed x4_6 v19.toInt64).bind fun v23 => R_X2_mixedWithKind_L6 k j3 n v23 (x6_6 + (1 : Int32))
def R_X2_mixedWithKind (k : KSt) (p1 : Int64) (j3 : Nat) : Option (Int64) := R_X2_mixedWithKind_L6 k j3 FU p1 (0 : Int32)

def R_X2_digest_L79 (k : KSt) : Nat → Int64 → Int32 → Option (Int64)
  | 0, _, _ => none
  | n + 1, x1_79, x5_79 => if (5 : Int32) ≤ x5_79 then some x1_79 else if inb x5_79 5 = true then Option.elim (knd k (x5_79.toNatClampNeg)) (R_X2_digest_L79 k n x1_79 (x5_79 + (1 : Int32))) (fun j94 => if j94 < kN k then (R_X2_mixedWithKind k x1_79 j94).bind fun v101 => R_X2_digest_L79 k n v101 (x5_79 + (1 : Int32)) else none) else none
def R_X2_digest_L41 (k : KSt) : Nat → Int64 → Int32 → Option (Int64)
  | 0, _, _ => none
  | n + 1, x1_41, x5_41 => if (12 : Int32) ≤ x5_41 then R_X2_digest_L79 k FU x1_41 (0 : Int32) else if inb x5_41 12 = true then (R_X2_mixedWithShelf k x1_41 (x5_41.toNatClampNeg)).bind fun v57 => R_X2_digest_L41 k n v57 (x5_41 + (1 : Int32)) else none
def R_X2_digest_L6 (k : KSt) : Nat → Int64 → Int32 → Option (Int64)
  | 0, _, _ => none
  | n + 1, x1_6, x3_6 => if (10 : Int32) ≤ x3_6 then R_X2_digest_L41 k FU x1_6 (0 : Int32) else yb (R_X2_count k x3_6) fun v15 => (R_X2_mixed x1_6 v15.toInt64).bind fun v19 => R_X2_digest_L6 k n v19 (x3_6 + (1 : Int32))
def R_X2_digest (k : KSt) : Option (Int64) := R_X2_digest_L6 k FU (1733 : Int64) (0 : Int32)
