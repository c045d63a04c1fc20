/-! Pure functions of the reference, and of the class's methods that the law does not reach: words alone, nothing is said of the machine. -/
def fX2_forgetAll (σ : St) : Option St :=
  nm (su σ 1 0 0) fun σ1 => some σ1
def fX2_drafted (σ : St) : Option Nat :=
  gd (okI (σ 1 2) 9) <| some (3 + (σ 1 2).toNatClampNeg)
def fX2_takeBackInto (h : Nat) (σ : St) : Option St :=
  if (σ 1 0) ≤ 0 then (some σ) else (nm (su σ 1 0 ((σ 1 0) - 1)) fun σ2 => nm (su σ2 1 2 (jrem (((σ2 1 2) + 9) - 1) 9)) fun σ3 => gd (okI (σ3 1 2) 9) <| bd (fX1_takeFrom h (3 + (σ3 1 2).toNatClampNeg) σ3) fun r6 => some r6)
def fX5_add (σ : St) (a1 : Int32) : Option (Int32 × St) :=
  if (σ 3 0) < (60 : Int32) then (gd (okI (σ 3 0) 60) <| nm (su σ 4 (σ 3 0).toNatClampNeg (vp_nar .char a1)) fun σ3 => nm (su σ3 3 0 ((σ3 3 0) + 1)) fun σ4 => some (1, σ4)) else (some (0, σ))
def fX5_empty (σ : St) : Option St :=
  nm (su σ 3 0 0) fun σ1 => some σ1
def fX5_rewind (σ : St) : Option St :=
  nm (su σ 3 5 0) fun σ1 => some σ1
def fX5_readSign (σ : St) (a1 : Int32) : Option (Int32 × St) :=
  if (σ 3 0) ≤ (σ 3 5) then (some (0, σ)) else (gd (okI (σ 3 5) 60) <| if (σ 4 (σ 3 5).toNatClampNeg) = a1 then (nm (su σ 3 5 ((σ 3 5) + 1)) fun σ4 => some (1, σ4)) else (some (0, σ)))
def fX5_isDigit (σ : St) (a0 : Int32) : Option Int32 :=
  if a0 < (48 : Int32) then (some (0 : Int32)) else (if (57 : Int32) < a0 then (some (0 : Int32)) else (some (1 : Int32)))
def fX5_readNumber_B69 (σ : St) (x2 : Int32) (x3 : Int32) : Option (Int32 × St) :=
  if x2 = 0 then (some ((-1), σ)) else (some (x3, σ))
def fX5_readNumber_L4 (x1 : Int32) (K4_69 : St → Int32 → Int32 → Option (Int32 × St)) : Nat → St → Int32 → Int32 → Option (Int32 × St)
  | 0, _, _, _ => none
  | n4 + 1, σ, x2, x3 => if x1 ≤ x2 then (K4_69 σ x2 x3) else (if (σ 3 0) ≤ (σ 3 5) then (K4_69 σ x2 x3) else (gd (okI (σ 3 5) 60) <| bd (fX5_isDigit σ (σ 4 (σ 3 5).toNatClampNeg)) fun r5 => if r5 = 0 then (K4_69 σ x2 x3) else (gd (okI (σ 3 5) 60) <| nm (((10 * x3) + (σ 4 (σ 3 5).toNatClampNeg)) - 48) fun v8 => nm (su σ 3 5 ((σ 3 5) + 1)) fun σ9 => nm (x2 + 1) fun v10 => (fX5_readNumber_L4 x1 K4_69 n4) σ9 v10 v8)))
def fX5_readNumber (σ : St) (a1 : Int32) : Option (Int32 × St) :=
  fX5_readNumber_L4 a1 (fun σ y2 y3 => fX5_readNumber_B69 σ y2 y3) 1000 σ 0 0
def fX6_neighbours (σ : St) (a1 : Int32) : Option Int32 :=
  bd (fX1_hasPier 0 σ a1) fun r1 => if r1 = 0 then (some (-11 : Int32)) else (bd (fX0_neighboursOf 0 σ a1) fun r3 => some r3)
def fX6_wouldMove (σ : St) (a1 : Int32) : Option (Int32 × St) :=
  if a1 < (1 : Int32) then (some ((-12), σ)) else (if a1 ≤ (5 : Int32) then (if (σ 33 4) = (8 : Int32) then (some ((-13), σ)) else (bd (fX1_takeFrom 1 0 σ) fun r4 => bd (fX1_addPier 1 r4 a1) fun r5 => bd (fX0_build 1 1 r5) fun r6 => bd (fX4_homesUnlike 0 1 r6) fun r7 => some (r7, r6))) else (some ((-12), σ)))
def fX6_wouldClose (σ : St) (a1 : Int32) : Option (Int32 × St) :=
  bd (fX1_hasPier 0 σ a1) fun r1 => if r1 = 0 then (some ((-11), σ)) else (gd (okI a1 8) <| if (σ 35 a1.toNatClampNeg) = 0 then (some ((-15), σ)) else (bd (fX6_supposeClosed σ a1) fun r5 => bd (fX4_homesUnlike 0 1 r5) fun r6 => some (r6, r5)))
def fX6_append (σ : St) (a1 : Int32) : Option (Int32 × St) :=
  if a1 < (32 : Int32) then (some ((-12), σ)) else (if a1 ≤ (126 : Int32) then (bd (fX5_add σ (((a1).toUInt32 % 65536).toInt32)) fun r3 => if r3.1 = 0 then (some ((-13), r3.2)) else (some ((r3.2 3 0), r3.2))) else (some ((-12), σ)))
def fX6_reason (σ : St) (a1 : Int32) : Option Int32 :=
  if a1 = 0 then (some (σ 0 10)) else (some (σ 0 11))
def fX6_settleAnew (σ : St) : Option St :=
  bd (fX0_build 0 0 σ) fun r1 => bd (fX4_settle 0 0 r1) fun r2 => some r2
def fX6_undo (σ : St) : Option (Int32 × St) :=
  if (σ 1 0) = 0 then (some ((-15), σ)) else (bd (fX2_takeBackInto 0 σ) fun r2 => bd (fX6_settleAnew r2) fun r3 => some ((r3 1 0), r3))
def fX6_save (σ : St) : Option (Int32 × St) :=
  bd (fX1_takeFrom 2 0 σ) fun r1 => nm (su r1 0 9 1) fun σ2 => some ((σ2 33 5), σ2)
def fX6_restore (σ : St) : Option (Int32 × St) :=
  if (σ 0 9) = 0 then (some ((-15), σ)) else (bd (fX1_takeFrom 0 2 σ) fun r2 => bd (fX2_forgetAll r2) fun r3 => bd (fX6_settleAnew r3) fun r4 => some ((r4 33 5), r4))
def fX6_carryOut (σ : St) : Option (Int32 × St) :=
  if (σ 3 1) = 0 then (bd (fX6_joinPier σ (σ 3 2)) fun r2 => some (r2.1, r2.2)) else (if (σ 3 1) = 1 then (bd (fX6_setOpened σ (σ 3 2) 0) fun r4 => some (r4.1, r4.2)) else (if (σ 3 1) = 2 then (bd (fX6_setOpened σ (σ 3 2) 1) fun r6 => some (r6.1, r6.2)) else (if (σ 3 1) = 3 then (bd (fX6_setBerths σ (σ 3 2) (σ 3 3)) fun r8 => some (r8.1, r8.2)) else (if (σ 3 1) = 4 then (bd (fX6_letCome σ (σ 3 2) (σ 3 3)) fun r10 => some (r10.1, r10.2)) else (if (σ 3 1) = 5 then (bd (fX6_letGo σ (σ 3 2)) fun r12 => some (r12.1, r12.2)) else (if (σ 3 1) = 6 then (bd (fX6_setTons σ (σ 3 2) (σ 3 3)) fun r14 => some (r14.1, r14.2)) else (bd (fX6_setBerthTons σ (σ 3 2)) fun r15 => some (r15.1, r15.2))))))))
def fX7_in (σ : St) (a0 : Int32) (a1 : Int32) (a2 : Int32) : Option Int32 :=
  if a0 < a1 then (some (0 : Int32)) else (if a2 < a0 then (some (0 : Int32)) else (some (1 : Int32)))
def fX7_copies_B36 (σ : St) : Option St :=
  some σ
def fX7_copies_L2 (x1 : Int32) (x2 : Int32) (K2_36 : St → Option St) : Nat → St → Int32 → Option St
  | 0, _, _ => none
  | n2 + 1, σ, x3 => if (68 : Int32) ≤ x3 then (K2_36 σ) else (gd (okI ((68 * x1) + x3) 816) <| gd (okI ((68 * x2) + x3) 816) <| nm (su σ 1 ((68 * x2) + x3).toNatClampNeg (σ 1 ((68 * x1) + x3).toNatClampNeg)) fun σ4 => nm (x3 + 1) fun v5 => (fX7_copies_L2 x1 x2 K2_36 n2) σ4 v5)
def fX7_copies (σ : St) (a1 : Int32) (a2 : Int32) : Option St :=
  fX7_copies_L2 a1 a2 (fun σ => fX7_copies_B36 σ) 1000 σ 0
def fX7_begins (σ : St) : Option St :=
  bd (fX7_copies σ 0 10) fun r1 => some r1
def fX7_ends_B61 (σ : St) (x1 : Int32) : Option (Int32 × St) :=
  nm (su σ 0 1 ((σ 0 1) + 1)) fun σ1 => bd (fX7_copies σ1 10 (σ1 0 1)) fun r2 => some (x1, r2)
def fX7_ends_B51 (σ : St) (x1 : Int32) : Option (Int32 × St) :=
  nm (su σ 0 1 ((σ 0 1) - 1)) fun σ3 => fX7_ends_B61 σ3 x1
def fX7_ends_L31 (K31_51 : St → Option (Int32 × St)) : Nat → St → Int32 → Option (Int32 × St)
  | 0, _, _ => none
  | n31 + 1, σ, x2 => if (8 : Int32) ≤ x2 then (K31_51 σ) else (bd (fX7_copies σ (x2 + 1) x2) fun r5 => nm (x2 + 1) fun v6 => (fX7_ends_L31 K31_51 n31) r5 v6)
def fX7_ends (σ : St) (a1 : Int32) : Option (Int32 × St) :=
  bd (fX7_in σ a1 (-15) (-11)) fun r7 => if r7 = 0 then (if (σ 0 1) = (8 : Int32) then (fX7_ends_L31 (fun σ => fX7_ends_B51 σ a1) 1000 σ 1) else (fX7_ends_B61 σ a1)) else (bd (fX7_copies σ 10 0) fun r10 => some (a1, r10))
def fX7_refuses (σ : St) (a1 : Int32) (a2 : Int32) : Option (Int32 × St) :=
  nm (su σ 0 3 a1) fun σ1 => nm (su σ1 0 4 a2) fun σ2 => some ((-14), σ2)
def fX7_reason (σ : St) (a1 : Int32) : Option Int32 :=
  if (σ 0 3) = 0 then (some (-15 : Int32)) else (if a1 = 0 then (some (σ 0 3)) else (some (σ 0 4)))
def fX7_p (σ : St) (a1 : Int32) (a2 : Int32) : Option Int32 :=
  gd (okI ((4 + (2 * a1)) + a2) 816) <| some (σ 1 ((4 + (2 * a1)) + a2).toNatClampNeg)
def fX7_b (σ : St) (a1 : Int32) (a2 : Int32) : Option Int32 :=
  gd (okI ((20 + (2 * a1)) + a2) 816) <| some (σ 1 ((20 + (2 * a1)) + a2).toNatClampNeg)
def fX7_isPier (σ : St) (a1 : Int32) : Option Int32 :=
  bd (fX7_in σ a1 0 ((σ 1 (0 : Int32).toNatClampNeg) - 1)) fun r1 => gd (okB r1) <| some r1
def fX7_isBarge (σ : St) (a1 : Int32) : Option Int32 :=
  bd (fX7_in σ a1 0 ((σ 1 (1 : Int32).toNatClampNeg) - 1)) fun r1 => gd (okB r1) <| some r1
def fX7_isOpen (σ : St) (a1 : Int32) : Option Int32 :=
  bd (fX7_p σ a1 1) fun r1 => if r1 = (1 : Int32) then (some (1 : Int32)) else (some (0 : Int32))
def fX7_pointOf (σ : St) (a0 : Int32) (a1 : Int32) : Option Int32 :=
  some ((8 * (jrem ((17 * a0) + (7 * a1)) 45)) + a0)
def fX7_points (σ : St) (a1 : Int32) : Option Int32 :=
  bd (fX7_isOpen σ a1) fun r1 => if r1 = 0 then (some (0 : Int32)) else (bd (fX7_p σ a1 0) fun r3 => some (2 * r3))
def fX7_room (σ : St) (a1 : Int32) : Option Int32 :=
  bd (fX7_isOpen σ a1) fun r1 => if r1 = 0 then (some (0 : Int32)) else (bd (fX7_p σ a1 0) fun r3 => some (r3 * (σ 1 (2 : Int32).toNatClampNeg)))
def fX7_placeOf (σ : St) (a0 : Int32) : Option Int32 :=
  some (jrem ((37 * a0) + 11) 360)
def fX7_laysRing_B132 (σ : St) : Option St :=
  some σ
def fX7_laysRing_L79 (K79_132 : St → Option St) : Nat → St → Int32 → Int32 → Option St
  | 0, _, _, _ => none
  | n79 + 1, σ, x1, x2 => if x2 < 0 then (K79_132 σ) else (gd (okI (jrem x2 360) 360) <| if (σ 2 (jrem x2 360).toNatClampNeg) = (-1 : Int32) then (gd (okI (jrem x2 360) 360) <| nm (su σ 3 (jrem x2 360).toNatClampNeg x1) fun σ10 => nm (x2 + (-1)) fun v11 => (fX7_laysRing_L79 K79_132 n79) σ10 x1 v11) else (gd (okI (jrem x2 360) 360) <| nm (jrem (σ 2 (jrem x2 360).toNatClampNeg) 8) fun v5 => gd (okI (jrem x2 360) 360) <| nm (su σ 3 (jrem x2 360).toNatClampNeg v5) fun σ7 => nm (x2 + (-1)) fun v8 => (fX7_laysRing_L79 K79_132 n79) σ7 v5 v8))
def fX7_laysRing_B73 (σ : St) : Option St :=
  fX7_laysRing_L79 (fun σ => fX7_laysRing_B132 σ) 1000 σ (-1) 719
def fX7_laysRing_B67 (G24 : St → Int32 → Option St) (K24_73 : St → Option St) (σ : St) (x1 : Int32) : Option St :=
  nm (x1 + 1) fun v12 => G24 σ v12
def fX7_laysRing_L36 (x1 : Int32) (K36_67 : St → Option St) : Nat → St → Int32 → Option St
  | 0, _, _ => none
  | n36 + 1, σ, x2 => bd (fX7_points σ x1) fun r13 => if r13 ≤ x2 then (K36_67 σ) else (bd (fX7_pointOf σ x1 x2) fun r15 => gd (okI r15 360) <| nm (su σ 2 r15.toNatClampNeg ((8 * x2) + x1)) fun σ17 => nm (x2 + 1) fun v18 => (fX7_laysRing_L36 x1 K36_67 n36) σ17 v18)
def fX7_laysRing_L24 (K24_73 : St → Option St) : Nat → St → Int32 → Option St
  | 0, _, _ => none
  | n24 + 1, σ, x1 => if (σ 1 (0 : Int32).toNatClampNeg) ≤ x1 then (K24_73 σ) else (fX7_laysRing_L36 x1 (fun σ => fX7_laysRing_B67 (fX7_laysRing_L24 K24_73 n24) K24_73 σ x1) 1000 σ 0)
def fX7_laysRing_B22 (σ : St) : Option St :=
  fX7_laysRing_L24 (fun σ => fX7_laysRing_B73 σ) 1000 σ 0
def fX7_laysRing_L2 (K2_22 : St → Option St) : Nat → St → Int32 → Option St
  | 0, _, _ => none
  | n2 + 1, σ, x1 => if (360 : Int32) ≤ x1 then (K2_22 σ) else (gd (okI x1 360) <| nm (su σ 2 x1.toNatClampNeg (-1)) fun σ22 => nm (x1 + 1) fun v23 => (fX7_laysRing_L2 K2_22 n2) σ22 v23)
def fX7_laysRing (σ : St) : Option St :=
  fX7_laysRing_L2 (fun σ => fX7_laysRing_B22 σ) 1000 σ 0
def fX7_homeAt (σ : St) (a1 : Int32) : Option Int32 :=
  bd (fX7_b σ a1 0) fun r1 => bd (fX7_placeOf σ r1) fun r2 => gd (okI r2 360) <| some (σ 3 r2.toNatClampNeg)
def fX7_looksAtHomes_B33 (σ : St) : Option St :=
  some σ
def fX7_looksAtHomes_L6 (K6_33 : St → Option St) : Nat → St → Int32 → Option St
  | 0, _, _ => none
  | n6 + 1, σ, x1 => if (σ 1 (1 : Int32).toNatClampNeg) ≤ x1 then (K6_33 σ) else (bd (fX7_homeAt σ x1) fun r2 => gd (okI x1 24) <| nm (su σ 4 x1.toNatClampNeg r2) fun σ4 => nm (x1 + 1) fun v5 => (fX7_looksAtHomes_L6 K6_33 n6) σ4 v5)
def fX7_looksAtHomes (σ : St) : Option St :=
  bd (fX7_laysRing σ) fun r6 => fX7_looksAtHomes_L6 (fun σ => fX7_looksAtHomes_B33 σ) 1000 r6 0
def fX7_moved_B46 (σ : St) (x1 : Int32) : Option (Int32 × St) :=
  some (x1, σ)
def fX7_moved_L8 (K8_46 : St → Int32 → Option (Int32 × St)) : Nat → St → Int32 → Int32 → Option (Int32 × St)
  | 0, _, _, _ => none
  | n8 + 1, σ, x1, x2 => if (σ 1 (1 : Int32).toNatClampNeg) ≤ x2 then (K8_46 σ x1) else (bd (fX7_homeAt σ x2) fun r2 => gd (okI x2 24) <| if r2 = (σ 4 x2.toNatClampNeg) then (nm (x1 + 0) fun v7 => nm (x2 + 1) fun v8 => (fX7_moved_L8 K8_46 n8) σ v7 v8) else (nm (x1 + 1) fun v5 => nm (x2 + 1) fun v6 => (fX7_moved_L8 K8_46 n8) σ v5 v6))
def fX7_moved (σ : St) : Option (Int32 × St) :=
  bd (fX7_laysRing σ) fun r9 => fX7_moved_L8 (fun σ y1 => fX7_moved_B46 σ y1) 1000 r9 0 0
def fX7_moves (σ : St) : Option (Int32 × St) :=
  bd (fX7_moved σ) fun r1 => nm (su r1.2 1 (3 : Int32).toNatClampNeg ((r1.2 1 (3 : Int32).toNatClampNeg) + r1.1)) fun σ2 => some (r1.1, σ2)
def fX7_joins (σ : St) (a1 : Int32) : Option (Int32 × St) :=
  bd (fX7_in σ a1 1 5) fun r1 => if r1 = 0 then (some ((-12), σ)) else (nm (σ 1 (0 : Int32).toNatClampNeg) fun v3 => if v3 = (8 : Int32) then (bd (fX7_refuses σ 1 8) fun r12 => some (r12.1, r12.2)) else (bd (fX7_looksAtHomes σ) fun r5 => gd (okI ((4 + (2 * v3)) + 0) 816) <| nm (su r5 1 ((4 + (2 * v3)) + 0).toNatClampNeg a1) fun σ7 => gd (okI ((4 + (2 * v3)) + 1) 816) <| nm (su σ7 1 ((4 + (2 * v3)) + 1).toNatClampNeg 1) fun σ9 => nm (su σ9 1 (0 : Int32).toNatClampNeg ((σ9 1 (0 : Int32).toNatClampNeg) + 1)) fun σ10 => bd (fX7_moves σ10) fun r11 => some (v3, r11.2)))
def fX7_pier (σ : St) (a1 : Int32) : Option (Int32 × St) :=
  bd (fX7_begins σ) fun r1 => bd (fX7_joins r1 a1) fun r2 => bd (fX7_ends r2.2 r2.1) fun r3 => some (r3.1, r3.2)
def fX7_turns (σ : St) (a1 : Int32) (a2 : Int32) : Option (Int32 × St) :=
  bd (fX7_isPier σ a1) fun r1 => if r1 = 0 then (some ((-11), σ)) else (bd (fX7_p σ a1 1) fun r3 => if r3 = a2 then (bd (fX7_refuses σ 3 a1) fun r9 => some (r9.1, r9.2)) else (bd (fX7_looksAtHomes σ) fun r5 => gd (okI ((4 + (2 * a1)) + 1) 816) <| nm (su r5 1 ((4 + (2 * a1)) + 1).toNatClampNeg a2) fun σ7 => bd (fX7_moves σ7) fun r8 => some (r8.1, r8.2)))
def fX7_close (σ : St) (a1 : Int32) : Option (Int32 × St) :=
  bd (fX7_begins σ) fun r1 => bd (fX7_turns r1 a1 0) fun r2 => bd (fX7_ends r2.2 r2.1) fun r3 => some (r3.1, r3.2)
def fX7_open (σ : St) (a1 : Int32) : Option (Int32 × St) :=
  bd (fX7_begins σ) fun r1 => bd (fX7_turns r1 a1 1) fun r2 => bd (fX7_ends r2.2 r2.1) fun r3 => some (r3.1, r3.2)
def fX7_weighs (σ : St) (a1 : Int32) (a2 : Int32) : Option (Int32 × St) :=
  bd (fX7_isPier σ a1) fun r1 => if r1 = 0 then (some ((-11), σ)) else (bd (fX7_in σ a2 1 5) fun r3 => if r3 = 0 then (some ((-12), σ)) else (bd (fX7_p σ a1 0) fun r5 => if r5 = a2 then (bd (fX7_refuses σ 3 a2) fun r11 => some (r11.1, r11.2)) else (bd (fX7_looksAtHomes σ) fun r7 => gd (okI ((4 + (2 * a1)) + 0) 816) <| nm (su r7 1 ((4 + (2 * a1)) + 0).toNatClampNeg a2) fun σ9 => bd (fX7_moves σ9) fun r10 => some (r10.1, r10.2))))
def fX7_weigh (σ : St) (a1 : Int32) (a2 : Int32) : Option (Int32 × St) :=
  bd (fX7_begins σ) fun r1 => bd (fX7_weighs r1 a1 a2) fun r2 => bd (fX7_ends r2.2 r2.1) fun r3 => some (r3.1, r3.2)
def fX7_bears (σ : St) (a1 : Int32) : Option (Int32 × St) :=
  bd (fX7_in σ a1 10 200) fun r1 => if r1 = 0 then (some ((-12), σ)) else (nm (σ 1 (2 : Int32).toNatClampNeg) fun v3 => if v3 = a1 then (bd (fX7_refuses σ 3 a1) fun r6 => some (r6.1, r6.2)) else (nm (su σ 1 (2 : Int32).toNatClampNeg a1) fun σ5 => some (v3, σ5)))
def fX7_berth (σ : St) (a1 : Int32) : Option (Int32 × St) :=
  bd (fX7_begins σ) fun r1 => bd (fX7_bears r1 a1) fun r2 => bd (fX7_ends r2.2 r2.1) fun r3 => some (r3.1, r3.2)
def fX7_bargeWith_B30 (σ : St) : Option Int32 :=
  some (-1 : Int32)
def fX7_bargeWith_L2 (σ : St) (x1 : Int32) (K2_30 : Option Int32) : Nat → Int32 → Option Int32
  | 0, _ => none
  | n2 + 1, x2 => if (σ 1 (1 : Int32).toNatClampNeg) ≤ x2 then (K2_30) else (bd (fX7_b σ x2 0) fun r2 => if r2 = x1 then (some x2) else (nm (x2 + 1) fun v4 => (fX7_bargeWith_L2 σ x1 K2_30 n2) v4))
def fX7_bargeWith (σ : St) (a1 : Int32) : Option Int32 :=
  fX7_bargeWith_L2 σ a1 (fX7_bargeWith_B30 σ) 1000 0
def fX7_comes (σ : St) (a1 : Int32) (a2 : Int32) : Option (Int32 × St) :=
  bd (fX7_in σ a1 0 9999) fun r1 => if r1 = 0 then (some ((-12), σ)) else (bd (fX7_in σ a2 1 99) fun r3 => if r3 = 0 then (some ((-12), σ)) else (bd (fX7_bargeWith σ a1) fun r5 => nm (σ 1 (1 : Int32).toNatClampNeg) fun v6 => if r5 = (-1 : Int32) then (if v6 = (24 : Int32) then (bd (fX7_refuses σ 1 24) fun r14 => some (r14.1, r14.2)) else (gd (okI ((20 + (2 * v6)) + 0) 816) <| nm (su σ 1 ((20 + (2 * v6)) + 0).toNatClampNeg a1) fun σ10 => gd (okI ((20 + (2 * v6)) + 1) 816) <| nm (su σ10 1 ((20 + (2 * v6)) + 1).toNatClampNeg a2) fun σ12 => nm (su σ12 1 (1 : Int32).toNatClampNeg ((σ12 1 (1 : Int32).toNatClampNeg) + 1)) fun σ13 => some (v6, σ13))) else (bd (fX7_refuses σ 2 r5) fun r15 => some (r15.1, r15.2))))
def fX7_barge (σ : St) (a1 : Int32) (a2 : Int32) : Option (Int32 × St) :=
  bd (fX7_begins σ) fun r1 => bd (fX7_comes r1 a1 a2) fun r2 => bd (fX7_ends r2.2 r2.1) fun r3 => some (r3.1, r3.2)
def fX7_leaves_B65 (σ : St) (x2 : Int32) : Option (Int32 × St) :=
  gd (okI (20 + (2 * x2)) 816) <| nm (su σ 1 (20 + (2 * x2)).toNatClampNeg 0) fun σ2 => gd (okI ((20 + (2 * x2)) + 1) 816) <| nm (su σ2 1 ((20 + (2 * x2)) + 1).toNatClampNeg 0) fun σ4 => some (x2, σ4)
def fX7_leaves_L32 (x2 : Int32) (K32_65 : St → Option (Int32 × St)) : Nat → St → Int32 → Option (Int32 × St)
  | 0, _, _ => none
  | n32 + 1, σ, x3 => if (2 * x2) ≤ x3 then (K32_65 σ) else (gd (okI ((20 + x3) + 2) 816) <| gd (okI (20 + x3) 816) <| nm (su σ 1 (20 + x3).toNatClampNeg (σ 1 ((20 + x3) + 2).toNatClampNeg)) fun σ8 => nm (x3 + 1) fun v9 => (fX7_leaves_L32 x2 K32_65 n32) σ8 v9)
def fX7_leaves (σ : St) (a1 : Int32) : Option (Int32 × St) :=
  bd (fX7_isBarge σ a1) fun r10 => if r10 = 0 then (some ((-11), σ)) else (nm (su σ 1 (1 : Int32).toNatClampNeg ((σ 1 (1 : Int32).toNatClampNeg) - 1)) fun σ12 => nm (σ12 1 (1 : Int32).toNatClampNeg) fun v13 => nm (2 * a1) fun v14 => fX7_leaves_L32 v13 (fun σ => fX7_leaves_B65 σ v13) 1000 σ12 v14)
def fX7_leave (σ : St) (a1 : Int32) : Option (Int32 × St) :=
  bd (fX7_begins σ) fun r1 => bd (fX7_leaves r1 a1) fun r2 => bd (fX7_ends r2.2 r2.1) fun r3 => some (r3.1, r3.2)
def fX7_loads (σ : St) (a1 : Int32) (a2 : Int32) : Option (Int32 × St) :=
  bd (fX7_isBarge σ a1) fun r1 => if r1 = 0 then (some ((-11), σ)) else (bd (fX7_in σ a2 1 99) fun r3 => if r3 = 0 then (some ((-12), σ)) else (bd (fX7_b σ a1 1) fun r5 => if r5 = a2 then (bd (fX7_refuses σ 3 a2) fun r9 => some (r9.1, r9.2)) else (gd (okI ((20 + (2 * a1)) + 1) 816) <| nm (su σ 1 ((20 + (2 * a1)) + 1).toNatClampNeg a2) fun σ8 => some (r5, σ8))))
def fX7_load (σ : St) (a1 : Int32) (a2 : Int32) : Option (Int32 × St) :=
  bd (fX7_begins σ) fun r1 => bd (fX7_loads r1 a1 a2) fun r2 => bd (fX7_ends r2.2 r2.1) fun r3 => some (r3.1, r3.2)
def fX7_goesAlong_B144 (σ : St) : Option St :=
  some σ
def fX7_goesAlong_L26 (x1 : Int32) (x2 : Int32) (K26_144 : St → Option St) : Nat → St → Int32 → Option St
  | 0, _, _ => none
  | n26 + 1, σ, x3 => if (360 : Int32) ≤ x3 then (K26_144 σ) else (gd (okI x1 24) <| if (σ 5 x1.toNatClampNeg) = (-1 : Int32) then (gd (okI (jrem (x2 + x3) 360) 360) <| nm (σ 2 (jrem (x2 + x3) 360).toNatClampNeg) fun v5 => if v5 = (-1 : Int32) then (nm (x3 + 1) fun v22 => (fX7_goesAlong_L26 x1 x2 K26_144 n26) σ v22) else (gd (okI (jrem v5 8) 8) <| bd (fX7_b σ x1 1) fun r8 => bd (fX7_room σ (jrem v5 8)) fun r9 => if r9 < ((σ 7 (jrem v5 8).toNatClampNeg) + r8) then (gd (okI x1 24) <| gd (okI x1 24) <| nm (su σ 6 x1.toNatClampNeg ((σ 6 x1.toNatClampNeg) + 1)) fun σ13 => nm (x3 + 1) fun v14 => (fX7_goesAlong_L26 x1 x2 K26_144 n26) σ13 v14) else (gd (okI x1 24) <| nm (su σ 5 x1.toNatClampNeg (jrem v5 8)) fun σ16 => gd (okI (jrem v5 8) 8) <| bd (fX7_b σ16 x1 1) fun r18 => gd (okI (jrem v5 8) 8) <| nm (su σ16 7 (jrem v5 8).toNatClampNeg ((σ16 7 (jrem v5 8).toNatClampNeg) + r18)) fun σ20 => nm (x3 + 1) fun v21 => (fX7_goesAlong_L26 x1 x2 K26_144 n26) σ20 v21))) else (K26_144 σ))
def fX7_goesAlong (σ : St) (a1 : Int32) : Option St :=
  bd (fX7_b σ a1 0) fun r23 => bd (fX7_placeOf σ r23) fun r24 => gd (okI a1 24) <| nm (su σ 5 a1.toNatClampNeg (-1)) fun σ26 => gd (okI a1 24) <| nm (su σ26 6 a1.toNatClampNeg 0) fun σ28 => fX7_goesAlong_L26 a1 r24 (fun σ => fX7_goesAlong_B144 σ) 1000 σ28 0
def fX7_lays_B48 (σ : St) : Option St :=
  some σ
def fX7_lays_L27 (K27_48 : St → Option St) : Nat → St → Int32 → Option St
  | 0, _, _ => none
  | n27 + 1, σ, x1 => if (σ 1 (1 : Int32).toNatClampNeg) ≤ x1 then (K27_48 σ) else (bd (fX7_goesAlong σ x1) fun r2 => nm (x1 + 1) fun v3 => (fX7_lays_L27 K27_48 n27) r2 v3)
def fX7_lays_B25 (σ : St) : Option St :=
  fX7_lays_L27 (fun σ => fX7_lays_B48 σ) 1000 σ 0
def fX7_lays_L6 (K6_25 : St → Option St) : Nat → St → Int32 → Option St
  | 0, _, _ => none
  | n6 + 1, σ, x1 => if (8 : Int32) ≤ x1 then (K6_25 σ) else (gd (okI x1 8) <| nm (su σ 7 x1.toNatClampNeg 0) fun σ6 => nm (x1 + 1) fun v7 => (fX7_lays_L6 K6_25 n6) σ6 v7)
def fX7_lays (σ : St) : Option St :=
  bd (fX7_laysRing σ) fun r8 => fX7_lays_L6 (fun σ => fX7_lays_B25 σ) 1000 r8 0
def fX7_stretch_B35 (σ : St) (x2 : Int32) : Option Int32 :=
  some x2
def fX7_stretch_L4 (σ : St) (x1 : Int32) (K4_35 : Int32 → Option Int32) : Nat → Int32 → Int32 → Option Int32
  | 0, _, _ => none
  | n4 + 1, x2, x3 => if (360 : Int32) ≤ x3 then (K4_35 x2) else (gd (okI x3 360) <| if (σ 3 x3.toNatClampNeg) = x1 then (nm (x2 + 1) fun v6 => nm (x3 + 1) fun v7 => (fX7_stretch_L4 σ x1 K4_35 n4) v6 v7) else (nm (x2 + 0) fun v4 => nm (x3 + 1) fun v5 => (fX7_stretch_L4 σ x1 K4_35 n4) v4 v5))
def fX7_stretch (σ : St) (a1 : Int32) : Option Int32 :=
  fX7_stretch_L4 σ a1 (fun y2 => fX7_stretch_B35 σ y2) 1000 0 0
def fX7_ofHome_B54 (σ : St) (x3 : Int32) : Option Int32 :=
  some x3
def fX7_ofHome_L5 (σ : St) (x1 : Int32) (x2 : Int32) (K5_54 : Int32 → Option Int32) : Nat → Int32 → Int32 → Option Int32
  | 0, _, _ => none
  | n5 + 1, x3, x4 => if (σ 1 (1 : Int32).toNatClampNeg) ≤ x4 then (K5_54 x3) else (bd (fX7_homeAt σ x4) fun r2 => if r2 = x1 then (if x2 = 0 then (nm (x3 + 1) fun v8 => nm (x4 + 1) fun v9 => (fX7_ofHome_L5 σ x1 x2 K5_54 n5) v8 v9) else (bd (fX7_b σ x4 1) fun r5 => nm (x3 + r5) fun v6 => nm (x4 + 1) fun v7 => (fX7_ofHome_L5 σ x1 x2 K5_54 n5) v6 v7)) else (nm (x3 + 0) fun v10 => nm (x4 + 1) fun v11 => (fX7_ofHome_L5 σ x1 x2 K5_54 n5) v10 v11))
def fX7_ofHome (σ : St) (a1 : Int32) (a2 : Int32) : Option Int32 :=
  fX7_ofHome_L5 σ a1 a2 (fun y3 => fX7_ofHome_B54 σ y3) 1000 0 0
def fX7_lyingAt_B38 (σ : St) (x2 : Int32) : Option Int32 :=
  some x2
def fX7_lyingAt_L4 (σ : St) (x1 : Int32) (K4_38 : Int32 → Option Int32) : Nat → Int32 → Int32 → Option Int32
  | 0, _, _ => none
  | n4 + 1, x2, x3 => if (σ 1 (1 : Int32).toNatClampNeg) ≤ x3 then (K4_38 x2) else (gd (okI x3 24) <| if (σ 5 x3.toNatClampNeg) = x1 then (nm (x2 + 1) fun v6 => nm (x3 + 1) fun v7 => (fX7_lyingAt_L4 σ x1 K4_38 n4) v6 v7) else (nm (x2 + 0) fun v4 => nm (x3 + 1) fun v5 => (fX7_lyingAt_L4 σ x1 K4_38 n4) v4 v5))
def fX7_lyingAt (σ : St) (a1 : Int32) : Option Int32 :=
  fX7_lyingAt_L4 σ a1 (fun y2 => fX7_lyingAt_B38 σ y2) 1000 0 0
def fX7_isHot (σ : St) (a1 : Int32) : Option Int32 :=
  bd (fX7_ofHome σ a1 1) fun r1 => bd (fX7_room σ a1) fun r2 => if r1 ≤ r2 then (some (0 : Int32)) else (some (1 : Int32))
def fX7_pierOf (σ : St) (a1 : Int32) (a2 : Int32) : Option (Int32 × St) :=
  bd (fX7_isPier σ a1) fun r1 => if r1 = 0 then (some ((-11), σ)) else (bd (fX7_lays σ) fun r3 => if a2 = 0 then (bd (fX7_p r3 a1 a2) fun r5 => some (r5, r3)) else (if a2 = 1 then (bd (fX7_p r3 a1 a2) fun r7 => some (r7, r3)) else (if a2 = 2 then (bd (fX7_points r3 a1) fun r9 => some (r9, r3)) else (if a2 = 3 then (bd (fX7_stretch r3 a1) fun r11 => some (r11, r3)) else (if a2 = 4 then (bd (fX7_ofHome r3 a1 (a2 - 4)) fun r13 => some (r13, r3)) else (if a2 = 5 then (bd (fX7_ofHome r3 a1 (a2 - 4)) fun r15 => some (r15, r3)) else (if a2 = 6 then (bd (fX7_lyingAt r3 a1) fun r17 => some (r17, r3)) else (if a2 = 7 then (gd (okI a1 8) <| some ((r3 7 a1.toNatClampNeg), r3)) else (if a2 = 8 then (bd (fX7_room r3 a1) fun r21 => some (r21, r3)) else (if a2 = 9 then (bd (fX7_isHot r3 a1) fun r23 => if r23 = 0 then (some (0, r3)) else (some (1, r3))) else (some ((-12), r3))))))))))))
def fX7_neighbours_B134 (σ : St) (x2 : Int32) : Option (Int32 × St) :=
  some (x2, σ)
def fX7_neighbours_L86 (x1 : Int32) (K86_134 : St → Int32 → Option (Int32 × St)) : Nat → St → Int32 → Int32 → Option (Int32 × St)
  | 0, _, _, _ => none
  | n86 + 1, σ, x2, x3 => if (360 : Int32) ≤ x3 then (K86_134 σ x2) else (gd (okI x3 360) <| if (σ 8 x3.toNatClampNeg) = x1 then (gd (okI x3 360) <| if (σ 3 x3.toNatClampNeg) = (-1 : Int32) then (nm (x2 ||| 0) fun v8 => nm (x3 + 1) fun v9 => (fX7_neighbours_L86 x1 K86_134 n86) σ v8 v9) else (gd (okI x3 360) <| nm (x2 ||| ((1 : Int32) <<< ((σ 3 x3.toNatClampNeg) &&& 31))) fun v11 => nm (x3 + 1) fun v12 => (fX7_neighbours_L86 x1 K86_134 n86) σ v11 v12)) else (nm (x2 ||| 0) fun v4 => nm (x3 + 1) fun v5 => (fX7_neighbours_L86 x1 K86_134 n86) σ v4 v5))
def fX7_neighbours_B52 (σ : St) (x1 : Int32) : Option (Int32 × St) :=
  gd (okI ((4 + (2 * x1)) + 1) 816) <| nm (su σ 1 ((4 + (2 * x1)) + 1).toNatClampNeg 0) fun σ14 => bd (fX7_laysRing σ14) fun r15 => gd (okI ((4 + (2 * x1)) + 1) 816) <| nm (su r15 1 ((4 + (2 * x1)) + 1).toNatClampNeg 1) fun σ17 => fX7_neighbours_L86 x1 (fun σ y2 => fX7_neighbours_B134 σ y2) 1000 σ17 0 0
def fX7_neighbours_L27 (K27_52 : St → Option (Int32 × St)) : Nat → St → Int32 → Option (Int32 × St)
  | 0, _, _ => none
  | n27 + 1, σ, x2 => if (360 : Int32) ≤ x2 then (K27_52 σ) else (gd (okI x2 360) <| gd (okI x2 360) <| nm (su σ 8 x2.toNatClampNeg (σ 3 x2.toNatClampNeg)) fun σ21 => nm (x2 + 1) fun v22 => (fX7_neighbours_L27 K27_52 n27) σ21 v22)
def fX7_neighbours (σ : St) (a1 : Int32) : Option (Int32 × St) :=
  bd (fX7_isPier σ a1) fun r23 => if r23 = 0 then (some ((-11), σ)) else (bd (fX7_isOpen σ a1) fun r25 => if r25 = 0 then (some (0, σ)) else (bd (fX7_laysRing σ) fun r27 => fX7_neighbours_L27 (fun σ => fX7_neighbours_B52 σ a1) 1000 r27 0))
def fX7_bargeOf (σ : St) (a1 : Int32) (a2 : Int32) : Option (Int32 × St) :=
  bd (fX7_isBarge σ a1) fun r1 => if r1 = 0 then (some ((-11), σ)) else (bd (fX7_lays σ) fun r3 => if a2 = 0 then (bd (fX7_b r3 a1 a2) fun r5 => some (r5, r3)) else (if a2 = 1 then (bd (fX7_b r3 a1 a2) fun r7 => some (r7, r3)) else (if a2 = 2 then (bd (fX7_b r3 a1 0) fun r9 => bd (fX7_placeOf r3 r9) fun r10 => some (r10, r3)) else (if a2 = 3 then (gd (okI a1 24) <| if (r3 5 a1.toNatClampNeg) = (-1 : Int32) then (some ((-15), r3)) else (gd (okI a1 24) <| some ((r3 5 a1.toNatClampNeg), r3))) else (if a2 = 4 then (gd (okI a1 24) <| some ((r3 6 a1.toNatClampNeg), r3)) else (some ((-12), r3)))))))
def fX7_homeOf (σ : St) (a1 : Int32) : Option (Int32 × St) :=
  bd (fX7_in σ a1 0 359) fun r1 => if r1 = 0 then (some ((-11), σ)) else (bd (fX7_laysRing σ) fun r3 => gd (okI a1 360) <| if (r3 3 a1.toNatClampNeg) = (-1 : Int32) then (some ((-15), r3)) else (gd (okI a1 360) <| some ((r3 3 a1.toNatClampNeg), r3)))
def fX7_home (σ : St) (a1 : Int32) : Option (Int32 × St) :=
  bd (fX7_isBarge σ a1) fun r1 => if r1 = 0 then (some ((-11), σ)) else (bd (fX7_b σ a1 0) fun r3 => bd (fX7_placeOf σ r3) fun r4 => bd (fX7_homeOf σ r4) fun r5 => some (r5.1, r5.2))
def fX7_homeAgain (σ : St) (a1 : Int32) : Option (Int32 × St) :=
  bd (fX7_home σ a1) fun r1 => some (r1.1, r1.2)
def fX7_puts_B102 (σ : St) (x1 : Int32) (x2 : Int32) (x3 : Int32) : Option St :=
  gd (okI x3 80) <| if (σ 9 x3.toNatClampNeg) ≤ x1 then (gd (okI x3 80) <| nm (su σ 11 x3.toNatClampNeg x2) fun σ4 => some σ4) else (gd (okI x3 80) <| nm (su σ 10 x3.toNatClampNeg x2) fun σ6 => some σ6)
def fX7_puts_L53 (x1 : Int32) (K53_102 : St → Int32 → Option St) : Nat → St → Int32 → Int32 → Option St
  | 0, _, _, _ => none
  | n53 + 1, σ, x3, x4 => if x4 = (-1 : Int32) then (K53_102 σ x3) else (gd (okI x1 360) <| gd (okI x1 360) <| nm (su σ 12 x1.toNatClampNeg ((σ 12 x1.toNatClampNeg) + 1)) fun σ10 => gd (okI x4 80) <| if (σ10 9 x4.toNatClampNeg) ≤ x1 then (gd (okI x4 80) <| nm (σ10 11 x4.toNatClampNeg) fun v14 => (fX7_puts_L53 x1 K53_102 n53) σ10 x4 v14) else (gd (okI x4 80) <| nm (σ10 10 x4.toNatClampNeg) fun v16 => (fX7_puts_L53 x1 K53_102 n53) σ10 x4 v16))
def fX7_puts (σ : St) (a1 : Int32) : Option St :=
  nm (σ 0 16) fun v17 => gd (okI v17 80) <| nm (su σ 9 v17.toNatClampNeg a1) fun σ19 => gd (okI v17 80) <| nm (su σ19 10 v17.toNatClampNeg (-1)) fun σ21 => gd (okI v17 80) <| nm (su σ21 11 v17.toNatClampNeg (-1)) fun σ23 => nm (su σ23 0 16 ((σ23 0 16) + 1)) fun σ24 => gd (okI a1 360) <| nm (su σ24 12 a1.toNatClampNeg 0) fun σ26 => if v17 = 0 then (some σ26) else (fX7_puts_L53 a1 (fun σ y3 => fX7_puts_B102 σ a1 v17 y3) 1000 σ26 0 0)
def fX7_laysTree_B49 (σ : St) : Option St :=
  some σ
def fX7_laysTree_B43 (G7 : St → Int32 → Option St) (K7_49 : St → Option St) (σ : St) (x1 : Int32) : Option St :=
  nm (x1 + 1) fun v1 => G7 σ v1
def fX7_laysTree_L19 (x1 : Int32) (K19_43 : St → Option St) : Nat → St → Int32 → Option St
  | 0, _, _ => none
  | n19 + 1, σ, x2 => bd (fX7_points σ x1) fun r2 => if r2 ≤ x2 then (K19_43 σ) else (bd (fX7_pointOf σ x1 x2) fun r4 => bd (fX7_puts σ r4) fun r5 => nm (x2 + 1) fun v6 => (fX7_laysTree_L19 x1 K19_43 n19) r5 v6)
def fX7_laysTree_L7 (K7_49 : St → Option St) : Nat → St → Int32 → Option St
  | 0, _, _ => none
  | n7 + 1, σ, x1 => if (σ 1 (0 : Int32).toNatClampNeg) ≤ x1 then (K7_49 σ) else (fX7_laysTree_L19 x1 (fun σ => fX7_laysTree_B43 (fX7_laysTree_L7 K7_49 n7) K7_49 σ x1) 1000 σ 0)
def fX7_laysTree (σ : St) : Option St :=
  nm (su σ 0 16 0) fun σ8 => fX7_laysTree_L7 (fun σ => fX7_laysTree_B49 σ) 1000 σ8 0
def fX7_ring_B60 (σ : St) (x2 : Int32) (x3 : Int32) : Option (Int32 × St) :=
  if x3 = (-1 : Int32) then (some ((-11), σ)) else (if x2 = 0 then (some (x3, σ)) else (if x2 = 1 then (gd (okI x3 360) <| some ((jrem (σ 2 x3.toNatClampNeg) 8), σ)) else (if x2 = 2 then (gd (okI x3 360) <| some (((σ 2 x3.toNatClampNeg) / 8), σ)) else (if x2 = 3 then (gd (okI x3 360) <| some ((σ 12 x3.toNatClampNeg), σ)) else (some ((-12), σ))))))
def fX7_ring_L16 (x1 : Int32) (K16_60 : St → Int32 → Option (Int32 × St)) : Nat → St → Int32 → Int32 → Int32 → Option (Int32 × St)
  | 0, _, _, _, _ => none
  | n16 + 1, σ, x3, x4, x5 => if (360 : Int32) ≤ x5 then (K16_60 σ x3) else (gd (okI x5 360) <| if (σ 2 x5.toNatClampNeg) = (-1 : Int32) then (nm (x5 + 1) fun v17 => (fX7_ring_L16 x1 K16_60 n16) σ x3 x4 v17) else (if x4 = x1 then (nm (x4 + 1) fun v15 => nm (x5 + 1) fun v16 => (fX7_ring_L16 x1 K16_60 n16) σ x5 v15 v16) else (nm (x4 + 1) fun v13 => nm (x5 + 1) fun v14 => (fX7_ring_L16 x1 K16_60 n16) σ x3 v13 v14)))
def fX7_ring (σ : St) (a1 : Int32) (a2 : Int32) : Option (Int32 × St) :=
  bd (fX7_laysRing σ) fun r18 => bd (fX7_laysTree r18) fun r19 => fX7_ring_L16 a1 (fun σ y3 => fX7_ring_B60 σ a2 y3) 1000 r19 (-1) 0 0
def fX7_deep_B57 (σ : St) (x1 : Int32) : Option (Int32 × St) :=
  some (x1, σ)
def fX7_deep_L8 (K8_57 : St → Int32 → Option (Int32 × St)) : Nat → St → Int32 → Int32 → Option (Int32 × St)
  | 0, _, _, _ => none
  | n8 + 1, σ, x1, x2 => if (σ 0 16) ≤ x2 then (K8_57 σ x1) else (gd (okI x2 80) <| gd (okI (σ 9 x2.toNatClampNeg) 360) <| if ((σ 12 (σ 9 x2.toNatClampNeg).toNatClampNeg) + 1) ≤ x1 then (nm (x2 + 1) fun v5 => (fX7_deep_L8 K8_57 n8) σ x1 v5) else (gd (okI x2 80) <| gd (okI (σ 9 x2.toNatClampNeg) 360) <| nm ((σ 12 (σ 9 x2.toNatClampNeg).toNatClampNeg) + 1) fun v8 => nm (x2 + 1) fun v9 => (fX7_deep_L8 K8_57 n8) σ v8 v9))
def fX7_deep (σ : St) : Option (Int32 × St) :=
  bd (fX7_laysTree σ) fun r10 => fX7_deep_L8 (fun σ y1 => fX7_deep_B57 σ y1) 1000 r10 0 0
def fX7_wouldMove (σ : St) (a1 : Int32) : Option (Int32 × St) :=
  bd (fX7_in σ a1 1 5) fun r1 => if r1 = 0 then (some ((-12), σ)) else (nm (σ 1 (0 : Int32).toNatClampNeg) fun v3 => if v3 = (8 : Int32) then (some ((-13), σ)) else (bd (fX7_copies σ 0 11) fun r5 => bd (fX7_looksAtHomes r5) fun r6 => gd (okI ((4 + (2 * v3)) + 0) 816) <| nm (su r6 1 ((4 + (2 * v3)) + 0).toNatClampNeg a1) fun σ8 => gd (okI ((4 + (2 * v3)) + 1) 816) <| nm (su σ8 1 ((4 + (2 * v3)) + 1).toNatClampNeg 1) fun σ10 => nm (su σ10 1 (0 : Int32).toNatClampNeg ((σ10 1 (0 : Int32).toNatClampNeg) + 1)) fun σ11 => bd (fX7_moved σ11) fun r12 => bd (fX7_copies r12.2 11 0) fun r13 => some (r12.1, r13)))
def fX7_wouldClose (σ : St) (a1 : Int32) : Option (Int32 × St) :=
  bd (fX7_isPier σ a1) fun r1 => if r1 = 0 then (some ((-11), σ)) else (bd (fX7_isOpen σ a1) fun r3 => if r3 = 0 then (some ((-15), σ)) else (bd (fX7_looksAtHomes σ) fun r5 => gd (okI ((4 + (2 * a1)) + 1) 816) <| nm (su r5 1 ((4 + (2 * a1)) + 1).toNatClampNeg 0) fun σ7 => bd (fX7_moved σ7) fun r8 => gd (okI ((4 + (2 * a1)) + 1) 816) <| nm (su r8.2 1 ((4 + (2 * a1)) + 1).toNatClampNeg 1) fun σ10 => some (r8.1, σ10)))
def fX7_beyond (σ : St) (a1 : Int32) : Option Int32 :=
  bd (fX7_ofHome σ a1 1) fun r1 => bd (fX7_room σ a1) fun r2 => some (r1 - r2)
def fX7_isAhead (σ : St) (a1 : Int32) (a2 : Int32) : Option Int32 :=
  bd (fX7_beyond σ a1) fun r1 => bd (fX7_beyond σ a2) fun r2 => if r1 = r2 then (bd (fX7_p σ a1 0) fun r4 => bd (fX7_p σ a2 0) fun r5 => if r4 < r5 then (some (1 : Int32)) else (bd (fX7_p σ a1 0) fun r7 => bd (fX7_p σ a2 0) fun r8 => if r7 = r8 then (if a2 ≤ a1 then (some (0 : Int32)) else (some (1 : Int32))) else (some (0 : Int32)))) else (bd (fX7_beyond σ a1) fun r11 => bd (fX7_beyond σ a2) fun r12 => if r11 ≤ r12 then (some (0 : Int32)) else (some (1 : Int32)))
def fX7_hottest_B69 (σ : St) : Option (Int32 × St) :=
  some ((-11), σ)
def fX7_hottest_B56 (G6 : St → Int32 → Option (Int32 × St)) (K6_69 : St → Option (Int32 × St)) (σ : St) (x1 : Int32) (x2 : Int32) (x3 : Int32) : Option (Int32 × St) :=
  if x3 = x1 then (some (x2, σ)) else (nm (x2 + 1) fun v2 => G6 σ v2)
def fX7_hottest_L21 (x2 : Int32) (K21_56 : St → Int32 → Option (Int32 × St)) : Nat → St → Int32 → Int32 → Option (Int32 × St)
  | 0, _, _, _ => none
  | n21 + 1, σ, x3, x4 => if (σ 1 (0 : Int32).toNatClampNeg) ≤ x4 then (K21_56 σ x3) else (bd (fX7_isAhead σ x4 x2) fun r4 => if r4 = 0 then (nm (x3 + 0) fun v6 => nm (x4 + 1) fun v7 => (fX7_hottest_L21 x2 K21_56 n21) σ v6 v7) else (nm (x3 + 1) fun v8 => nm (x4 + 1) fun v9 => (fX7_hottest_L21 x2 K21_56 n21) σ v8 v9))
def fX7_hottest_L6 (x1 : Int32) (K6_69 : St → Option (Int32 × St)) : Nat → St → Int32 → Option (Int32 × St)
  | 0, _, _ => none
  | n6 + 1, σ, x2 => if (σ 1 (0 : Int32).toNatClampNeg) ≤ x2 then (K6_69 σ) else (fX7_hottest_L21 x2 (fun σ y3 => fX7_hottest_B56 (fX7_hottest_L6 x1 K6_69 n6) K6_69 σ x1 x2 y3) 1000 σ 0 0)
def fX7_hottest (σ : St) (a1 : Int32) : Option (Int32 × St) :=
  bd (fX7_laysRing σ) fun r11 => fX7_hottest_L6 a1 (fun σ => fX7_hottest_B69 σ) 1000 r11 0
def fX7_append (σ : St) (a1 : Int32) : Option (Int32 × St) :=
  bd (fX7_in σ a1 32 126) fun r1 => if r1 = 0 then (some ((-12), σ)) else (if (σ 0 18) = (60 : Int32) then (some ((-13), σ)) else (gd (okI (σ 0 18) 60) <| nm (su σ 13 (σ 0 18).toNatClampNeg a1) fun σ5 => nm (su σ5 0 18 ((σ5 0 18) + 1)) fun σ6 => some ((σ6 0 18), σ6)))
def fX7_sign (σ : St) : Option Int32 :=
  if (σ 0 18) ≤ (σ 0 19) then (some (-1 : Int32)) else (gd (okI (σ 0 19) 60) <| some (σ 13 (σ 0 19).toNatClampNeg))
def fX7_needs (σ : St) (a1 : Int32) : Option St :=
  if (σ 0 20) < 0 then (bd (fX7_sign σ) fun r2 => if r2 = a1 then (nm (su σ 0 19 ((σ 0 19) + 1)) fun σ4 => some σ4) else (nm (su σ 0 20 (σ 0 19)) fun σ5 => some σ5)) else (some σ)
def fX7_signs (σ : St) (a1 : Int32) (a2 : Int32) (a3 : Int32) : Option St :=
  bd (fX7_needs σ a1) fun r1 => bd (fX7_needs r1 a2) fun r2 => if a3 = 0 then (some r2) else (bd (fX7_needs r2 a3) fun r4 => some r4)
def fX7_number_B91 (σ : St) (x2 : Int32) : Option (Int32 × St) :=
  some (x2, σ)
def fX7_number_L43 (x1 : Int32) (K43_91 : St → Int32 → Option (Int32 × St)) : Nat → St → Int32 → Int32 → Option (Int32 × St)
  | 0, _, _, _ => none
  | n43 + 1, σ, x2, x3 => if x1 ≤ x3 then (K43_91 σ x2) else (bd (fX7_sign σ) fun r2 => bd (fX7_in σ r2 48 57) fun r3 => if r3 = 0 then (K43_91 σ x2) else (bd (fX7_sign σ) fun r5 => nm (((10 * x2) + r5) - 48) fun v6 => nm (su σ 0 19 ((σ 0 19) + 1)) fun σ7 => nm (x3 + 1) fun v8 => (fX7_number_L43 x1 K43_91 n43) σ7 v6 v8))
def fX7_number (σ : St) (a1 : Int32) : Option (Int32 × St) :=
  bd (fX7_needs σ 32) fun r9 => if (r9 0 20) < 0 then (bd (fX7_sign r9) fun r11 => bd (fX7_in r9 r11 48 57) fun r12 => if r12 = 0 then (nm (su r9 0 20 (r9 0 19)) fun σ14 => some (0, σ14)) else (fX7_number_L43 a1 (fun σ y2 => fX7_number_B91 σ y2) 1000 r9 0 0)) else (some (0, r9))
def fX7_word (σ : St) (a1 : Int32) : Option (Int32 × St) :=
  if a1 = 99 then (bd (fX7_signs σ 108 111 115) fun r2 => bd (fX7_needs r2 101) fun r3 => some (a1, r3)) else (if a1 = 103 then (bd (fX7_signs σ 111 110 101) fun r5 => some (a1, r5)) else (if a1 = 108 then (bd (fX7_signs σ 111 97 100) fun r7 => some (a1, r7)) else (if a1 = 111 then (bd (fX7_signs σ 112 101 110) fun r9 => some (a1, r9)) else (if a1 = 112 then (bd (fX7_signs σ 105 101 114) fun r11 => some (a1, r11)) else (if a1 = 119 then (bd (fX7_signs σ 101 105 103) fun r13 => bd (fX7_needs r13 104) fun r14 => some (a1, r14)) else (bd (fX7_sign σ) fun r15 => if r15 = (101 : Int32) then (bd (fX7_signs σ 101 114 116) fun r19 => bd (fX7_needs r19 104) fun r20 => some (116, r20)) else (bd (fX7_signs σ 97 114 103) fun r17 => bd (fX7_needs r17 101) fun r18 => some (98, r18))))))))
def fX7_digitsOf (σ : St) (a0 : Int32) (a1 : Int32) : Option Int32 :=
  if a1 = 0 then (if a0 = (98 : Int32) then (some (4 : Int32)) else (if a0 = (116 : Int32) then (some (3 : Int32)) else (if a0 = (103 : Int32) then (some (2 : Int32)) else (if a0 = (108 : Int32) then (some (2 : Int32)) else (some (1 : Int32)))))) else (if a0 = (119 : Int32) then (some (1 : Int32)) else (if a0 = (98 : Int32) then (some (2 : Int32)) else (if a0 = (108 : Int32) then (some (2 : Int32)) else (some (0 : Int32)))))
def fX7_command_B80 (σ : St) (x1 : Int32) (x2 : Int32) : Option St :=
  nm (su σ 0 19 ((σ 0 19) + 1)) fun σ1 => bd (fX7_word σ1 x2) fun r2 => gd (okI x1 183) <| nm (su r2.2 14 x1.toNatClampNeg r2.1) fun σ4 => gd (okI x1 183) <| bd (fX7_digitsOf σ4 (σ4 14 x1.toNatClampNeg) 0) fun r6 => bd (fX7_number σ4 r6) fun r7 => gd (okI (x1 + 1) 183) <| nm (su r7.2 14 (x1 + 1).toNatClampNeg r7.1) fun σ9 => gd (okI x1 183) <| bd (fX7_digitsOf σ9 (σ9 14 x1.toNatClampNeg) 1) fun r11 => if r11 = 0 then (gd (okI (x1 + 2) 183) <| nm (su σ9 14 (x1 + 2).toNatClampNeg 0) fun σ19 => some σ19) else (gd (okI x1 183) <| bd (fX7_digitsOf σ9 (σ9 14 x1.toNatClampNeg) 1) fun r14 => bd (fX7_number σ9 r14) fun r15 => gd (okI (x1 + 2) 183) <| nm (su r15.2 14 (x1 + 2).toNatClampNeg r15.1) fun σ17 => some σ17)
def fX7_command (σ : St) : Option St :=
  nm (3 * (σ 0 22)) fun v20 => nm (su σ 0 22 ((σ 0 22) + 1)) fun σ21 => bd (fX7_sign σ21) fun r22 => gd (okI v20 183) <| nm (su σ21 14 v20.toNatClampNeg r22) fun σ24 => if r22 = (112 : Int32) then (fX7_command_B80 σ24 v20 r22) else (if r22 = (99 : Int32) then (fX7_command_B80 σ24 v20 r22) else (if r22 = (111 : Int32) then (fX7_command_B80 σ24 v20 r22) else (if r22 = (119 : Int32) then (fX7_command_B80 σ24 v20 r22) else (if r22 = (103 : Int32) then (fX7_command_B80 σ24 v20 r22) else (if r22 = (108 : Int32) then (fX7_command_B80 σ24 v20 r22) else (if r22 = (98 : Int32) then (fX7_command_B80 σ24 v20 r22) else (nm (su σ24 0 20 (σ24 0 19)) fun σ32 => some σ32)))))))
def fX7_parse_B52 (σ : St) : Option St :=
  if 0 ≤ (σ 0 20) then (some σ) else (if (σ 0 18) ≤ (σ 0 19) then (some σ) else (nm (su σ 0 20 (σ 0 19)) fun σ3 => some σ3))
def fX7_parse_L19 (K19_52 : St → Option St) : Nat → St → Option St
  | 0, _ => none
  | n19 + 1, σ => if 0 ≤ (σ 0 20) then (K19_52 σ) else (bd (fX7_sign σ) fun r5 => if r5 = (59 : Int32) then (nm (su σ 0 19 ((σ 0 19) + 1)) fun σ7 => bd (fX7_command σ7) fun r8 => (fX7_parse_L19 K19_52 n19) r8) else (K19_52 σ))
def fX7_parse (σ : St) : Option St :=
  nm (su σ 0 19 0) fun σ9 => nm (su σ9 0 20 (-1)) fun σ10 => nm (su σ10 0 22 0) fun σ11 => bd (fX7_command σ11) fun r12 => fX7_parse_L19 (fun σ => fX7_parse_B52 σ) 1000 r12
def fX7_does (σ : St) (a1 : Int32) : Option (Int32 × St) :=
  gd (okI (a1 + 1) 183) <| nm (σ 14 (a1 + 1).toNatClampNeg) fun v2 => gd (okI (a1 + 2) 183) <| nm (σ 14 (a1 + 2).toNatClampNeg) fun v4 => gd (okI a1 183) <| if (σ 14 a1.toNatClampNeg) = 99 then (bd (fX7_turns σ v2 0) fun r7 => some (r7.1, r7.2)) else (if (σ 14 a1.toNatClampNeg) = 100 then (bd (fX7_comes σ v2 v4) fun r9 => some (r9.1, r9.2)) else (if (σ 14 a1.toNatClampNeg) = 101 then (bd (fX7_comes σ v2 v4) fun r11 => some (r11.1, r11.2)) else (if (σ 14 a1.toNatClampNeg) = 102 then (bd (fX7_comes σ v2 v4) fun r13 => some (r13.1, r13.2)) else (if (σ 14 a1.toNatClampNeg) = 103 then (bd (fX7_leaves σ v2) fun r15 => some (r15.1, r15.2)) else (if (σ 14 a1.toNatClampNeg) = 104 then (bd (fX7_comes σ v2 v4) fun r17 => some (r17.1, r17.2)) else (if (σ 14 a1.toNatClampNeg) = 105 then (bd (fX7_comes σ v2 v4) fun r19 => some (r19.1, r19.2)) else (if (σ 14 a1.toNatClampNeg) = 106 then (bd (fX7_comes σ v2 v4) fun r21 => some (r21.1, r21.2)) else (if (σ 14 a1.toNatClampNeg) = 107 then (bd (fX7_comes σ v2 v4) fun r23 => some (r23.1, r23.2)) else (if (σ 14 a1.toNatClampNeg) = 108 then (bd (fX7_loads σ v2 v4) fun r25 => some (r25.1, r25.2)) else (if (σ 14 a1.toNatClampNeg) = 109 then (bd (fX7_comes σ v2 v4) fun r27 => some (r27.1, r27.2)) else (if (σ 14 a1.toNatClampNeg) = 110 then (bd (fX7_comes σ v2 v4) fun r29 => some (r29.1, r29.2)) else (if (σ 14 a1.toNatClampNeg) = 111 then (bd (fX7_turns σ v2 1) fun r31 => some (r31.1, r31.2)) else (if (σ 14 a1.toNatClampNeg) = 112 then (bd (fX7_joins σ v2) fun r33 => some (r33.1, r33.2)) else (if (σ 14 a1.toNatClampNeg) = 113 then (bd (fX7_comes σ v2 v4) fun r35 => some (r35.1, r35.2)) else (if (σ 14 a1.toNatClampNeg) = 114 then (bd (fX7_comes σ v2 v4) fun r37 => some (r37.1, r37.2)) else (if (σ 14 a1.toNatClampNeg) = 115 then (bd (fX7_comes σ v2 v4) fun r39 => some (r39.1, r39.2)) else (if (σ 14 a1.toNatClampNeg) = 116 then (bd (fX7_bears σ v2) fun r41 => some (r41.1, r41.2)) else (if (σ 14 a1.toNatClampNeg) = 117 then (bd (fX7_comes σ v2 v4) fun r43 => some (r43.1, r43.2)) else (if (σ 14 a1.toNatClampNeg) = 118 then (bd (fX7_comes σ v2 v4) fun r45 => some (r45.1, r45.2)) else (if (σ 14 a1.toNatClampNeg) = 119 then (bd (fX7_weighs σ v2 v4) fun r47 => some (r47.1, r47.2)) else (bd (fX7_comes σ v2 v4) fun r48 => some (r48.1, r48.2))))))))))))))))))))))
def fX7_run_B73 (σ : St) : Option (Int32 × St) :=
  bd (fX7_ends σ (σ 0 22)) fun r1 => some (r1.1, r1.2)
def fX7_run_L31 (K31_73 : St → Option (Int32 × St)) : Nat → St → Int32 → Option (Int32 × St)
  | 0, _, _ => none
  | n31 + 1, σ, x1 => if (σ 0 22) ≤ x1 then (K31_73 σ) else (bd (fX7_does σ (3 * x1)) fun r3 => bd (fX7_in r3.2 r3.1 (-15) (-11)) fun r4 => if r4 = 0 then (nm (x1 + 1) fun v6 => (fX7_run_L31 K31_73 n31) r3.2 v6) else (bd (fX7_refuses r3.2 4 x1) fun r7 => bd (fX7_ends r7.2 r7.1) fun r8 => some (r8.1, r8.2)))
def fX7_run (σ : St) : Option (Int32 × St) :=
  bd (fX7_parse σ) fun r9 => nm (su r9 0 18 0) fun σ10 => if (σ10 0 20) < 0 then (bd (fX7_begins σ10) fun r12 => fX7_run_L31 (fun σ => fX7_run_B73 σ) 1000 r12 0) else (some (((-1000) - (σ10 0 20)), σ10))
def fX7_writes (σ : St) (a1 : Int32) : Option St :=
  gd (okI (σ 0 24) 120) <| nm (su σ 15 (σ 0 24).toNatClampNeg a1) fun σ2 => nm (su σ2 0 24 ((σ2 0 24) + 1)) fun σ3 => some σ3
def fX7_character (σ : St) (a1 : Int32) : Option Int32 :=
  bd (fX7_in σ a1 0 ((σ 0 24) - 1)) fun r1 => if r1 = 0 then (some (-11 : Int32)) else (gd (okI a1 120) <| some (σ 15 a1.toNatClampNeg))
def fX7_sum_B89 (σ : St) (x2 : Int32) : Option Int32 :=
  some x2
def fX7_sum_L4 (σ : St) (x1 : Int32) (K4_89 : Int32 → Option Int32) : Nat → Int32 → Int32 → Option Int32
  | 0, _, _ => none
  | n4 + 1, x2, x3 => if (σ 1 (0 : Int32).toNatClampNeg) ≤ x3 then (K4_89 x2) else (if x1 = 0 then (bd (fX7_p σ x3 1) fun r21 => nm (x2 + r21) fun v22 => nm (x3 + 1) fun v23 => (fX7_sum_L4 σ x1 K4_89 n4) v22 v23) else (if x1 = (1 : Int32) then (bd (fX7_points σ x3) fun r18 => nm (x2 + r18) fun v19 => nm (x3 + 1) fun v20 => (fX7_sum_L4 σ x1 K4_89 n4) v19 v20) else (if x1 = (2 : Int32) then (bd (fX7_room σ x3) fun r15 => nm (x2 + r15) fun v16 => nm (x3 + 1) fun v17 => (fX7_sum_L4 σ x1 K4_89 n4) v16 v17) else (if x1 = (3 : Int32) then (gd (okI x3 8) <| nm (x2 + (σ 7 x3.toNatClampNeg)) fun v13 => nm (x3 + 1) fun v14 => (fX7_sum_L4 σ x1 K4_89 n4) v13 v14) else (bd (fX7_isHot σ x3) fun r6 => if r6 = 0 then (nm (x2 + 0) fun v8 => nm (x3 + 1) fun v9 => (fX7_sum_L4 σ x1 K4_89 n4) v8 v9) else (nm (x2 + 1) fun v10 => nm (x3 + 1) fun v11 => (fX7_sum_L4 σ x1 K4_89 n4) v10 v11))))))
def fX7_sum (σ : St) (a1 : Int32) : Option Int32 :=
  fX7_sum_L4 σ a1 (fun y2 => fX7_sum_B89 σ y2) 1000 0 0
def fX7_lying_B65 (σ : St) (x2 : Int32) : Option Int32 :=
  some x2
def fX7_lying_L4 (σ : St) (x1 : Int32) (K4_65 : Int32 → Option Int32) : Nat → Int32 → Int32 → Option Int32
  | 0, _, _ => none
  | n4 + 1, x2, x3 => if (σ 1 (1 : Int32).toNatClampNeg) ≤ x3 then (K4_65 x2) else (gd (okI x3 24) <| if (σ 5 x3.toNatClampNeg) = (-1 : Int32) then (if (2 : Int32) = x1 then (nm (x2 + 1) fun v20 => nm (x3 + 1) fun v21 => (fX7_lying_L4 σ x1 K4_65 n4) v20 v21) else (nm (x2 + 0) fun v18 => nm (x3 + 1) fun v19 => (fX7_lying_L4 σ x1 K4_65 n4) v18 v19)) else (gd (okI x3 24) <| bd (fX7_homeAt σ x3) fun r5 => if (σ 5 x3.toNatClampNeg) = r5 then (if (0 : Int32) = x1 then (nm (x2 + 1) fun v15 => nm (x3 + 1) fun v16 => (fX7_lying_L4 σ x1 K4_65 n4) v15 v16) else (nm (x2 + 0) fun v13 => nm (x3 + 1) fun v14 => (fX7_lying_L4 σ x1 K4_65 n4) v13 v14)) else (if (1 : Int32) = x1 then (nm (x2 + 1) fun v10 => nm (x3 + 1) fun v11 => (fX7_lying_L4 σ x1 K4_65 n4) v10 v11) else (nm (x2 + 0) fun v8 => nm (x3 + 1) fun v9 => (fX7_lying_L4 σ x1 K4_65 n4) v8 v9))))
def fX7_lying (σ : St) (a1 : Int32) : Option Int32 :=
  fX7_lying_L4 σ a1 (fun y2 => fX7_lying_B65 σ y2) 1000 0 0
def fX7_tons_B29 (σ : St) (x1 : Int32) : Option Int32 :=
  some x1
def fX7_tons_L4 (σ : St) (K4_29 : Int32 → Option Int32) : Nat → Int32 → Int32 → Option Int32
  | 0, _, _ => none
  | n4 + 1, x1, x2 => if (σ 1 (1 : Int32).toNatClampNeg) ≤ x2 then (K4_29 x1) else (bd (fX7_b σ x2 1) fun r2 => nm (x1 + r2) fun v3 => nm (x2 + 1) fun v4 => (fX7_tons_L4 σ K4_29 n4) v3 v4)
def fX7_tons (σ : St) : Option Int32 :=
  fX7_tons_L4 σ (fun y1 => fX7_tons_B29 σ y1) 1000 0 0
def fX7_account (σ : St) (a1 : Int32) : Option (Int32 × St) :=
  bd (fX7_lays σ) fun r1 => if a1 = 0 then (some ((r1 1 (0 : Int32).toNatClampNeg), r1)) else (if a1 = 1 then (bd (fX7_sum r1 (a1 - 1)) fun r4 => some (r4, r1)) else (if a1 = 2 then (bd (fX7_sum r1 (a1 - 1)) fun r6 => some (r6, r1)) else (if a1 = 3 then (some ((r1 1 (1 : Int32).toNatClampNeg), r1)) else (if a1 = 4 then (bd (fX7_lying r1 (a1 - 4)) fun r9 => some (r9, r1)) else (if a1 = 5 then (bd (fX7_lying r1 (a1 - 4)) fun r11 => some (r11, r1)) else (if a1 = 6 then (bd (fX7_lying r1 (a1 - 4)) fun r13 => some (r13, r1)) else (if a1 = 7 then (bd (fX7_tons r1) fun r15 => some (r15, r1)) else (if a1 = 8 then (bd (fX7_sum r1 3) fun r17 => some (r17, r1)) else (if a1 = 9 then (bd (fX7_sum r1 2) fun r19 => some (r19, r1)) else (if a1 = 10 then (some ((r1 1 (3 : Int32).toNatClampNeg), r1)) else (if a1 = 11 then (some ((r1 1 (2 : Int32).toNatClampNeg), r1)) else (if a1 = 12 then (bd (fX7_sum r1 4) fun r23 => some (r23, r1)) else (if a1 = 13 then (some ((r1 0 18), r1)) else (if a1 = 14 then (some ((r1 0 1), r1)) else (some ((-12), r1))))))))))))))))
def fX7_isBalanced (σ : St) : Option Int32 :=
  some (1 : Int32)
def fX7_undo (σ : St) : Option (Int32 × St) :=
  if (σ 0 1) = 0 then (some ((-15), σ)) else (bd (fX7_copies σ (σ 0 1) 0) fun r2 => nm (su r2 0 1 ((r2 0 1) - 1)) fun σ3 => some ((σ3 0 1), σ3))
def fX7_save (σ : St) : Option (Int32 × St) :=
  nm (su σ 0 2 1) fun σ1 => bd (fX7_copies σ1 0 9) fun r2 => some ((r2 1 (1 : Int32).toNatClampNeg), r2)
def fX7_restore (σ : St) : Option (Int32 × St) :=
  if (σ 0 2) = 0 then (some ((-15), σ)) else (bd (fX7_copies σ 9 0) fun r2 => nm (su r2 0 1 0) fun σ3 => some ((σ3 1 (1 : Int32).toNatClampNeg), σ3))
def fX7_writesNumber : Nat → St → Int32 → Option St
  | 0, _, _ => none
  | n + 1, σ, a1 =>  if a1 ≤ (9 : Int32) then (bd (fX7_writes σ (48 + (jrem a1 10))) fun r2 => some r2) else (bd (fX7_writesNumber n σ (a1 / 10)) fun r3 => bd (fX7_writes r3 (48 + (jrem a1 10))) fun r4 => some r4)
def fX7_tell_B111 (σ : St) : Option (Int32 × St) :=
  some ((σ 0 24), σ)
def fX7_tell_L65 (x1 : Int32) (K65_111 : St → Option (Int32 × St)) : Nat → St → Int32 → Int32 → Option (Int32 × St)
  | 0, _, _, _ => none
  | n65 + 1, σ, x2, x3 => if (σ 1 (1 : Int32).toNatClampNeg) ≤ x3 then (K65_111 σ) else (gd (okI x3 24) <| if (σ 5 x3.toNatClampNeg) = x1 then (if x2 = 0 then (bd (fX7_writes σ 44) fun r7 => bd (fX7_writesNumber 5 r7 x3) fun r8 => nm (x3 + 1) fun v9 => (fX7_tell_L65 x1 K65_111 n65) r8 0 v9) else (bd (fX7_writesNumber 5 σ x3) fun r5 => nm (x3 + 1) fun v6 => (fX7_tell_L65 x1 K65_111 n65) r5 0 v6)) else (nm (x3 + 1) fun v10 => (fX7_tell_L65 x1 K65_111 n65) σ x2 v10))
def fX7_tell_B55 (σ : St) (x1 : Int32) : Option (Int32 × St) :=
  bd (fX7_writes σ 58) fun r11 => fX7_tell_L65 x1 (fun σ => fX7_tell_B111 σ) 1000 r11 1 0
def fX7_tell (σ : St) (a1 : Int32) : Option (Int32 × St) :=
  bd (fX7_isPier σ a1) fun r12 => if r12 = 0 then (some ((-11), σ)) else (bd (fX7_lays σ) fun r14 => nm (su r14 0 24 0) fun σ15 => bd (fX7_writesNumber 5 σ15 a1) fun r16 => bd (fX7_writes r16 42) fun r17 => bd (fX7_p r17 a1 0) fun r18 => bd (fX7_writesNumber 5 r17 r18) fun r19 => bd (fX7_isOpen r19 a1) fun r20 => if r20 = 0 then (bd (fX7_writes r19 120) fun r22 => fX7_tell_B55 r22 a1) else (fX7_tell_B55 r19 a1))
def fX7_tellBarge (σ : St) (a1 : Int32) : Option (Int32 × St) :=
  bd (fX7_isBarge σ a1) fun r1 => if r1 = 0 then (some ((-11), σ)) else (bd (fX7_lays σ) fun r3 => nm (su r3 0 24 0) fun σ4 => bd (fX7_writesNumber 5 σ4 a1) fun r5 => bd (fX7_writes r5 61) fun r6 => bd (fX7_b r6 a1 0) fun r7 => bd (fX7_writesNumber 5 r6 r7) fun r8 => bd (fX7_writes r8 64) fun r9 => bd (fX7_b r9 a1 0) fun r10 => bd (fX7_placeOf r9 r10) fun r11 => bd (fX7_writesNumber 5 r9 r11) fun r12 => bd (fX7_writes r12 43) fun r13 => bd (fX7_b r13 a1 1) fun r14 => bd (fX7_writesNumber 5 r13 r14) fun r15 => bd (fX7_writes r15 62) fun r16 => gd (okI a1 24) <| if (r16 5 a1.toNatClampNeg) = (-1 : Int32) then (bd (fX7_writes r16 45) fun r21 => some ((r21 0 24), r21)) else (gd (okI a1 24) <| bd (fX7_writesNumber 5 r16 (r16 5 a1.toNatClampNeg)) fun r20 => some ((r20 0 24), r20)))
def fX7_meanStretch (σ : St) : Option (Int32 × Int32) := bd (fX7_sum σ 0) fun r => some (r, 0)
def fX7_takenShare (σ : St) : Option ((Int32 × Int32) × St) := bd (fX7_lays σ) fun σ1 => bd (fX7_sum σ1 2) fun r => if r = 0 then some ((r, 0), σ1) else bd (fX7_sum σ1 3) fun t => some ((r, t), σ1)
