/-! The law: the paths in the tree (1509 to 1684). -/
def ixL (a t : Nat) : Int32 := if t < a then nI (a - 1 - t) else mI 1
theorem ix_0 (a : Nat) : nI a + (-1) = ixL a 0 := by
  unfold ixL
  by_cases h : 0 < a
  · rw [if_pos h, sb_m1 h]
    rfl
  · obtain rfl : a = 0 := by omega
    decide
theorem ix_s {a t : Nat} (ht : t < a) : nI (a - 1 - t) + (-1) = ixL a (t + 1) := by
  unfold ixL
  by_cases h : t + 1 < a
  · rw [if_pos h, sb_m1 (by omega)]
    congr 1
  · rw [if_neg h, show a - 1 - t = 0 by omega]
    decide
theorem nI_min3 {x y : Nat} (hx : x < 2 ^ 31) (hy : y < 2 ^ 31) : (if nI y < nI x then nI y else nI x) = nI (min x y) := by
  by_cases h : y < x
  · rw [if_pos (nI_lt h hx), Nat.min_eq_right (by omega)]
  · rw [if_neg (nI_nlt (by omega) hy), Nat.min_eq_left (by omega)]
section LB
variable {p : Program} {l : Launch} {e : Env} {s : State} {m : MethodId} {below : List Frame} {meth : Method} {c : Code} {Q : State → Prop}
variable {dC : Nat → ClassId} {dI : Nat → Nat → Nat} {cy : Nat → ClassId} {tb : Nat × Nat} {aK aV : Nat → Nat} {b bL : Nat} {xs : Nat → Int32}
variable {adX adT : Nat → Nat} {σ : St} {zX zT : Nat} {G : Heap → Prop} {d : HD} {turn nc ns : Nat}
set_option maxHeartbeats 16000000 in
set_option maxRecDepth 100000 in
theorem law_p10l (F : LF p s m c dC dI cy tb adX aK aV zX b bL xs) (T : LT 8 adT zX zT) (hC : CX σ d) (kg : KG zT G) {τ : St} {k1 a1 : Nat} (ha : a1 < cntD d) (hnc : nc ≤ 700000) (hns : ns ≤ 6900000) (kk : ∀ (H : Heap) (locs : List Loc), LWd s dC dI cy adX 8 adT zT G σ (τ) H locs → ∀ ls : Array Slot, lv_has ls 31 [(0, .ref b), (1, .ref (adX 0)), (2, .int (nI turn)), (3, .int (nI (dP d))), (4, .int (nI (dB d))), (6, .int (nI (cntD d))), (12, .ref (adT 0)), (13, .ref (adT 1)), (14, .ref (adT 2)), (15, .ref (adT 3)), (16, .ref (adT 4)), (17, .ref (adT 5)), (18, .ref (adT 6)), (19, .ref (adT 7)), (23, .int (nI k1)), (24, .int (nI a1)), (25, .int (nI (ordD d a1))), (26, .int (nI (cnL d a1 a1))), (27, .int (nI 0))] → W p l e room_1 s m #[Value.ref b] below meth c H locs nc ns Q (F0 m 1658 ls [])) : ∀ n t, t + n = a1 → ∀ (H : Heap) (locs : List Loc), LWd s dC dI cy adX 8 adT zT G σ (τ) H locs → ∀ ls : Array Slot, lv_has ls 31 [(0, .ref b), (1, .ref (adX 0)), (2, .int (nI turn)), (3, .int (nI (dP d))), (4, .int (nI (dB d))), (6, .int (nI (cntD d))), (12, .ref (adT 0)), (13, .ref (adT 1)), (14, .ref (adT 2)), (15, .ref (adT 3)), (16, .ref (adT 4)), (17, .ref (adT 5)), (18, .ref (adT 6)), (19, .ref (adT 7)), (23, .int (nI k1)), (24, .int (nI a1)), (25, .int (nI (ordD d a1))), (26, .int (nI (cnL d a1 t))), (27, .int (nI 0)), (28, .int (nI (erL d a1 t))), (29, .int (ixL a1 t))] → W p l e room_1 s m #[Value.ref b] below meth c H locs nc ns Q (F0 m 1576 ls []) := by
  have hx := F.S.1
  have hb := F.S.2.1
  have h8 := hC.1.1
  have h24 := hC.1.2.1
  have h200 := hC.1.2.2.1
  have cL : ∀ {x : Nat}, x ≤ 723972 → x ≤ room_1.cells := fun h => h
  have sL : ∀ {x : Nat}, x ≤ 6930331 → x ≤ room_1.slots := fun h => h
  have h80 := cntD_le hC.1
  have hoa := ordD_lt d a1
  intro n
  induction n with
  | zero =>
    intro t hk H locs hw ls hl
    obtain rfl : a1 = t := by omega
    refine lv_iload hx hb dL_law_1576 (lv_at hl 20 rfl) ?_
    rw [show ((ixL a1 a1) : Int32) = mI 1 from if_neg (Nat.lt_irrefl _)]
    refine lv_if_lt (tgt := 1658) hx hb dL_law_1578 (by decide) (fun _ => ?_) (fun q9 => absurd (by decide) q9)
    exact kk H locs hw ls (lv_sub hl [0, 1, 2, 3, 4, 5, 6, 7, 8, 9, 10, 11, 12, 13, 14, 15, 16, 17, 18] rfl)
  | succ n ih =>
    intro t hk H locs hw ls hl
    have hil : a1 - 1 - t < cntD d := by omega
    have ho := ordD_lt d (a1 - 1 - t)
    have her := (er_le d a1 t).1
    have hcn : cnL d a1 t ≤ 80 := by unfold cnL; have h8b := nP_le d a1 a1; omega
    obtain ⟨i1, ei⟩ : ∃ z, z = a1 - 1 - t := ⟨_, rfl⟩
    rw [← ei] at hil ho
    have hon : onP d a1 i1 ↔ ordD d i1 < ordD d a1 ∧ ordD d i1 < erL d a1 t := by rw [ei]; exact onL (by omega)
    have hes : erL d a1 (t + 1) = min (erL d a1 t) (ordD d i1) := by rw [ei]; rfl
    have hcs : cnL d a1 (t + 1) = cnL d a1 t + nP d a1 i1 := by rw [ei]; exact cnL_s (by omega)
    have eix : ixL a1 t = nI i1 := by rw [ei]; exact if_pos (by omega)
    rw [eix] at hl
    refine lv_iload hx hb dL_law_1576 (lv_at hl 20 rfl) ?_
    refine lv_if_lt (tgt := 1658) hx hb dL_law_1578 (by decide) (fun q9 => absurd q9 (nI_pos (by omega))) (fun _ => ?_)
    refine lv_iload hx hb dL_law_1581 (lv_at hl 20 rfl) ?_
    refine lv_iload hx hb dL_law_1583 (lv_at hl 5 rfl) ?_
    refine lv_icmp_ge (tgt := 1658) hx hb dL_law_1585 (by decide) (fun q9 => absurd q9 (nI_ge (by omega) (by omega))) (fun _ => ?_)
    refine lv_aload_n hx hb dL_law_1588 rfl (lv_at hl 1 rfl) ?_
    refine lv_iload hx hb dL_law_1589 (lv_at hl 20 rfl) ?_
    refine lx_si (As := [.ref (adX 0), .int (nI i1)]) (rest := []) F T kg (mL_order l dC dI adX cy F.J σ (nI i1) _ (cq_order hC hil)) (va_cwS 2 F.S.2.2.2.2 gL_law_L_order rfl rfl rfl dmL_order ⟨Nat.le_of_ble_eq_true rfl, Nat.le_of_ble_eq_true rfl⟩) hw rfl rfl hl.1 (Nat.le_of_ble_eq_true rfl) ⟨cL (by omega), sL (by omega)⟩ dL_law_1591 (fun H locs hw => ?_)
    refine lv_istore (lv' := [(30, .int (nI (ordD d i1))), (0, .ref b), (1, .ref (adX 0)), (2, .int (nI turn)), (3, .int (nI (dP d))), (4, .int (nI (dB d))), (6, .int (nI (cntD d))), (12, .ref (adT 0)), (13, .ref (adT 1)), (14, .ref (adT 2)), (15, .ref (adT 3)), (16, .ref (adT 4)), (17, .ref (adT 5)), (18, .ref (adT 6)), (19, .ref (adT 7)), (23, .int (nI k1)), (24, .int (nI a1)), (25, .int (nI (ordD d a1))), (26, .int (nI (cnL d a1 t))), (27, .int (nI 0)), (28, .int (nI (erL d a1 t))), (29, .int (nI i1))]) hx hb dL_law_1594 hl (by decide) rfl (fun ls hl => ?_)
    refine lv_iload hx hb dL_law_1596 (lv_at hl 0 rfl) ?_
    refine lv_iload hx hb dL_law_1598 (lv_at hl 17 rfl) ?_
    by_cases h1 : ordD d i1 < ordD d a1
    · skip
      refine lv_icmp_ge (tgt := 1631) hx hb dL_law_1600 (by decide) (fun q9 => absurd q9 (nI_ge (by omega) (by omega))) (fun _ => ?_)
      refine lv_iload hx hb dL_law_1603 (lv_at hl 0 rfl) ?_
      refine lv_iload hx hb dL_law_1605 (lv_at hl 20 rfl) ?_
      by_cases h2 : ordD d i1 < erL d a1 t
      · have hn1 : nP d a1 i1 = 1 := if_pos (hon.mpr ⟨h1, h2⟩)
        refine lv_icmp_ge (tgt := 1631) hx hb dL_law_1607 (by decide) (fun q9 => absurd q9 (nI_ge (by omega) (by omega))) (fun _ => ?_)
        refine lv_iload hx hb dL_law_1610 (lv_at hl 18 rfl) ?_
        refine lv_aload_n hx hb dL_law_1612 rfl (lv_at hl 2 rfl) ?_
        refine lv_iload hx hb dL_law_1613 (lv_at hl 21 rfl) ?_
        refine lv_iload hx hb dL_law_1615 (lv_at hl 16 rfl) ?_
        refine lx_si (As := [.ref (adX 0), .int (nI i1), .int (nI a1)]) (rest := [.int (nI (cnL d a1 t))]) F T kg (mL_isNearest l dC dI adX cy F.J σ (nI i1) (nI a1) _ (cq_near hC hil ha)) (va_cwS 3 F.S.2.2.2.2 gL_law_L_isNearest rfl rfl rfl dmL_isNearest ⟨Nat.le_of_ble_eq_true rfl, Nat.le_of_ble_eq_true rfl⟩) hw rfl rfl hl.1 (Nat.le_of_ble_eq_true rfl) ⟨cL (by omega), sL (by omega)⟩ dL_law_1617 (fun H locs hw => ?_)
        rw [show ((bI (nearD d i1 a1)) : Int32) = nI 1 from by rw [near_on (hon.mpr ⟨h1, h2⟩)]; rfl]
        refine lv_if_eq (tgt := 1627) hx hb dL_law_1620 (by decide) (fun q9 => absurd q9 (by decide)) (fun _ => ?_)
        refine lv_iconst (v := nI 1) hx hb dL_law_1623 (by decide) ?_
        refine lv_goto (tgt := 1628) hx hb dL_law_1624 (by decide) ?_
        refine lv_iadd hx hb dL_law_1628 ?_
        rw [show (((nI (cnL d a1 t)) + (nI 1)) : Int32) = nI (cnL d a1 (t + 1)) from by rw [hcs, hn1]; exact nI_add _ _]
        refine lv_istore (lv' := [(26, .int (nI (cnL d a1 (t + 1)))), (30, .int (nI (ordD d i1))), (0, .ref b), (1, .ref (adX 0)), (2, .int (nI turn)), (3, .int (nI (dP d))), (4, .int (nI (dB d))), (6, .int (nI (cntD d))), (12, .ref (adT 0)), (13, .ref (adT 1)), (14, .ref (adT 2)), (15, .ref (adT 3)), (16, .ref (adT 4)), (17, .ref (adT 5)), (18, .ref (adT 6)), (19, .ref (adT 7)), (23, .int (nI k1)), (24, .int (nI a1)), (25, .int (nI (ordD d a1))), (27, .int (nI 0)), (28, .int (nI (erL d a1 t))), (29, .int (nI i1))]) hx hb dL_law_1629 hl (by decide) rfl (fun ls hl => ?_)
        refine lv_iload hx hb dL_law_1631 (lv_at hl 20 rfl) ?_
        refine lv_iload hx hb dL_law_1633 (lv_at hl 1 rfl) ?_
        refine va_mmin hx hb (F.S.2.2.1.trans hl.1.symm) F.S.2.2.2.1 (F.S.2.2.2.2 _ jm_5) (F.S.2.2.2.2 _ jm_6) (F.S.2.2.2.2 _ jm_3) (F.S.2.2.2.2 _ jm_7) (Nat.le_of_ble_eq_true rfl) (Nat.le_of_ble_eq_true rfl) (cL (by omega)) (sL (by omega)) dL_law_1635 ?_
        rw [show ((if (nI (ordD d i1)) < (nI (erL d a1 t)) then (nI (ordD d i1)) else (nI (erL d a1 t))) : Int32) = nI (erL d a1 (t + 1)) from by rw [hes]; exact nI_min3 (by omega) (by omega)]
        refine lv_istore (lv' := [(28, .int (nI (erL d a1 (t + 1)))), (26, .int (nI (cnL d a1 (t + 1)))), (30, .int (nI (ordD d i1))), (0, .ref b), (1, .ref (adX 0)), (2, .int (nI turn)), (3, .int (nI (dP d))), (4, .int (nI (dB d))), (6, .int (nI (cntD d))), (12, .ref (adT 0)), (13, .ref (adT 1)), (14, .ref (adT 2)), (15, .ref (adT 3)), (16, .ref (adT 4)), (17, .ref (adT 5)), (18, .ref (adT 6)), (19, .ref (adT 7)), (23, .int (nI k1)), (24, .int (nI a1)), (25, .int (nI (ordD d a1))), (27, .int (nI 0)), (29, .int (nI i1))]) hx hb dL_law_1638 hl (by decide) rfl (fun ls hl => ?_)
        refine lv_iload hx hb dL_law_1640 (lv_at hl 21 rfl) ?_
        refine lv_iload hx hb dL_law_1642 (lv_at hl 20 rfl) ?_
        refine lv_if_ne (tgt := 1651) hx hb dL_law_1644 (by decide) (fun q9 => absurd (rfl) q9) (fun _ => ?_)
        refine lv_iconst (v := (-1)) hx hb dL_law_1647 (by decide) ?_
        refine lv_goto (tgt := 1652) hx hb dL_law_1648 (by decide) ?_
        refine lv_iadd hx hb dL_law_1652 ?_
        rw [show (((nI i1) + (-1)) : Int32) = ixL a1 (t + 1) from by rw [ei]; exact ix_s (by omega)]
        refine lv_istore (lv' := [(29, .int (ixL a1 (t + 1))), (28, .int (nI (erL d a1 (t + 1)))), (26, .int (nI (cnL d a1 (t + 1)))), (30, .int (nI (ordD d i1))), (0, .ref b), (1, .ref (adX 0)), (2, .int (nI turn)), (3, .int (nI (dP d))), (4, .int (nI (dB d))), (6, .int (nI (cntD d))), (12, .ref (adT 0)), (13, .ref (adT 1)), (14, .ref (adT 2)), (15, .ref (adT 3)), (16, .ref (adT 4)), (17, .ref (adT 5)), (18, .ref (adT 6)), (19, .ref (adT 7)), (23, .int (nI k1)), (24, .int (nI a1)), (25, .int (nI (ordD d a1))), (27, .int (nI 0))]) hx hb dL_law_1653 hl (by decide) rfl (fun ls hl => ?_)
        refine lv_goto (tgt := 1576) hx hb dL_law_1655 (by decide) ?_
        exact ih (t + 1) (by omega) H locs hw ls (lv_sub hl [4, 5, 6, 7, 8, 9, 10, 11, 12, 13, 14, 15, 16, 17, 18, 19, 20, 2, 21, 1, 0] rfl)
      · have hn1 : nP d a1 i1 = 0 := if_neg (fun z => h2 (hon.mp z).2)
        have hcs2 : cnL d a1 t = cnL d a1 (t + 1) := by rw [hcs, hn1]; rfl
        rw [hcs2] at hl
        refine lv_icmp_ge (tgt := 1631) hx hb dL_law_1607 (by decide) (fun _ => ?_) (fun q9 => absurd (nI_le (by omega) (by omega)) q9)
        refine lv_iload hx hb dL_law_1631 (lv_at hl 20 rfl) ?_
        refine lv_iload hx hb dL_law_1633 (lv_at hl 0 rfl) ?_
        refine va_mmin hx hb (F.S.2.2.1.trans hl.1.symm) F.S.2.2.2.1 (F.S.2.2.2.2 _ jm_5) (F.S.2.2.2.2 _ jm_6) (F.S.2.2.2.2 _ jm_3) (F.S.2.2.2.2 _ jm_7) (Nat.le_of_ble_eq_true rfl) (Nat.le_of_ble_eq_true rfl) (cL (by omega)) (sL (by omega)) dL_law_1635 ?_
        rw [show ((if (nI (ordD d i1)) < (nI (erL d a1 t)) then (nI (ordD d i1)) else (nI (erL d a1 t))) : Int32) = nI (erL d a1 (t + 1)) from by rw [hes]; exact nI_min3 (by omega) (by omega)]
        refine lv_istore (lv' := [(28, .int (nI (erL d a1 (t + 1)))), (30, .int (nI (ordD d i1))), (0, .ref b), (1, .ref (adX 0)), (2, .int (nI turn)), (3, .int (nI (dP d))), (4, .int (nI (dB d))), (6, .int (nI (cntD d))), (12, .ref (adT 0)), (13, .ref (adT 1)), (14, .ref (adT 2)), (15, .ref (adT 3)), (16, .ref (adT 4)), (17, .ref (adT 5)), (18, .ref (adT 6)), (19, .ref (adT 7)), (23, .int (nI k1)), (24, .int (nI a1)), (25, .int (nI (ordD d a1))), (26, .int (nI (cnL d a1 (t + 1)))), (27, .int (nI 0)), (29, .int (nI i1))]) hx hb dL_law_1638 hl (by decide) rfl (fun ls hl => ?_)
        refine lv_iload hx hb dL_law_1640 (lv_at hl 21 rfl) ?_
        refine lv_iload hx hb dL_law_1642 (lv_at hl 20 rfl) ?_
        refine lv_if_ne (tgt := 1651) hx hb dL_law_1644 (by decide) (fun q9 => absurd (rfl) q9) (fun _ => ?_)
        refine lv_iconst (v := (-1)) hx hb dL_law_1647 (by decide) ?_
        refine lv_goto (tgt := 1652) hx hb dL_law_1648 (by decide) ?_
        refine lv_iadd hx hb dL_law_1652 ?_
        rw [show (((nI i1) + (-1)) : Int32) = ixL a1 (t + 1) from by rw [ei]; exact ix_s (by omega)]
        refine lv_istore (lv' := [(29, .int (ixL a1 (t + 1))), (28, .int (nI (erL d a1 (t + 1)))), (30, .int (nI (ordD d i1))), (0, .ref b), (1, .ref (adX 0)), (2, .int (nI turn)), (3, .int (nI (dP d))), (4, .int (nI (dB d))), (6, .int (nI (cntD d))), (12, .ref (adT 0)), (13, .ref (adT 1)), (14, .ref (adT 2)), (15, .ref (adT 3)), (16, .ref (adT 4)), (17, .ref (adT 5)), (18, .ref (adT 6)), (19, .ref (adT 7)), (23, .int (nI k1)), (24, .int (nI a1)), (25, .int (nI (ordD d a1))), (26, .int (nI (cnL d a1 (t + 1)))), (27, .int (nI 0))]) hx hb dL_law_1653 hl (by decide) rfl (fun ls hl => ?_)
        refine lv_goto (tgt := 1576) hx hb dL_law_1655 (by decide) ?_
        exact ih (t + 1) (by omega) H locs hw ls (lv_sub hl [3, 4, 5, 6, 7, 8, 9, 10, 11, 12, 13, 14, 15, 16, 17, 18, 19, 20, 21, 1, 0] rfl)
    · have hn1 : nP d a1 i1 = 0 := if_neg (fun z => h1 (hon.mp z).1)
      have hcs2 : cnL d a1 t = cnL d a1 (t + 1) := by rw [hcs, hn1]; rfl
      rw [hcs2] at hl
      refine lv_icmp_ge (tgt := 1631) hx hb dL_law_1600 (by decide) (fun _ => ?_) (fun q9 => absurd (nI_le (by omega) (by omega)) q9)
      refine lv_iload hx hb dL_law_1631 (lv_at hl 20 rfl) ?_
      refine lv_iload hx hb dL_law_1633 (lv_at hl 0 rfl) ?_
      refine va_mmin hx hb (F.S.2.2.1.trans hl.1.symm) F.S.2.2.2.1 (F.S.2.2.2.2 _ jm_5) (F.S.2.2.2.2 _ jm_6) (F.S.2.2.2.2 _ jm_3) (F.S.2.2.2.2 _ jm_7) (Nat.le_of_ble_eq_true rfl) (Nat.le_of_ble_eq_true rfl) (cL (by omega)) (sL (by omega)) dL_law_1635 ?_
      rw [show ((if (nI (ordD d i1)) < (nI (erL d a1 t)) then (nI (ordD d i1)) else (nI (erL d a1 t))) : Int32) = nI (erL d a1 (t + 1)) from by rw [hes]; exact nI_min3 (by omega) (by omega)]
      refine lv_istore (lv' := [(28, .int (nI (erL d a1 (t + 1)))), (30, .int (nI (ordD d i1))), (0, .ref b), (1, .ref (adX 0)), (2, .int (nI turn)), (3, .int (nI (dP d))), (4, .int (nI (dB d))), (6, .int (nI (cntD d))), (12, .ref (adT 0)), (13, .ref (adT 1)), (14, .ref (adT 2)), (15, .ref (adT 3)), (16, .ref (adT 4)), (17, .ref (adT 5)), (18, .ref (adT 6)), (19, .ref (adT 7)), (23, .int (nI k1)), (24, .int (nI a1)), (25, .int (nI (ordD d a1))), (26, .int (nI (cnL d a1 (t + 1)))), (27, .int (nI 0)), (29, .int (nI i1))]) hx hb dL_law_1638 hl (by decide) rfl (fun ls hl => ?_)
      refine lv_iload hx hb dL_law_1640 (lv_at hl 21 rfl) ?_
      refine lv_iload hx hb dL_law_1642 (lv_at hl 20 rfl) ?_
      refine lv_if_ne (tgt := 1651) hx hb dL_law_1644 (by decide) (fun q9 => absurd (rfl) q9) (fun _ => ?_)
      refine lv_iconst (v := (-1)) hx hb dL_law_1647 (by decide) ?_
      refine lv_goto (tgt := 1652) hx hb dL_law_1648 (by decide) ?_
      refine lv_iadd hx hb dL_law_1652 ?_
      rw [show (((nI i1) + (-1)) : Int32) = ixL a1 (t + 1) from by rw [ei]; exact ix_s (by omega)]
      refine lv_istore (lv' := [(29, .int (ixL a1 (t + 1))), (28, .int (nI (erL d a1 (t + 1)))), (30, .int (nI (ordD d i1))), (0, .ref b), (1, .ref (adX 0)), (2, .int (nI turn)), (3, .int (nI (dP d))), (4, .int (nI (dB d))), (6, .int (nI (cntD d))), (12, .ref (adT 0)), (13, .ref (adT 1)), (14, .ref (adT 2)), (15, .ref (adT 3)), (16, .ref (adT 4)), (17, .ref (adT 5)), (18, .ref (adT 6)), (19, .ref (adT 7)), (23, .int (nI k1)), (24, .int (nI a1)), (25, .int (nI (ordD d a1))), (26, .int (nI (cnL d a1 (t + 1)))), (27, .int (nI 0))]) hx hb dL_law_1653 hl (by decide) rfl (fun ls hl => ?_)
      refine lv_goto (tgt := 1576) hx hb dL_law_1655 (by decide) ?_
      exact ih (t + 1) (by omega) H locs hw ls (lv_sub hl [3, 4, 5, 6, 7, 8, 9, 10, 11, 12, 13, 14, 15, 16, 17, 18, 19, 20, 21, 1, 0] rfl)
set_option maxHeartbeats 16000000 in
set_option maxRecDepth 100000 in
theorem law_p10r (F : LF p s m c dC dI cy tb adX aK aV zX b bL xs) (T : LT 8 adT zX zT) (hC : CX σ d) (kg : KG zT G) {τ : St} {k1 a1 : Nat} (ha : a1 < cntD d) (hnc : nc ≤ 700000) (hns : ns ≤ 6900000) (kk : ∀ (H : Heap) (locs : List Loc), LWd s dC dI cy adX 8 adT zT G σ (τ) H locs → ∀ ls : Array Slot, lv_has ls 31 [(0, .ref b), (1, .ref (adX 0)), (2, .int (nI turn)), (3, .int (nI (dP d))), (4, .int (nI (dB d))), (6, .int (nI (cntD d))), (12, .ref (adT 0)), (13, .ref (adT 1)), (14, .ref (adT 2)), (15, .ref (adT 3)), (16, .ref (adT 4)), (17, .ref (adT 5)), (18, .ref (adT 6)), (19, .ref (adT 7)), (23, .int (nI k1)), (24, .int (nI a1)), (25, .int (nI (ordD d a1))), (26, .int (nI (cnR d a1 (cntD d - 1 - a1)))), (27, .int (nI 1))] → W p l e room_1 s m #[Value.ref b] below meth c H locs nc ns Q (F0 m 1658 ls [])) : ∀ n t, t + n = (cntD d - 1 - a1) → ∀ (H : Heap) (locs : List Loc), LWd s dC dI cy adX 8 adT zT G σ (τ) H locs → ∀ ls : Array Slot, lv_has ls 31 [(0, .ref b), (1, .ref (adX 0)), (2, .int (nI turn)), (3, .int (nI (dP d))), (4, .int (nI (dB d))), (6, .int (nI (cntD d))), (12, .ref (adT 0)), (13, .ref (adT 1)), (14, .ref (adT 2)), (15, .ref (adT 3)), (16, .ref (adT 4)), (17, .ref (adT 5)), (18, .ref (adT 6)), (19, .ref (adT 7)), (23, .int (nI k1)), (24, .int (nI a1)), (25, .int (nI (ordD d a1))), (26, .int (nI (cnR d a1 t))), (27, .int (nI 1)), (28, .int (nI (erR d a1 t))), (29, .int (nI (a1 + 1 + t)))] → W p l e room_1 s m #[Value.ref b] below meth c H locs nc ns Q (F0 m 1576 ls []) := by
  have hx := F.S.1
  have hb := F.S.2.1
  have h8 := hC.1.1
  have h24 := hC.1.2.1
  have h200 := hC.1.2.2.1
  have cL : ∀ {x : Nat}, x ≤ 723972 → x ≤ room_1.cells := fun h => h
  have sL : ∀ {x : Nat}, x ≤ 6930331 → x ≤ room_1.slots := fun h => h
  have h80 := cntD_le hC.1
  have hoa := ordD_lt d a1
  intro n
  induction n with
  | zero =>
    intro t hk H locs hw ls hl
    obtain rfl : t = (cntD d - 1 - a1) := by omega
    refine lv_iload hx hb dL_law_1576 (lv_at hl 20 rfl) ?_
    refine lv_if_lt (tgt := 1658) hx hb dL_law_1578 (by decide) (fun q9 => absurd q9 (nI_pos (by omega))) (fun _ => ?_)
    refine lv_iload hx hb dL_law_1581 (lv_at hl 20 rfl) ?_
    refine lv_iload hx hb dL_law_1583 (lv_at hl 5 rfl) ?_
    refine lv_icmp_ge (tgt := 1658) hx hb dL_law_1585 (by decide) (fun _ => ?_) (fun q9 => absurd (nI_le (by omega) (by omega)) q9)
    exact kk H locs hw ls (lv_sub hl [0, 1, 2, 3, 4, 5, 6, 7, 8, 9, 10, 11, 12, 13, 14, 15, 16, 17, 18] rfl)
  | succ n ih =>
    intro t hk H locs hw ls hl
    have hil : a1 + 1 + t < cntD d := by omega
    have ho := ordD_lt d (a1 + 1 + t)
    have her := (er_le d a1 t).2
    have hcn : cnR d a1 t ≤ 80 := by unfold cnR; have h8b := nP_le d a1 (a1 + 1 + t); omega
    obtain ⟨i1, ei⟩ : ∃ z, z = a1 + 1 + t := ⟨_, rfl⟩
    rw [← ei] at hil ho
    have hon : onP d a1 i1 ↔ ordD d i1 < ordD d a1 ∧ ordD d i1 < erR d a1 t := by rw [ei]; exact onR
    have hes : erR d a1 (t + 1) = min (erR d a1 t) (ordD d i1) := by rw [ei]; rfl
    have hcs : cnR d a1 (t + 1) = cnR d a1 t + nP d a1 i1 := by rw [ei]; exact cnR_s d a1 t
    rw [← ei] at hl
    refine lv_iload hx hb dL_law_1576 (lv_at hl 20 rfl) ?_
    refine lv_if_lt (tgt := 1658) hx hb dL_law_1578 (by decide) (fun q9 => absurd q9 (nI_pos (by omega))) (fun _ => ?_)
    refine lv_iload hx hb dL_law_1581 (lv_at hl 20 rfl) ?_
    refine lv_iload hx hb dL_law_1583 (lv_at hl 5 rfl) ?_
    refine lv_icmp_ge (tgt := 1658) hx hb dL_law_1585 (by decide) (fun q9 => absurd q9 (nI_ge (by omega) (by omega))) (fun _ => ?_)
    refine lv_aload_n hx hb dL_law_1588 rfl (lv_at hl 1 rfl) ?_
    refine lv_iload hx hb dL_law_1589 (lv_at hl 20 rfl) ?_
    refine lx_si (As := [.ref (adX 0), .int (nI i1)]) (rest := []) F T kg (mL_order l dC dI adX cy F.J σ (nI i1) _ (cq_order hC hil)) (va_cwS 2 F.S.2.2.2.2 gL_law_L_order rfl rfl rfl dmL_order ⟨Nat.le_of_ble_eq_true rfl, Nat.le_of_ble_eq_true rfl⟩) hw rfl rfl hl.1 (Nat.le_of_ble_eq_true rfl) ⟨cL (by omega), sL (by omega)⟩ dL_law_1591 (fun H locs hw => ?_)
    refine lv_istore (lv' := [(30, .int (nI (ordD d i1))), (0, .ref b), (1, .ref (adX 0)), (2, .int (nI turn)), (3, .int (nI (dP d))), (4, .int (nI (dB d))), (6, .int (nI (cntD d))), (12, .ref (adT 0)), (13, .ref (adT 1)), (14, .ref (adT 2)), (15, .ref (adT 3)), (16, .ref (adT 4)), (17, .ref (adT 5)), (18, .ref (adT 6)), (19, .ref (adT 7)), (23, .int (nI k1)), (24, .int (nI a1)), (25, .int (nI (ordD d a1))), (26, .int (nI (cnR d a1 t))), (27, .int (nI 1)), (28, .int (nI (erR d a1 t))), (29, .int (nI i1))]) hx hb dL_law_1594 hl (by decide) rfl (fun ls hl => ?_)
    refine lv_iload hx hb dL_law_1596 (lv_at hl 0 rfl) ?_
    refine lv_iload hx hb dL_law_1598 (lv_at hl 17 rfl) ?_
    by_cases h1 : ordD d i1 < ordD d a1
    · skip
      refine lv_icmp_ge (tgt := 1631) hx hb dL_law_1600 (by decide) (fun q9 => absurd q9 (nI_ge (by omega) (by omega))) (fun _ => ?_)
      refine lv_iload hx hb dL_law_1603 (lv_at hl 0 rfl) ?_
      refine lv_iload hx hb dL_law_1605 (lv_at hl 20 rfl) ?_
      by_cases h2 : ordD d i1 < erR d a1 t
      · have hn1 : nP d a1 i1 = 1 := if_pos (hon.mpr ⟨h1, h2⟩)
        refine lv_icmp_ge (tgt := 1631) hx hb dL_law_1607 (by decide) (fun q9 => absurd q9 (nI_ge (by omega) (by omega))) (fun _ => ?_)
        refine lv_iload hx hb dL_law_1610 (lv_at hl 18 rfl) ?_
        refine lv_aload_n hx hb dL_law_1612 rfl (lv_at hl 2 rfl) ?_
        refine lv_iload hx hb dL_law_1613 (lv_at hl 21 rfl) ?_
        refine lv_iload hx hb dL_law_1615 (lv_at hl 16 rfl) ?_
        refine lx_si (As := [.ref (adX 0), .int (nI i1), .int (nI a1)]) (rest := [.int (nI (cnR d a1 t))]) F T kg (mL_isNearest l dC dI adX cy F.J σ (nI i1) (nI a1) _ (cq_near hC hil ha)) (va_cwS 3 F.S.2.2.2.2 gL_law_L_isNearest rfl rfl rfl dmL_isNearest ⟨Nat.le_of_ble_eq_true rfl, Nat.le_of_ble_eq_true rfl⟩) hw rfl rfl hl.1 (Nat.le_of_ble_eq_true rfl) ⟨cL (by omega), sL (by omega)⟩ dL_law_1617 (fun H locs hw => ?_)
        rw [show ((bI (nearD d i1 a1)) : Int32) = nI 1 from by rw [near_on (hon.mpr ⟨h1, h2⟩)]; rfl]
        refine lv_if_eq (tgt := 1627) hx hb dL_law_1620 (by decide) (fun q9 => absurd q9 (by decide)) (fun _ => ?_)
        refine lv_iconst (v := nI 1) hx hb dL_law_1623 (by decide) ?_
        refine lv_goto (tgt := 1628) hx hb dL_law_1624 (by decide) ?_
        refine lv_iadd hx hb dL_law_1628 ?_
        rw [show (((nI (cnR d a1 t)) + (nI 1)) : Int32) = nI (cnR d a1 (t + 1)) from by rw [hcs, hn1]; exact nI_add _ _]
        refine lv_istore (lv' := [(26, .int (nI (cnR d a1 (t + 1)))), (30, .int (nI (ordD d i1))), (0, .ref b), (1, .ref (adX 0)), (2, .int (nI turn)), (3, .int (nI (dP d))), (4, .int (nI (dB d))), (6, .int (nI (cntD d))), (12, .ref (adT 0)), (13, .ref (adT 1)), (14, .ref (adT 2)), (15, .ref (adT 3)), (16, .ref (adT 4)), (17, .ref (adT 5)), (18, .ref (adT 6)), (19, .ref (adT 7)), (23, .int (nI k1)), (24, .int (nI a1)), (25, .int (nI (ordD d a1))), (27, .int (nI 1)), (28, .int (nI (erR d a1 t))), (29, .int (nI i1))]) hx hb dL_law_1629 hl (by decide) rfl (fun ls hl => ?_)
        refine lv_iload hx hb dL_law_1631 (lv_at hl 20 rfl) ?_
        refine lv_iload hx hb dL_law_1633 (lv_at hl 1 rfl) ?_
        refine va_mmin hx hb (F.S.2.2.1.trans hl.1.symm) F.S.2.2.2.1 (F.S.2.2.2.2 _ jm_5) (F.S.2.2.2.2 _ jm_6) (F.S.2.2.2.2 _ jm_3) (F.S.2.2.2.2 _ jm_7) (Nat.le_of_ble_eq_true rfl) (Nat.le_of_ble_eq_true rfl) (cL (by omega)) (sL (by omega)) dL_law_1635 ?_
        rw [show ((if (nI (ordD d i1)) < (nI (erR d a1 t)) then (nI (ordD d i1)) else (nI (erR d a1 t))) : Int32) = nI (erR d a1 (t + 1)) from by rw [hes]; exact nI_min3 (by omega) (by omega)]
        refine lv_istore (lv' := [(28, .int (nI (erR d a1 (t + 1)))), (26, .int (nI (cnR d a1 (t + 1)))), (30, .int (nI (ordD d i1))), (0, .ref b), (1, .ref (adX 0)), (2, .int (nI turn)), (3, .int (nI (dP d))), (4, .int (nI (dB d))), (6, .int (nI (cntD d))), (12, .ref (adT 0)), (13, .ref (adT 1)), (14, .ref (adT 2)), (15, .ref (adT 3)), (16, .ref (adT 4)), (17, .ref (adT 5)), (18, .ref (adT 6)), (19, .ref (adT 7)), (23, .int (nI k1)), (24, .int (nI a1)), (25, .int (nI (ordD d a1))), (27, .int (nI 1)), (29, .int (nI i1))]) hx hb dL_law_1638 hl (by decide) rfl (fun ls hl => ?_)
        refine lv_iload hx hb dL_law_1640 (lv_at hl 21 rfl) ?_
        refine lv_iload hx hb dL_law_1642 (lv_at hl 20 rfl) ?_
        refine lv_if_ne (tgt := 1651) hx hb dL_law_1644 (by decide) (fun _ => ?_) (fun q9 => absurd q9 (by decide))
        refine lv_iconst (v := 1) hx hb dL_law_1651 (by decide) ?_
        refine lv_iadd hx hb dL_law_1652 ?_
        rw [show (((nI i1) + 1) : Int32) = nI (a1 + 1 + (t + 1)) from by rw [ei]; exact nI_add _ _]
        refine lv_istore (lv' := [(29, .int (nI (a1 + 1 + (t + 1)))), (28, .int (nI (erR d a1 (t + 1)))), (26, .int (nI (cnR d a1 (t + 1)))), (30, .int (nI (ordD d i1))), (0, .ref b), (1, .ref (adX 0)), (2, .int (nI turn)), (3, .int (nI (dP d))), (4, .int (nI (dB d))), (6, .int (nI (cntD d))), (12, .ref (adT 0)), (13, .ref (adT 1)), (14, .ref (adT 2)), (15, .ref (adT 3)), (16, .ref (adT 4)), (17, .ref (adT 5)), (18, .ref (adT 6)), (19, .ref (adT 7)), (23, .int (nI k1)), (24, .int (nI a1)), (25, .int (nI (ordD d a1))), (27, .int (nI 1))]) hx hb dL_law_1653 hl (by decide) rfl (fun ls hl => ?_)
        refine lv_goto (tgt := 1576) hx hb dL_law_1655 (by decide) ?_
        exact ih (t + 1) (by omega) H locs hw ls (lv_sub hl [4, 5, 6, 7, 8, 9, 10, 11, 12, 13, 14, 15, 16, 17, 18, 19, 20, 2, 21, 1, 0] rfl)
      · have hn1 : nP d a1 i1 = 0 := if_neg (fun z => h2 (hon.mp z).2)
        have hcs2 : cnR d a1 t = cnR d a1 (t + 1) := by rw [hcs, hn1]; rfl
        rw [hcs2] at hl
        refine lv_icmp_ge (tgt := 1631) hx hb dL_law_1607 (by decide) (fun _ => ?_) (fun q9 => absurd (nI_le (by omega) (by omega)) q9)
        refine lv_iload hx hb dL_law_1631 (lv_at hl 20 rfl) ?_
        refine lv_iload hx hb dL_law_1633 (lv_at hl 0 rfl) ?_
        refine va_mmin hx hb (F.S.2.2.1.trans hl.1.symm) F.S.2.2.2.1 (F.S.2.2.2.2 _ jm_5) (F.S.2.2.2.2 _ jm_6) (F.S.2.2.2.2 _ jm_3) (F.S.2.2.2.2 _ jm_7) (Nat.le_of_ble_eq_true rfl) (Nat.le_of_ble_eq_true rfl) (cL (by omega)) (sL (by omega)) dL_law_1635 ?_
        rw [show ((if (nI (ordD d i1)) < (nI (erR d a1 t)) then (nI (ordD d i1)) else (nI (erR d a1 t))) : Int32) = nI (erR d a1 (t + 1)) from by rw [hes]; exact nI_min3 (by omega) (by omega)]
        refine lv_istore (lv' := [(28, .int (nI (erR d a1 (t + 1)))), (30, .int (nI (ordD d i1))), (0, .ref b), (1, .ref (adX 0)), (2, .int (nI turn)), (3, .int (nI (dP d))), (4, .int (nI (dB d))), (6, .int (nI (cntD d))), (12, .ref (adT 0)), (13, .ref (adT 1)), (14, .ref (adT 2)), (15, .ref (adT 3)), (16, .ref (adT 4)), (17, .ref (adT 5)), (18, .ref (adT 6)), (19, .ref (adT 7)), (23, .int (nI k1)), (24, .int (nI a1)), (25, .int (nI (ordD d a1))), (26, .int (nI (cnR d a1 (t + 1)))), (27, .int (nI 1)), (29, .int (nI i1))]) hx hb dL_law_1638 hl (by decide) rfl (fun ls hl => ?_)
        refine lv_iload hx hb dL_law_1640 (lv_at hl 21 rfl) ?_
        refine lv_iload hx hb dL_law_1642 (lv_at hl 20 rfl) ?_
        refine lv_if_ne (tgt := 1651) hx hb dL_law_1644 (by decide) (fun _ => ?_) (fun q9 => absurd q9 (by decide))
        refine lv_iconst (v := 1) hx hb dL_law_1651 (by decide) ?_
        refine lv_iadd hx hb dL_law_1652 ?_
        rw [show (((nI i1) + 1) : Int32) = nI (a1 + 1 + (t + 1)) from by rw [ei]; exact nI_add _ _]
        refine lv_istore (lv' := [(29, .int (nI (a1 + 1 + (t + 1)))), (28, .int (nI (erR d a1 (t + 1)))), (30, .int (nI (ordD d i1))), (0, .ref b), (1, .ref (adX 0)), (2, .int (nI turn)), (3, .int (nI (dP d))), (4, .int (nI (dB d))), (6, .int (nI (cntD d))), (12, .ref (adT 0)), (13, .ref (adT 1)), (14, .ref (adT 2)), (15, .ref (adT 3)), (16, .ref (adT 4)), (17, .ref (adT 5)), (18, .ref (adT 6)), (19, .ref (adT 7)), (23, .int (nI k1)), (24, .int (nI a1)), (25, .int (nI (ordD d a1))), (26, .int (nI (cnR d a1 (t + 1)))), (27, .int (nI 1))]) hx hb dL_law_1653 hl (by decide) rfl (fun ls hl => ?_)
        refine lv_goto (tgt := 1576) hx hb dL_law_1655 (by decide) ?_
        exact ih (t + 1) (by omega) H locs hw ls (lv_sub hl [3, 4, 5, 6, 7, 8, 9, 10, 11, 12, 13, 14, 15, 16, 17, 18, 19, 20, 21, 1, 0] rfl)
    · have hn1 : nP d a1 i1 = 0 := if_neg (fun z => h1 (hon.mp z).1)
      have hcs2 : cnR d a1 t = cnR d a1 (t + 1) := by rw [hcs, hn1]; rfl
      rw [hcs2] at hl
      refine lv_icmp_ge (tgt := 1631) hx hb dL_law_1600 (by decide) (fun _ => ?_) (fun q9 => absurd (nI_le (by omega) (by omega)) q9)
      refine lv_iload hx hb dL_law_1631 (lv_at hl 20 rfl) ?_
      refine lv_iload hx hb dL_law_1633 (lv_at hl 0 rfl) ?_
      refine va_mmin hx hb (F.S.2.2.1.trans hl.1.symm) F.S.2.2.2.1 (F.S.2.2.2.2 _ jm_5) (F.S.2.2.2.2 _ jm_6) (F.S.2.2.2.2 _ jm_3) (F.S.2.2.2.2 _ jm_7) (Nat.le_of_ble_eq_true rfl) (Nat.le_of_ble_eq_true rfl) (cL (by omega)) (sL (by omega)) dL_law_1635 ?_
      rw [show ((if (nI (ordD d i1)) < (nI (erR d a1 t)) then (nI (ordD d i1)) else (nI (erR d a1 t))) : Int32) = nI (erR d a1 (t + 1)) from by rw [hes]; exact nI_min3 (by omega) (by omega)]
      refine lv_istore (lv' := [(28, .int (nI (erR d a1 (t + 1)))), (30, .int (nI (ordD d i1))), (0, .ref b), (1, .ref (adX 0)), (2, .int (nI turn)), (3, .int (nI (dP d))), (4, .int (nI (dB d))), (6, .int (nI (cntD d))), (12, .ref (adT 0)), (13, .ref (adT 1)), (14, .ref (adT 2)), (15, .ref (adT 3)), (16, .ref (adT 4)), (17, .ref (adT 5)), (18, .ref (adT 6)), (19, .ref (adT 7)), (23, .int (nI k1)), (24, .int (nI a1)), (25, .int (nI (ordD d a1))), (26, .int (nI (cnR d a1 (t + 1)))), (27, .int (nI 1)), (29, .int (nI i1))]) hx hb dL_law_1638 hl (by decide) rfl (fun ls hl => ?_)
      refine lv_iload hx hb dL_law_1640 (lv_at hl 21 rfl) ?_
      refine lv_iload hx hb dL_law_1642 (lv_at hl 20 rfl) ?_
      refine lv_if_ne (tgt := 1651) hx hb dL_law_1644 (by decide) (fun _ => ?_) (fun q9 => absurd q9 (by decide))
      refine lv_iconst (v := 1) hx hb dL_law_1651 (by decide) ?_
      refine lv_iadd hx hb dL_law_1652 ?_
      rw [show (((nI i1) + 1) : Int32) = nI (a1 + 1 + (t + 1)) from by rw [ei]; exact nI_add _ _]
      refine lv_istore (lv' := [(29, .int (nI (a1 + 1 + (t + 1)))), (28, .int (nI (erR d a1 (t + 1)))), (30, .int (nI (ordD d i1))), (0, .ref b), (1, .ref (adX 0)), (2, .int (nI turn)), (3, .int (nI (dP d))), (4, .int (nI (dB d))), (6, .int (nI (cntD d))), (12, .ref (adT 0)), (13, .ref (adT 1)), (14, .ref (adT 2)), (15, .ref (adT 3)), (16, .ref (adT 4)), (17, .ref (adT 5)), (18, .ref (adT 6)), (19, .ref (adT 7)), (23, .int (nI k1)), (24, .int (nI a1)), (25, .int (nI (ordD d a1))), (26, .int (nI (cnR d a1 (t + 1)))), (27, .int (nI 1))]) hx hb dL_law_1653 hl (by decide) rfl (fun ls hl => ?_)
      refine lv_goto (tgt := 1576) hx hb dL_law_1655 (by decide) ?_
      exact ih (t + 1) (by omega) H locs hw ls (lv_sub hl [3, 4, 5, 6, 7, 8, 9, 10, 11, 12, 13, 14, 15, 16, 17, 18, 19, 20, 21, 1, 0] rfl)
set_option maxHeartbeats 16000000 in
set_option maxRecDepth 100000 in
theorem law_p10 (F : LF p s m c dC dI cy tb adX aK aV zX b bL xs) (T : LT 8 adT zX zT) (hC : CX σ d) (kg : KG zT G) {τ : St} (hbl : bL < 2 ^ 31) (hnc : nc ≤ 700000) (hns : ns ≤ 6900000) (kk : ∀ (H : Heap) (locs : List Loc), LWd s dC dI cy adX 8 adT zT G σ (τ) H locs → ∀ ls : Array Slot, lv_has ls 31 [(0, .ref b), (1, .ref (adX 0)), (2, .int (nI turn)), (3, .int (nI (dP d))), (4, .int (nI (dB d))), (6, .int (nI (cntD d))), (12, .ref (adT 0)), (13, .ref (adT 1)), (14, .ref (adT 2)), (15, .ref (adT 3)), (16, .ref (adT 4)), (17, .ref (adT 5)), (18, .ref (adT 6)), (19, .ref (adT 7))] → W p l e room_1 s m #[Value.ref b] below meth c H locs nc ns Q (F0 m 1684 ls [])) : ∀ n k1, k1 + n = 3 → ∀ (H : Heap) (locs : List Loc), LWd s dC dI cy adX 8 adT zT G σ (τ) H locs → ∀ ls : Array Slot, lv_has ls 31 [(0, .ref b), (1, .ref (adX 0)), (2, .int (nI turn)), (3, .int (nI (dP d))), (4, .int (nI (dB d))), (6, .int (nI (cntD d))), (12, .ref (adT 0)), (13, .ref (adT 1)), (14, .ref (adT 2)), (15, .ref (adT 3)), (16, .ref (adT 4)), (17, .ref (adT 5)), (18, .ref (adT 6)), (19, .ref (adT 7)), (23, .int (nI k1))] → W p l e room_1 s m #[Value.ref b] below meth c H locs nc ns Q (F0 m 1512 ls []) := by
  have hx := F.S.1
  have hb := F.S.2.1
  have h8 := hC.1.1
  have h24 := hC.1.2.1
  have h200 := hC.1.2.2.1
  have cL : ∀ {x : Nat}, x ≤ 723972 → x ≤ room_1.cells := fun h => h
  have sL : ∀ {x : Nat}, x ≤ 6930331 → x ≤ room_1.slots := fun h => h
  have h80 := cntD_le hC.1
  intro n
  induction n with
  | zero =>
    intro k1 hk H locs hw ls hl
    obtain rfl : k1 = 3 := by omega
    refine lv_iload hx hb dL_law_1512 (lv_at hl 14 rfl) ?_
    refine lv_iconst (v := nI 3) hx hb dL_law_1514 (by decide) ?_
    refine lv_icmp_ge (tgt := 1684) hx hb dL_law_1515 (by decide) (fun _ => ?_) (fun q9 => absurd (nI_le (by omega) (by omega)) q9)
    exact kk H locs hw ls (lv_sub hl [0, 1, 2, 3, 4, 5, 6, 7, 8, 9, 10, 11, 12, 13] rfl)
  | succ n ih =>
    intro k1 hk H locs hw ls hl
    by_cases hz : cntD d = 0
    · skip
      refine lv_iload hx hb dL_law_1512 (lv_at hl 14 rfl) ?_
      refine lv_iconst (v := nI 3) hx hb dL_law_1514 (by decide) ?_
      refine lv_icmp_ge (tgt := 1684) hx hb dL_law_1515 (by decide) (fun q9 => absurd q9 (nI_ge (by omega) (by omega))) (fun _ => ?_)
      refine lv_iload hx hb dL_law_1518 (lv_at hl 5 rfl) ?_
      refine lv_if_le (tgt := 1684) hx hb dL_law_1520 (by decide) (fun _ => ?_) (fun q9 => absurd (by rw [hz]; decide) q9)
      exact kk H locs hw ls (lv_sub hl [0, 1, 2, 3, 4, 5, 6, 7, 8, 9, 10, 11, 12, 13] rfl)
    · obtain ⟨a1, ha, ea⟩ := sm_ex hbl xs (k := 60 + k1) (n := cntD d) (by omega) (by omega) (by omega)
      have hoa := ordD_lt d a1
      have e0 : cnL d a1 0 = 0 := by unfold cnL; rw [Nat.sub_zero]; omega
      have hcall := cn_all hC.1 ha
      refine lv_iload hx hb dL_law_1512 (lv_at hl 14 rfl) ?_
      refine lv_iconst (v := nI 3) hx hb dL_law_1514 (by decide) ?_
      refine lv_icmp_ge (tgt := 1684) hx hb dL_law_1515 (by decide) (fun q9 => absurd q9 (nI_ge (by omega) (by omega))) (fun _ => ?_)
      refine lv_iload hx hb dL_law_1518 (lv_at hl 5 rfl) ?_
      refine lv_if_le (tgt := 1684) hx hb dL_law_1520 (by decide) (fun q9 => absurd q9 (nI_nle (by omega) (by omega))) (fun _ => ?_)
      refine lv_aload_n hx hb dL_law_1523 rfl (lv_at hl 0 rfl) ?_
      refine lv_bipush (v := 60) hx hb dL_law_1524 (by decide) ?_
      refine lv_iload hx hb dL_law_1526 (lv_at hl 14 rfl) ?_
      refine lv_iadd hx hb dL_law_1528 ?_
      rw [show (((60 : Int32) + (nI k1)) : Int32) = nI (60 + k1) from nI_add 60 k1]
      refine lv_iload hx hb dL_law_1529 (lv_at hl 5 rfl) ?_
      refine lx_x (As := [.ref b, .int (nI (60 + k1)), .int (nI (cntD d))]) (rest := []) F kg (mL_some l b bL xs (nI (60 + k1)) (nI (cntD d)) _ ea) (va_cwS 3 F.S.2.2.2.2 gL_law_L_some rfl rfl rfl dmL_some ⟨Nat.le_of_ble_eq_true rfl, Nat.le_of_ble_eq_true rfl⟩) hw rfl rfl hl.1 (Nat.le_of_ble_eq_true rfl) ⟨cL (by omega), sL (by omega)⟩ dL_law_1531 (fun H locs hw => ?_)
      refine lv_istore (lv' := [(24, .int (nI a1)), (0, .ref b), (1, .ref (adX 0)), (2, .int (nI turn)), (3, .int (nI (dP d))), (4, .int (nI (dB d))), (6, .int (nI (cntD d))), (12, .ref (adT 0)), (13, .ref (adT 1)), (14, .ref (adT 2)), (15, .ref (adT 3)), (16, .ref (adT 4)), (17, .ref (adT 5)), (18, .ref (adT 6)), (19, .ref (adT 7)), (23, .int (nI k1))]) hx hb dL_law_1534 hl (by decide) rfl (fun ls hl => ?_)
      refine lv_aload_n hx hb dL_law_1536 rfl (lv_at hl 2 rfl) ?_
      refine lv_iload hx hb dL_law_1537 (lv_at hl 0 rfl) ?_
      refine lx_si (As := [.ref (adX 0), .int (nI a1)]) (rest := []) F T kg (mL_order l dC dI adX cy F.J σ (nI a1) _ (cq_order hC ha)) (va_cwS 2 F.S.2.2.2.2 gL_law_L_order rfl rfl rfl dmL_order ⟨Nat.le_of_ble_eq_true rfl, Nat.le_of_ble_eq_true rfl⟩) hw rfl rfl hl.1 (Nat.le_of_ble_eq_true rfl) ⟨cL (by omega), sL (by omega)⟩ dL_law_1539 (fun H locs hw => ?_)
      refine lv_istore (lv' := [(25, .int (nI (ordD d a1))), (24, .int (nI a1)), (0, .ref b), (1, .ref (adX 0)), (2, .int (nI turn)), (3, .int (nI (dP d))), (4, .int (nI (dB d))), (6, .int (nI (cntD d))), (12, .ref (adT 0)), (13, .ref (adT 1)), (14, .ref (adT 2)), (15, .ref (adT 3)), (16, .ref (adT 4)), (17, .ref (adT 5)), (18, .ref (adT 6)), (19, .ref (adT 7)), (23, .int (nI k1))]) hx hb dL_law_1542 hl (by decide) rfl (fun ls hl => ?_)
      refine lv_iconst (v := nI 0) hx hb dL_law_1544 (by decide) ?_
      rw [show ((nI 0) : Int32) = nI (cnL d a1 0) from by rw [e0]]
      refine lv_istore (lv' := [(26, .int (nI (cnL d a1 0))), (25, .int (nI (ordD d a1))), (24, .int (nI a1)), (0, .ref b), (1, .ref (adX 0)), (2, .int (nI turn)), (3, .int (nI (dP d))), (4, .int (nI (dB d))), (6, .int (nI (cntD d))), (12, .ref (adT 0)), (13, .ref (adT 1)), (14, .ref (adT 2)), (15, .ref (adT 3)), (16, .ref (adT 4)), (17, .ref (adT 5)), (18, .ref (adT 6)), (19, .ref (adT 7)), (23, .int (nI k1))]) hx hb dL_law_1545 hl (by decide) rfl (fun ls hl => ?_)
      refine lv_iconst (v := nI 0) hx hb dL_law_1547 (by decide) ?_
      refine lv_istore (lv' := [(27, .int (nI 0)), (26, .int (nI (cnL d a1 0))), (25, .int (nI (ordD d a1))), (24, .int (nI a1)), (0, .ref b), (1, .ref (adX 0)), (2, .int (nI turn)), (3, .int (nI (dP d))), (4, .int (nI (dB d))), (6, .int (nI (cntD d))), (12, .ref (adT 0)), (13, .ref (adT 1)), (14, .ref (adT 2)), (15, .ref (adT 3)), (16, .ref (adT 4)), (17, .ref (adT 5)), (18, .ref (adT 6)), (19, .ref (adT 7)), (23, .int (nI k1))]) hx hb dL_law_1548 hl (by decide) rfl (fun ls hl => ?_)
      refine lv_iload hx hb dL_law_1550 (lv_at hl 0 rfl) ?_
      refine lv_iconst (v := nI 2) hx hb dL_law_1552 (by decide) ?_
      refine lv_icmp_ge (tgt := 1664) hx hb dL_law_1553 (by decide) (fun q9 => absurd q9 (nI_ge (by omega) (by omega))) (fun _ => ?_)
      refine lv_sipush (v := nI 1000) hx hb dL_law_1556 (by decide) ?_
      refine lv_istore (lv' := [(28, .int (nI 1000)), (27, .int (nI 0)), (26, .int (nI (cnL d a1 0))), (25, .int (nI (ordD d a1))), (24, .int (nI a1)), (0, .ref b), (1, .ref (adX 0)), (2, .int (nI turn)), (3, .int (nI (dP d))), (4, .int (nI (dB d))), (6, .int (nI (cntD d))), (12, .ref (adT 0)), (13, .ref (adT 1)), (14, .ref (adT 2)), (15, .ref (adT 3)), (16, .ref (adT 4)), (17, .ref (adT 5)), (18, .ref (adT 6)), (19, .ref (adT 7)), (23, .int (nI k1))]) hx hb dL_law_1559 hl (by decide) rfl (fun ls hl => ?_)
      refine lv_iload hx hb dL_law_1561 (lv_at hl 4 rfl) ?_
      refine lv_iload hx hb dL_law_1563 (lv_at hl 1 rfl) ?_
      refine lv_if_ne (tgt := 1572) hx hb dL_law_1565 (by decide) (fun q9 => absurd (rfl) q9) (fun _ => ?_)
      refine lv_iconst (v := (-1)) hx hb dL_law_1568 (by decide) ?_
      refine lv_goto (tgt := 1573) hx hb dL_law_1569 (by decide) ?_
      refine lv_iadd hx hb dL_law_1573 ?_
      rw [show (((nI a1) + (-1)) : Int32) = ixL a1 0 from ix_0 a1]
      refine lv_istore (lv' := [(29, .int (ixL a1 0)), (28, .int (nI 1000)), (27, .int (nI 0)), (26, .int (nI (cnL d a1 0))), (25, .int (nI (ordD d a1))), (24, .int (nI a1)), (0, .ref b), (1, .ref (adX 0)), (2, .int (nI turn)), (3, .int (nI (dP d))), (4, .int (nI (dB d))), (6, .int (nI (cntD d))), (12, .ref (adT 0)), (13, .ref (adT 1)), (14, .ref (adT 2)), (15, .ref (adT 3)), (16, .ref (adT 4)), (17, .ref (adT 5)), (18, .ref (adT 6)), (19, .ref (adT 7)), (23, .int (nI k1))]) hx hb dL_law_1574 hl (by decide) rfl (fun ls hl => ?_)
      refine law_p10l F T hC kg (turn := turn) (k1 := k1) ha hnc hns (fun H locs hw ls hl => ?_) a1 0 (by omega) H locs hw ls (lv_sub hl [6, 7, 8, 9, 10, 11, 12, 13, 14, 15, 16, 17, 18, 19, 20, 5, 4, 3, 2, 1, 0] rfl)
      rw [cn_join] at hl
      refine lv_iinc (v := nI 1) (lv' := [(27, .int (nI 1)), (0, .ref b), (1, .ref (adX 0)), (2, .int (nI turn)), (3, .int (nI (dP d))), (4, .int (nI (dB d))), (6, .int (nI (cntD d))), (12, .ref (adT 0)), (13, .ref (adT 1)), (14, .ref (adT 2)), (15, .ref (adT 3)), (16, .ref (adT 4)), (17, .ref (adT 5)), (18, .ref (adT 6)), (19, .ref (adT 7)), (23, .int (nI k1)), (24, .int (nI a1)), (25, .int (nI (ordD d a1))), (26, .int (nI (cnR d a1 0)))]) hx hb dL_law_1658 hl (k := 18) rfl (nI_1 0) (by decide) rfl (fun ls hl => ?_)
      refine lv_goto (tgt := 1550) hx hb dL_law_1661 (by decide) ?_
      refine lv_iload hx hb dL_law_1550 (lv_at hl 0 rfl) ?_
      refine lv_iconst (v := nI 2) hx hb dL_law_1552 (by decide) ?_
      refine lv_icmp_ge (tgt := 1664) hx hb dL_law_1553 (by decide) (fun q9 => absurd q9 (nI_ge (by omega) (by omega))) (fun _ => ?_)
      refine lv_sipush (v := nI 1000) hx hb dL_law_1556 (by decide) ?_
      refine lv_istore (lv' := [(28, .int (nI 1000)), (27, .int (nI 1)), (0, .ref b), (1, .ref (adX 0)), (2, .int (nI turn)), (3, .int (nI (dP d))), (4, .int (nI (dB d))), (6, .int (nI (cntD d))), (12, .ref (adT 0)), (13, .ref (adT 1)), (14, .ref (adT 2)), (15, .ref (adT 3)), (16, .ref (adT 4)), (17, .ref (adT 5)), (18, .ref (adT 6)), (19, .ref (adT 7)), (23, .int (nI k1)), (24, .int (nI a1)), (25, .int (nI (ordD d a1))), (26, .int (nI (cnR d a1 0)))]) hx hb dL_law_1559 hl (by decide) rfl (fun ls hl => ?_)
      refine lv_iload hx hb dL_law_1561 (lv_at hl 17 rfl) ?_
      refine lv_iload hx hb dL_law_1563 (lv_at hl 1 rfl) ?_
      refine lv_if_ne (tgt := 1572) hx hb dL_law_1565 (by decide) (fun _ => ?_) (fun q9 => absurd q9 (by decide))
      refine lv_iconst (v := 1) hx hb dL_law_1572 (by decide) ?_
      refine lv_iadd hx hb dL_law_1573 ?_
      rw [show (((nI a1) + 1) : Int32) = nI (a1 + 1 + 0) from nI_add a1 1]
      refine lv_istore (lv' := [(29, .int (nI (a1 + 1 + 0))), (28, .int (nI 1000)), (27, .int (nI 1)), (0, .ref b), (1, .ref (adX 0)), (2, .int (nI turn)), (3, .int (nI (dP d))), (4, .int (nI (dB d))), (6, .int (nI (cntD d))), (12, .ref (adT 0)), (13, .ref (adT 1)), (14, .ref (adT 2)), (15, .ref (adT 3)), (16, .ref (adT 4)), (17, .ref (adT 5)), (18, .ref (adT 6)), (19, .ref (adT 7)), (23, .int (nI k1)), (24, .int (nI a1)), (25, .int (nI (ordD d a1))), (26, .int (nI (cnR d a1 0)))]) hx hb dL_law_1574 hl (by decide) rfl (fun ls hl => ?_)
      refine law_p10r F T hC kg (turn := turn) (k1 := k1) ha hnc hns (fun H locs hw ls hl => ?_) (cntD d - 1 - a1) 0 (by omega) H locs hw ls (lv_sub hl [3, 4, 5, 6, 7, 8, 9, 10, 11, 12, 13, 14, 15, 16, 17, 18, 19, 20, 2, 1, 0] rfl)
      refine lv_iinc (v := nI 2) (lv' := [(27, .int (nI 2)), (0, .ref b), (1, .ref (adX 0)), (2, .int (nI turn)), (3, .int (nI (dP d))), (4, .int (nI (dB d))), (6, .int (nI (cntD d))), (12, .ref (adT 0)), (13, .ref (adT 1)), (14, .ref (adT 2)), (15, .ref (adT 3)), (16, .ref (adT 4)), (17, .ref (adT 5)), (18, .ref (adT 6)), (19, .ref (adT 7)), (23, .int (nI k1)), (24, .int (nI a1)), (25, .int (nI (ordD d a1))), (26, .int (nI (cnR d a1 (cntD d - 1 - a1))))]) hx hb dL_law_1658 hl (k := 18) rfl (nI_1 1) (by decide) rfl (fun ls hl => ?_)
      refine lv_goto (tgt := 1550) hx hb dL_law_1661 (by decide) ?_
      refine lv_iload hx hb dL_law_1550 (lv_at hl 0 rfl) ?_
      refine lv_iconst (v := nI 2) hx hb dL_law_1552 (by decide) ?_
      refine lv_icmp_ge (tgt := 1664) hx hb dL_law_1553 (by decide) (fun _ => ?_) (fun q9 => absurd (nI_le (by omega) (by omega)) q9)
      refine lv_aload_n hx hb dL_law_1664 rfl (lv_at hl 2 rfl) ?_
      refine lv_iload hx hb dL_law_1665 (lv_at hl 16 rfl) ?_
      refine lv_iconst (v := 3) hx hb dL_law_1667 (by decide) ?_
      refine lx_i (As := [.int (nI a1), .int 3]) (rest := []) F T kg (mX6_ring l dC dI adX cy F.J σ (nI a1) 3 _ (cq_r3 hC ha)) (cwV 2 F.S.2.2.2.2 gL_law_X6_ring rfl rfl rfl dmX6_ring ⟨Nat.le_of_ble_eq_true rfl, Nat.le_of_ble_eq_true rfl⟩) hw rfl rfl hl.1 (Nat.le_of_ble_eq_true rfl) ⟨cL (by omega), sL (by omega)⟩ dL_law_1668 (fun H locs hw => ?_)
      refine lv_iload hx hb dL_law_1671 (lv_at hl 18 rfl) ?_
      refine lv_icmp_eq (tgt := 1678) hx hb dL_law_1673 (by decide) (fun _ => ?_) (fun q9 => absurd (congrArg nI hcall.symm) q9)
      refine lv_iinc (v := nI (k1 + 1)) (lv' := [(23, .int (nI (k1 + 1))), (27, .int (nI 2)), (0, .ref b), (1, .ref (adX 0)), (2, .int (nI turn)), (3, .int (nI (dP d))), (4, .int (nI (dB d))), (6, .int (nI (cntD d))), (12, .ref (adT 0)), (13, .ref (adT 1)), (14, .ref (adT 2)), (15, .ref (adT 3)), (16, .ref (adT 4)), (17, .ref (adT 5)), (18, .ref (adT 6)), (19, .ref (adT 7)), (24, .int (nI a1)), (25, .int (nI (ordD d a1))), (26, .int (nI (cnR d a1 (cntD d - 1 - a1))))]) hx hb dL_law_1678 hl (k := 15) rfl (nI_1 k1) (by decide) rfl (fun ls hl => ?_)
      refine lv_goto (tgt := 1512) hx hb dL_law_1681 (by decide) ?_
      exact ih (k1 + 1) (by omega) H locs hw ls (lv_sub hl [2, 3, 4, 5, 6, 7, 8, 9, 10, 11, 12, 13, 14, 15, 0] rfl)
end LB
