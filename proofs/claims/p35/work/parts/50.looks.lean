/-! Pure rows: calls that look at homes and barges. -/
theorem pm_homeOf {σ : St} {d : HD} {q : Nat} (hd : dOk d) (H : MH (σ 1) d) (hq : q < 360) : ∃ σ', fX7_homeOf σ (nI q) = some (oX (homeD d q), σ') ∧ ∀ a, a ≠ 2 → a ≠ 3 → σ' a = σ a := by
  have h8 := hd.1
  unfold fX7_homeOf
  have e359 : (359 : Int32) = nI 359 := pz_n359
  simp only [pz_n0, pz_n359, pz_n1, pz_n11, pz_n15, pz_neg]
  rw [pm_in1 (by omega) (by omega) (by omega) (Nat.zero_le _) (by omega), pz_bd, if_neg pz_10]
  obtain ⟨σ1, a1, a2, a3⟩ := laysRing_ok hd H
  rw [a1, pz_bd]
  simp (disch := omega) only [pz_gd, pz_cl, a2.2 q hq]
  refine ⟨σ1, ?_, a3⟩
  cases e : homeD d q with
  | none => rw [if_pos (show oM none = mI 1 from rfl)]; rfl
  | some p =>
    have := (homeD_lt e).1
    rw [if_neg (show ¬ oM (some p) = mI 1 from pz_nm (by omega) (by omega) (by omega))]
    rfl
theorem sm_homeOf {σX σM : St} (hR : allR σX σM) (a : Int32) : ∃ r σM', fX6_homeOf σX a = some r ∧ fX7_homeOf σM a = some (r, σM') ∧ allR σX σM' := by
  have hR0 := hR
  obtain ⟨⟨d, ⟨hd, c2, c3, c4⟩, c5, c6⟩, -⟩ := hR
  rcases pz_rng a 0 359 (by omega) (by omega) with h | ⟨h, h'⟩ | ⟨q, hq1, hq2, rfl⟩
  · refine ⟨mI 11, σM, ?_, ?_, hR0⟩
    · unfold fX6_homeOf
      simp only [pz_n0, pz_n11, pz_neg]
      rw [if_pos h]
    · unfold fX7_homeOf
      simp only [pz_n0, pz_n359, pz_n11, pz_neg]
      rw [pm_in0 (Or.inl h), pz_bd, if_pos rfl]
  · refine ⟨mI 11, σM, ?_, ?_, hR0⟩
    · unfold fX6_homeOf
      simp only [pz_n0, pz_n360, pz_n11, pz_neg]
      rw [if_neg h, if_pos (by
        rw [Int32.lt_iff_toInt_lt, nI_toInt (by omega)] at h'
        rw [Int32.le_iff_toInt_le, nI_toInt (by omega)]
        omega)]
    · unfold fX7_homeOf
      simp only [pz_n0, pz_n359, pz_n11, pz_neg]
      rw [pm_in0 (Or.inr ⟨h, h'⟩), pz_bd, if_pos rfl]
  · obtain ⟨σM', m1, m2⟩ := pm_homeOf (q := q) hd c3 (by omega)
    refine ⟨oX (homeD d q), σM', ?_, m1, hR0.ringed (fun a h1 h2 _ _ _ => m2 a h1 h2)⟩
    unfold fX6_homeOf
    simp only [pz_n0, pz_n360]
    rw [if_neg (nI_nlt hq1 (by omega)), if_neg (nI_ge (by omega) (by omega)), pz_homeByTree hd (by omega) c5.1, pz_bd]
theorem sm_home {σX σM : St} (hR : allR σX σM) (a : Int32) : ∃ r σM', fX6_home σX a = some r ∧ fX7_home σM a = some (r, σM') ∧ allR σX σM' := by
  have hR0 := hR
  obtain ⟨⟨d, ⟨hd, c2, c3, c4⟩, c5, c6⟩, -⟩ := hR
  have h24 := hd.2.1
  have m1 : σM 1 1 = nI (dB d) := c3.2.1
  unfold fX6_home fX7_home
  simp only [pz_n0, pz_n11, pz_neg]
  rcases pz_ask a (n := dB d) (by omega) with ⟨h1, h2⟩ | ⟨i, hi, rfl⟩
  · rw [pz_hasBarge0 (h := 0) c2.2.1 h1, pm_isBarge0 m1 h2, pz_bd, pz_bd, if_pos rfl, if_pos rfl]
    exact ⟨_, _, rfl, rfl, hR0⟩
  · obtain ⟨σM', y1, y2⟩ := pm_homeOf hd c3 (pbD_lt d i)
    rw [pz_hasBarge1 (h := 0) c2.2.1 (by omega) hi, pm_isBarge1 m1 (by omega) hi, pz_bd, pz_bd, if_neg pz_10, if_neg pz_10, pz_pointOf hd c2 hi, pz_bd, pz_homeByTree hd (pbD_lt d i) c5.1, pz_bd, pm_b0 hd c3 hi, pz_bd, pm_placeOf hd hi, pz_bd, y1, pz_bd]
    exact ⟨_, _, rfl, rfl, hR0.ringed (fun a h1 h2 _ _ _ => y2 a h1 h2)⟩
theorem sm_homeAgain {σX σM : St} (hR : allR σX σM) (a : Int32) : ∃ r σM', fX6_homeAgain σX a = some r ∧ fX7_homeAgain σM a = some (r, σM') ∧ allR σX σM' := by
  obtain ⟨r, σM', h1, h2, h3⟩ := sm_home hR a
  refine ⟨r, σM', ?_, by unfold fX7_homeAgain; rw [h2, pz_bd], h3⟩
  rw [← h1]
  obtain ⟨⟨d, ⟨hd, c2, c3, c4⟩, c5, c6⟩, -⟩ := hR
  have h24 := hd.2.1
  unfold fX6_home fX6_homeAgain
  rcases pz_ask a (n := dB d) (by omega) with ⟨h1, h2⟩ | ⟨i, hi, rfl⟩
  · rw [pz_hasBarge0 (h := 0) c2.2.1 h1, pz_bd, pz_bd]
    rfl
  · rw [pz_hasBarge1 (h := 0) c2.2.1 (by omega) hi, pz_bd, pz_bd, pz_pointOf hd c2 hi, pz_bd, pz_bd, pz_homeByTree hd (pbD_lt d i) c5.1, pz_homeAlong hd (pbD_lt d i) c5.1]
theorem sm_bargeOf {σX σM : St} (hR : allR σX σM) (a w : Int32) : ∃ r σM', fX6_bargeOf σX a w = some r ∧ fX7_bargeOf σM a w = some (r, σM') ∧ allR σX σM' := by
  have hR0 := hR
  obtain ⟨⟨d, ⟨hd, c2, c3, c4⟩, c5, c6⟩, -⟩ := hR
  have h24 := hd.2.1
  have h8 := hd.1
  have m1 : σM 1 1 = nI (dB d) := c3.2.1
  unfold fX6_bargeOf fX7_bargeOf
  simp only [pz_n0, pz_n1, pz_n2, pz_n3, pz_n4, pz_n11, pz_n12, pz_n15, pz_neg]
  rcases pz_ask a (n := dB d) (by omega) with ⟨h1, h2⟩ | ⟨i, hi, rfl⟩
  · rw [pz_hasBarge0 (h := 0) c2.2.1 h1, pm_isBarge0 m1 h2, pz_bd, pz_bd, if_pos rfl, if_pos rfl]
    exact ⟨_, _, rfl, rfl, hR0⟩
  · obtain ⟨τ, y1, y2, y3⟩ := lays_ok hd c3
    have H1 : MH (τ 1) d := by rw [y3 1 (by omega) (by omega) (by omega) (by omega) (by omega)]; exact c3
    have hfin : allR σX τ := hR0.ringed y3
    have e36 : σX 36 i = nI (dna d i) := c2.2.2.2.2.2.2.1 i hi
    have e37 : σX 37 i = nI (dto d i) := c2.2.2.2.2.2.2.2.1 i hi
    rw [pz_hasBarge1 (h := 0) c2.2.1 (by omega) hi, pm_isBarge1 m1 (by omega) hi, pz_bd, pz_bd, if_neg pz_10, if_neg pz_10, y1, pz_bd]
    simp (disch := omega) only [pz_gd, pz_cl, e36, e37, (c6.1 i hi).2.1, (c6.1 i hi).2.2, (y2.2.1 i hi).1, (y2.2.1 i hi).2, pz_pointOf hd c2 hi, pm_b0 hd H1 hi, pm_placeOf hd hi, pz_bd]
    by_cases e0 : w = nI 0
    · subst e0
      rw [if_pos rfl, if_pos rfl, pm_b0 hd H1 hi, pz_bd]
      exact ⟨_, _, rfl, rfl, hfin⟩
    by_cases e1 : w = nI 1
    · subst e1
      rw [if_neg e0, if_neg e0, if_pos rfl, if_pos rfl, pm_b1 hd H1 hi, pz_bd]
      exact ⟨_, _, rfl, rfl, hfin⟩
    rw [if_neg e0, if_neg e0, if_neg e1, if_neg e1]
    by_cases e2 : w = nI 2
    · rw [if_pos e2, if_pos e2]
      exact ⟨_, _, rfl, rfl, hfin⟩
    rw [if_neg e2, if_neg e2]
    by_cases e3 : w = nI 3
    · rw [if_pos e3, if_pos e3]
      cases el : lieD d i with
      | none =>
        rw [if_pos (show oM none = mI 1 from rfl)]
        exact ⟨_, _, rfl, rfl, hfin⟩
      | some p =>
        have := lieD_lt el
        rw [if_neg (show ¬ oM (some p) = mI 1 from pz_nm (by omega) (by omega) (by omega))]
        exact ⟨_, _, rfl, rfl, hfin⟩
    rw [if_neg e3, if_neg e3]
    by_cases e4 : w = nI 4
    · rw [if_pos e4, if_pos e4]
      exact ⟨_, _, rfl, rfl, hfin⟩
    rw [if_neg e4, if_neg e4]
    exact ⟨_, _, rfl, rfl, hfin⟩
theorem sm_meanStretch {σX σM : St} (hR : allR σX σM) : ∃ z, fX6_meanStretch σX = some z ∧ fX7_meanStretch σM = some z := by
  obtain ⟨⟨d, ⟨hd, c2, c3, c4⟩, c5, c6⟩, -⟩ := hR
  unfold fX6_meanStretch fX7_meanStretch
  rw [pz_openPiers hd c2, pz_n0, pm_sum0 hd c3, pz_bd]
  exact ⟨_, rfl, rfl⟩
theorem sm_takenShare {σX σM : St} (hR : allR σX σM) : ∃ z σM', fX6_takenShare σX = some z ∧ fX7_takenShare σM = some (z, σM') ∧ allR σX σM' := by
  have hR0 := hR
  obtain ⟨⟨d, ⟨hd, c2, c3, c4⟩, c5, c6⟩, -⟩ := hR
  unfold fX6_takenShare fX7_takenShare
  obtain ⟨τ, y1, y2, y3⟩ := lays_ok hd c3
  have H1 : MH (τ 1) d := by rw [y3 1 (by omega) (by omega) (by omega) (by omega) (by omega)]; exact c3
  rw [pz_allRoom hd c2, y1, pz_bd, pz_bd, pz_n2, pm_sum2 hd H1, pz_bd, pz_allLying hd c6, pz_bd, pz_n3, pm_sum3 hd H1 y2, pz_bd]
  by_cases e : nI (arD d) = 0
  · rw [if_pos e, if_pos e]
    exact ⟨_, _, rfl, rfl, hR0.ringed y3⟩
  · rw [if_neg e, if_neg e]
    exact ⟨_, _, rfl, rfl, hR0.ringed y3⟩
theorem sm_account {σX σM : St} (hR : allR σX σM) (a : Int32) : ∃ r σM', fX6_account σX a = some r ∧ fX7_account σM a = some (r, σM') ∧ allR σX σM' := by
  have hR0 := hR
  obtain ⟨⟨d, ⟨hd, c2, c3, c4⟩, c5, c6⟩, -, ⟨k, nx, q1, q2, q3, q4, q5, q6⟩, -, ⟨tn, t1, t2, t3, t4⟩, -⟩ := hR
  have h24 := hd.2.1
  obtain ⟨τ, y1, y2, y3⟩ := lays_ok hd c3
  have e1 : τ 1 = σM 1 := y3 1 (by omega) (by omega) (by omega) (by omega) (by omega)
  have e0 : τ 0 = σM 0 := y3 0 (by omega) (by omega) (by omega) (by omega) (by omega)
  have H1 : MH (τ 1) d := by rw [e1]; exact c3
  have hfin : allR σX τ := hR0.ringed y3
  have x4 : σX 33 4 = nI (dP d) := c2.1
  have x5 : σX 33 5 = nI (dB d) := c2.2.1
  have x6 : σX 33 6 = nI (dT d) := c2.2.2.1
  have x7 : σX 33 7 = σM 1 3 := c4
  have x15 : σX 15 5 = nI (cntD d) := c5.1.1
  have i1 : nI 1 - nI 1 = nI 0 := by decide
  have i2 : nI 2 - nI 1 = nI 1 := by decide
  have i4 : nI 4 - nI 4 = nI 0 := by decide
  have i5 : nI 5 - nI 4 = nI 1 := by decide
  have i6 : nI 6 - nI 4 = nI 2 := by decide
  have l0 := pm_lying hd H1 y2 0 (fun j => if lieD d j ≠ none ∧ lieD d j = homeD d (pbD d j) then 1 else 0) (by omega) (fun j => by
    by_cases e : lieD d j = none
    · simp [e]
    · by_cases e2 : lieD d j = homeD d (pbD d j)
      · rw [if_pos ⟨e, e2⟩, if_neg e, if_pos e2]; rfl
      · rw [if_neg (fun h => e2 h.2), if_neg e, if_neg e2]; rfl)
  have l1 := pm_lying hd H1 y2 1 (fun j => if lieD d j ≠ none ∧ lieD d j ≠ homeD d (pbD d j) then 1 else 0) (by omega) (fun j => by
    by_cases e : lieD d j = none
    · simp [e]
    · by_cases e2 : lieD d j = homeD d (pbD d j)
      · rw [if_neg (fun h => h.2 e2), if_neg e, if_pos e2]; rfl
      · rw [if_pos ⟨e, e2⟩, if_neg e, if_neg e2]; rfl)
  have l2 := pm_lying hd H1 y2 2 (fun j => if lieD d j = none then 1 else 0) (by omega) (fun j => by
    by_cases e : lieD d j = none
    · simp [e]
    · by_cases e2 : lieD d j = homeD d (pbD d j)
      · rw [if_neg e, if_neg e, if_pos e2]; rfl
      · rw [if_neg e, if_neg e, if_neg e2]; rfl)
  have hall := lie_all d (dB d)
  have e6 : nI (dB d) - nI (ahD d (dB d)) - nI (elD d (dB d)) = nI (noD d (dB d)) := by
    rw [pz_sub (by omega), pz_sub (by omega), show dB d - ahD d (dB d) - elD d (dB d) = noD d (dB d) by omega]
  have e66 : (6 : Int32) = nI 6 := by decide
  unfold fX6_account fX7_account
  rw [y1, pz_bd]
  simp only [pz_n0, pz_n1, pz_n2, pz_n3, pz_n4, pz_n5, e66, pz_n7, pz_n8, pz_n9, pz_n10, pz_n11, pz_n12, pz_n13, pz_n14, pz_neg]
  by_cases g : a = nI 0
  · rw [if_pos g, if_pos g, pz_cl (by omega), e1, c3.1, x4]
    exact ⟨_, _, rfl, rfl, hfin⟩
  rw [if_neg g, if_neg g]; clear g
  by_cases g : a = nI 1
  · rw [if_pos g, if_pos g, pz_openPiers hd c2, pz_bd, g, i1, pm_sum0 hd H1, pz_bd]
    exact ⟨_, _, rfl, rfl, hfin⟩
  rw [if_neg g, if_neg g]; clear g
  by_cases g : a = nI 2
  · rw [if_pos g, if_pos g, x15, g, i2, pm_sum1 hd H1, pz_bd]
    exact ⟨_, _, rfl, rfl, hfin⟩
  rw [if_neg g, if_neg g]; clear g
  by_cases g : a = nI 3
  · rw [if_pos g, if_pos g, pz_cl (by omega), e1, c3.2.1, x5]
    exact ⟨_, _, rfl, rfl, hfin⟩
  rw [if_neg g, if_neg g]; clear g
  by_cases g : a = nI 4
  · rw [if_pos g, if_pos g, g, i4, l0, pz_bd, c6.2.2.1]
    exact ⟨_, _, rfl, rfl, hfin⟩
  rw [if_neg g, if_neg g]; clear g
  by_cases g : a = nI 5
  · rw [if_pos g, if_pos g, g, i5, l1, pz_bd, c6.2.2.2]
    exact ⟨_, _, rfl, rfl, hfin⟩
  rw [if_neg g, if_neg g]; clear g
  by_cases g : a = nI 6
  · rw [if_pos g, if_pos g, g, i6, l2, pz_bd, x5, c6.2.2.1, c6.2.2.2, e6]
    exact ⟨_, _, rfl, rfl, hfin⟩
  rw [if_neg g, if_neg g]; clear g
  by_cases g : a = nI 7
  · rw [if_pos g, if_pos g, pz_allTons hd c2, pz_bd, pm_tons hd H1, pz_bd]
    exact ⟨_, _, rfl, rfl, hfin⟩
  rw [if_neg g, if_neg g]; clear g
  by_cases g : a = nI 8
  · rw [if_pos g, if_pos g, pz_allLying hd c6, pz_bd, pm_sum3 hd H1 y2, pz_bd]
    exact ⟨_, _, rfl, rfl, hfin⟩
  rw [if_neg g, if_neg g]; clear g
  by_cases g : a = nI 9
  · rw [if_pos g, if_pos g, pz_allRoom hd c2, pz_bd, pm_sum2 hd H1, pz_bd]
    exact ⟨_, _, rfl, rfl, hfin⟩
  rw [if_neg g, if_neg g]; clear g
  by_cases g : a = nI 10
  · rw [if_pos g, if_pos g, pz_cl (by omega), e1, x7]
    exact ⟨_, _, rfl, rfl, hfin⟩
  rw [if_neg g, if_neg g]; clear g
  by_cases g : a = nI 11
  · rw [if_pos g, if_pos g, pz_cl (by omega), e1, c3.2.2.1, x6]
    exact ⟨_, _, rfl, rfl, hfin⟩
  rw [if_neg g, if_neg g]; clear g
  by_cases g : a = nI 12
  · rw [if_pos g, if_pos g, pz_hotPiers hd c2 c6, pz_bd, pm_sum4 hd H1 y2.1, pz_bd]
    exact ⟨_, _, rfl, rfl, hfin⟩
  rw [if_neg g, if_neg g]; clear g
  by_cases g : a = nI 13
  · rw [if_pos g, if_pos g, t2, e0, t3]
    exact ⟨_, _, rfl, rfl, hfin⟩
  rw [if_neg g, if_neg g]; clear g
  by_cases g : a = nI 14
  · rw [if_pos g, if_pos g, q3, e0, q5]
    exact ⟨_, _, rfl, rfl, hfin⟩
  rw [if_neg g, if_neg g]
  exact ⟨_, _, rfl, rfl, hfin⟩
