/-! Pure rows: calls that look, and undo, save, restore. -/
theorem allR.scratch {σX σM σX' σM' : St} (H : allR σX σM) (hx : ∀ a, a < 24 ∨ (33 ≤ a ∧ a < 38) ∨ 43 ≤ a → σX' a = σX a) (h1 : ∀ j, j < 680 → σM' 1 j = σM 1 j) (h13 : σM' 13 = σM 13) (h15 : σM' 15 = σM 15) (h0 : ∀ j, j ≠ 16 → j ≠ 19 → j ≠ 20 → j ≠ 22 → σM' 0 j = σM 0 j) : allR σX' σM' := by
  obtain ⟨⟨d, a1⟩, a2, ⟨k, nx, a3⟩, a4, a5, a6⟩ := H
  have x0 : σX' 0 = σX 0 := hx 0 (by omega)
  refine ⟨⟨d, a1.congr (fun a _ _ => hx a (by omega)) (fun a _ _ => hx a (by omega)) (fun j _ => h1 j (by omega))⟩, a2.congr (by rw [x0]) (by rw [x0]) (h0 3 (by omega) (by omega) (by omega) (by omega)) (h0 4 (by omega) (by omega) (by omega) (by omega)), ⟨k, nx, a3.congr (hx 1 (by omega)) (h0 1 (by omega) (by omega) (by omega) (by omega)) (fun a ha => hx a (by omega)) (fun j _ _ => h1 j (by omega))⟩, a4.congr (by rw [x0]) (h0 2 (by omega) (by omega) (by omega) (by omega)) (fun a _ _ => hx a (by omega)) (fun j _ _ => h1 j (by omega)), a5.congr (by rw [hx 3 (by omega)]) (h0 18 (by omega) (by omega) (by omega) (by omega)) (hx 4 (by omega)) h13, a6.congr (hx 5 (by omega)) (h0 24 (by omega) (by omega) (by omega) (by omega)) (hx 6 (by omega)) h15⟩
theorem allR.ringed {σX σM σM' : St} (H : allR σX σM) (h : ∀ a, a ≠ 2 → a ≠ 3 → a ≠ 5 → a ≠ 6 → a ≠ 7 → σM' a = σM a) : allR σX σM' :=
  H.scratch (fun _ _ => rfl) (fun j _ => by rw [h 1 (by omega) (by omega) (by omega) (by omega) (by omega)]) (h 13 (by omega) (by omega) (by omega) (by omega) (by omega)) (h 15 (by omega) (by omega) (by omega) (by omega) (by omega)) (fun j _ _ _ _ => by rw [h 0 (by omega) (by omega) (by omega) (by omega) (by omega)])
theorem sm_reason {σX σM : St} (hR : allR σX σM) (a : Int32) (ha : a = 0 ∨ a = 1) : ∃ r, fX6_reason σX a = some r ∧ fX7_reason σM a = some r := by
  obtain ⟨-, hr, -⟩ := hR
  unfold fX6_reason fX7_reason
  rw [pz_n0, pz_n15, pz_neg]
  rcases hr with ⟨h1, h2, h3⟩ | ⟨h1, h2, h3⟩
  · rw [h1, h2, h3, if_pos rfl]
    by_cases e : a = nI 0
    · rw [if_pos e]; exact ⟨_, rfl, rfl⟩
    · rw [if_neg e]; exact ⟨_, rfl, rfl⟩
  · rw [if_neg h1, h2, h3]
    by_cases e : a = nI 0
    · rw [if_pos e]; exact ⟨_, rfl, rfl⟩
    · rw [if_neg e]; exact ⟨_, rfl, rfl⟩
theorem sm_character {σX σM : St} (hR : allR σX σM) (a : Int32) : ∃ r, fX6_character σX a = some r ∧ fX7_character σM a = some r := by
  obtain ⟨-, -, -, -, -, n, hn, h1, h2, h3⟩ := hR
  unfold fX6_character fX7_character fX7_in
  rw [h1, h2]
  simp only [pz_n0, pz_n11, pz_n1, pz_neg]
  rcases pz_ask a (n := n) (by omega) with ⟨ha, hb⟩ | ⟨p, hp, rfl⟩
  · refine ⟨mI 11, ?_, ?_⟩
    · rcases ha with h | ⟨h, h'⟩
      · rw [if_pos h]
      · rw [if_neg h, if_pos h']
    · rcases hb with h | ⟨h, h'⟩
      · rw [if_pos h, pz_bd, if_pos rfl]
      · rw [if_neg h, if_pos h', pz_bd, if_pos rfl]
  · obtain ⟨c, c1, c2, c3⟩ := h3 p hp
    rw [if_neg (nI_nlt (Nat.zero_le _) (by omega)), if_neg (nI_ge hp (by omega)), if_neg (nI_nlt (Nat.zero_le _) (by omega)), if_neg (pz_subl (by omega) hp), pz_bd, if_neg pz_10]
    simp (disch := omega) only [pz_gd, pz_cl, c2, c3]
    exact ⟨_, rfl, rfl⟩
theorem sm_append {σX σM : St} (hR : allR σX σM) (a : Int32) : ∃ r σX' σM', fX6_append σX a = some (r, σX') ∧ fX7_append σM a = some (r, σM') ∧ allR σX' σM' := by
  have hR0 := hR
  obtain ⟨⟨d, a1⟩, a2, ⟨k, nx, a3⟩, a4, ⟨n, hn, h1, h2, h3⟩, a6⟩ := hR
  unfold fX6_append fX7_append
  have e32 : (32 : Int32) = nI 32 := by decide
  have e126 : (126 : Int32) = nI 126 := by decide
  simp only [pz_n0, pz_n12, pz_n13, pz_n1, pz_n60, pz_neg, e32, e126]
  by_cases hbad : a < nI 32 ∨ (¬ a < nI 32 ∧ nI 126 < a)
  · rw [pm_in0 hbad, pz_bd, if_pos rfl]
    refine ⟨mI 12, σX, σM, ?_, rfl, hR0⟩
    rcases hbad with h | ⟨h1, h2⟩
    · rw [if_pos h]
    · rw [if_neg h1, if_neg (pz_le_of h2)]
  obtain ⟨c, c1, c2, rfl⟩ : ∃ b, 32 ≤ b ∧ b ≤ 126 ∧ a = nI b := by
    rcases pz_rng a 32 126 (by omega) (by omega) with h | h | h
    · exact absurd (Or.inl h) hbad
    · exact absurd (Or.inr h) hbad
    · exact h
  rw [pm_in1 (by omega) (by omega) (by omega) c1 c2, pz_bd, if_neg pz_10, if_neg (nI_nlt c1 (by omega)), if_pos (nI_le c2 (by omega)), pz_i2c (by omega)]
  unfold fX5_add
  simp only [pz_n60, h1, h2, pz_n1, pz_n0]
  by_cases hf : n = 60
  · subst hf
    rw [if_neg (nI_nlt (Nat.le_refl _) (by omega)), pz_bd, if_pos rfl, if_pos rfl]
    exact ⟨_, _, _, rfl, rfl, hR0⟩
  · rw [if_pos (nI_lt (by omega) (by omega)), if_neg (by rw [nI_eq (by omega) (by omega)]; exact hf)]
    simp (disch := omega) only [pz_gd, pz_nm_, pz_cl, pz_su_n, h1, h2, nI_add, pz_bd, pz_narC, pz_10, if_false, pz_su_s]
    refine ⟨_, _, _, rfl, rfl, ?_⟩
    refine ⟨⟨d, a1.congr (fun a x1 x2 => by rw [pz_su_r _ _ (by omega), pz_su_r _ _ (by omega)]) (fun a x1 x2 => by rw [pz_su_r _ _ (by omega), pz_su_r _ _ (by omega)]) (fun j _ => by rw [pz_su_n _ _ (by omega), pz_su_n _ _ (by omega)])⟩, a2.congr (by rw [pz_su_n _ _ (by omega), pz_su_n _ _ (by omega)]) (by rw [pz_su_n _ _ (by omega), pz_su_n _ _ (by omega)]) (by rw [pz_su_n _ _ (by omega), pz_su_n _ _ (by omega)]) (by rw [pz_su_n _ _ (by omega), pz_su_n _ _ (by omega)]), ⟨k, nx, a3.congr (by rw [pz_su_r _ _ (by omega), pz_su_r _ _ (by omega)]) (by rw [pz_su_n _ _ (by omega), pz_su_n _ _ (by omega)]) (fun a x1 => by rw [pz_su_r _ _ (by omega), pz_su_r _ _ (by omega)]) (fun j _ _ => by rw [pz_su_n _ _ (by omega), pz_su_n _ _ (by omega)])⟩, a4.congr (by rw [pz_su_n _ _ (by omega), pz_su_n _ _ (by omega)]) (by rw [pz_su_n _ _ (by omega), pz_su_n _ _ (by omega)]) (fun a x1 x2 => by rw [pz_su_r _ _ (by omega), pz_su_r _ _ (by omega)]) (fun j _ _ => by rw [pz_su_n _ _ (by omega), pz_su_n _ _ (by omega)]), ?_, a6.congr (by rw [pz_su_r _ _ (by omega), pz_su_r _ _ (by omega)]) (by rw [pz_su_n _ _ (by omega), pz_su_n _ _ (by omega)]) (by rw [pz_su_r _ _ (by omega), pz_su_r _ _ (by omega)]) (by rw [pz_su_r _ _ (by omega), pz_su_r _ _ (by omega)])⟩
    refine ⟨n + 1, by omega, by rw [pz_su_s], by rw [pz_su_s], fun i hi => ?_⟩
    by_cases e : i = n
    · subst e
      exact ⟨c, c1, c2, by rw [pz_su_n _ _ (by omega), pz_su_s], by rw [pz_su_n _ _ (by omega), pz_su_s]⟩
    · obtain ⟨c', x1, x2, x3, x4⟩ := h3 i (by omega)
      exact ⟨c', x1, x2, by rw [pz_su_n _ _ (by omega), pz_su_n _ _ (by omega)]; exact x3, by rw [pz_su_n _ _ (by omega), pz_su_n _ _ (by omega)]; exact x4⟩
theorem settleAnew_ok {σ : St} {d : HD} (hd : dOk d) (H : XH 0 σ d) : ∃ σ', fX6_settleAnew σ = some σ' ∧ XH 0 σ' d ∧ cirOk 0 σ' d ∧ moorX σ' d (dB d) ∧ ∀ a, a < 7 ∨ 24 ≤ a → σ' a = σ a := by
  unfold fX6_settleAnew
  obtain ⟨σ1, a1, a2, a3⟩ := build_ok (cx := 0) (by omega) hd H
  rw [a1, pz_bd]
  have H1 : XH 0 σ1 d := H.congr (fun a x1 x2 => a3 a (by omega))
  obtain ⟨σ2, b1, b2, b3⟩ := settle_ok (h := 0) (cx := 0) hd (by omega) H1 a2
  rw [b1, pz_bd]
  exact ⟨σ2, rfl, H1.congr (fun a x1 x2 => b3 a (by omega)), a2.congr (fun a x1 x2 => b3 a (by omega)), b2, fun a ha => by rw [b3 a (by omega), a3 a (by omega)]⟩
/-- another harbour is taken, and settled anew -/
theorem retake_ok {h : Nat} {σX : St} {r : Nat → Int32} {d : HD} (hne : h ≠ 0) (H : hR h σX r d) : ∃ τ σX', fX1_takeFrom 0 h σX = some τ ∧ fX6_settleAnew τ = some σX' ∧ hR 0 σX' r d ∧ cirOk 0 σX' d ∧ moorX σX' d (dB d) ∧ (∀ a, a < 33 ∨ 38 ≤ a → τ a = σX a) ∧ ∀ a, a < 7 ∨ (24 ≤ a ∧ a < 33) ∨ 38 ≤ a → σX' a = σX a := by
  obtain ⟨hd, h1, h2, h3⟩ := H
  obtain ⟨τ, x1, x2, x3, x4⟩ := takeFrom_ok (h := 0) (h2 := h) hd (by omega) h1
  obtain ⟨σX', y1, y2, y3, y4, y5⟩ := settleAnew_ok hd x2
  refine ⟨τ, σX', x1, y1, ⟨hd, y2, h2, ?_⟩, y3, y4, fun a ha => x4 a (by omega), fun a ha => by rw [y5 a (by omega), x4 a (by omega)]⟩
  rw [y5 _ (by omega), x3]
  exact h3
theorem sm_undo {σX σM : St} (hR : allR σX σM) : ∃ r σX' σM', fX6_undo σX = some (r, σX') ∧ fX7_undo σM = some (r, σM') ∧ allR σX' σM' := by
  have hR0 := hR
  obtain ⟨⟨d, a1⟩, a2, ⟨k, nx, h1, h2, h3, h4, h5, h6⟩, a4, a5, a6⟩ := hR
  unfold fX6_undo fX7_undo
  rw [h3, h5]
  simp only [pz_n15, pz_neg, pz_n0, pz_n1]
  by_cases e : k = 0
  · subst e
    rw [if_pos rfl, if_pos rfl]
    exact ⟨_, _, _, rfl, rfl, hR0⟩
  have ne : ¬ nI k = nI 0 := by rw [nI_eq (by omega) (by omega)]; exact e
  rw [if_neg ne, if_neg ne]
  unfold fX2_takeBackInto
  rw [h3, pz_n0, if_neg (nI_ge (by omega) (by omega))]
  simp (disch := omega) only [pz_n1, pz_n9, pz_nm_, pz_sub, pz_su_n, h4, nI_add, pz_rem, pz_su_s, pz_gd, pz_cl]
  obtain ⟨τ0, f0⟩ : ∃ z, z = su (su σX 1 0 (nI (k - 1))) 1 2 (nI ((nx + 9 - 1) % 9)) := ⟨_, rfl⟩
  rw [← f0]
  have g0 : ∀ a, a ≠ 1 → τ0 a = σX a := fun a ha => by rw [f0, pz_su_r _ _ ha, pz_su_r _ _ ha]
  obtain ⟨d', hd'⟩ := h6 (k - 1) (by omega)
  have e1 : (nx + 9 - k + (k - 1)) % 9 = (nx + 9 - 1) % 9 := by omega
  rw [e1, show 1 + (k - 1) = k by omega] at hd'
  have hd2 : hR (3 + (nx + 9 - 1) % 9) τ0 (rowM σM k) d' := hd'.congr (fun a x1 x2 => g0 a (by omega)) (fun _ _ => rfl)
  obtain ⟨τ1, σX', x1, x2, x3, x4, x5, x6, x7⟩ := retake_ok (by omega) hd2
  obtain ⟨τM, y1, y2, y3, y4⟩ := copies_ok (a := k) (b := 0) (σ := σM) (by omega) (by omega) (by omega)
  rw [x1, pz_bd, pz_bd, x2, pz_bd, y1, pz_bd]
  have e0 : τ0 1 0 = nI (k - 1) := by rw [f0, pz_su_n _ _ (by omega), pz_su_s]
  have e2 : τ0 1 2 = nI ((nx + 9 - 1) % 9) := by rw [f0, pz_su_s]
  have z1 : σX' 1 = τ0 1 := x7 1 (by omega)
  rw [z1, e0, y4 0 (by omega), h5, pz_sub (by omega)]
  refine ⟨_, _, _, rfl, rfl, ?_⟩
  have m1 : ∀ a, a ≠ 0 → su τM 0 1 (nI (k - 1)) a = τM a := fun a ha => by rw [pz_su_r _ _ ha]
  have m0 : ∀ j, j ≠ 1 → su τM 0 1 (nI (k - 1)) 0 j = σM 0 j := fun j hj => by rw [pz_su_n _ _ (by omega), y4 0 (by omega)]
  have w : ∀ a, a ≠ 1 → a < 7 ∨ (24 ≤ a ∧ a < 33) ∨ 38 ≤ a → σX' a = σX a := fun a h ha => by rw [x7 a ha, g0 a h]
  refine ⟨⟨d', ⟨x3.congr (fun _ _ _ => rfl) (fun j hj => ?_), x4, x5⟩⟩, ?_, ⟨k - 1, (nx + 9 - 1) % 9, by omega, Nat.mod_lt _ (by omega), by rw [z1]; exact e0, by rw [z1]; exact e2, pz_su_s _ _ _ _, fun i hi => ?_⟩, ?_, ?_, ?_⟩
  · rw [m1 1 (by omega)]
    have := y2 j hj
    rw [Nat.mul_zero, Nat.zero_add] at this
    exact this
  · exact a2.congr (by rw [w 0 (by omega) (by omega)]) (by rw [w 0 (by omega) (by omega)]) (m0 3 (by omega)) (m0 4 (by omega))
  · obtain ⟨e5, he5⟩ := h6 i (by omega)
    refine ⟨e5, ?_⟩
    have e3 : ((nx + 9 - 1) % 9 + 9 - (k - 1) + i) % 9 = (nx + 9 - k + i) % 9 := by omega
    rw [e3]
    refine he5.congr (fun a _ _ => w a (by omega) (by omega)) (fun j hj => ?_)
    show su τM 0 1 (nI (k - 1)) 1 (68 * (1 + i) + j) = σM 1 (68 * (1 + i) + j)
    rw [m1 1 (by omega), y3 _ (by omega)]
  · exact a4.congr (by rw [w 0 (by omega) (by omega)]) (m0 2 (by omega)) (fun a _ _ => w a (by omega) (by omega)) (fun j _ _ => by rw [m1 1 (by omega), y3 _ (by omega)])
  · exact a5.congr (by rw [w 3 (by omega) (by omega)]) (m0 18 (by omega)) (w 4 (by omega) (by omega)) (by rw [m1 13 (by omega), y4 13 (by omega)])
  · exact a6.congr (w 5 (by omega) (by omega)) (m0 24 (by omega)) (w 6 (by omega) (by omega)) (by rw [m1 15 (by omega), y4 15 (by omega)])
theorem sm_save {σX σM : St} (hR : allR σX σM) : ∃ r σX' σM', fX6_save σX = some (r, σX') ∧ fX7_save σM = some (r, σM') ∧ allR σX' σM' := by
  obtain ⟨⟨d, a1⟩, a2, ⟨k, nx, a3⟩, a4, a5, a6⟩ := hR
  have hc := a1
  obtain ⟨⟨hd, c2, c3, c4⟩, c5, c6⟩ := a1
  have h24 := hd.2.1
  unfold fX6_save fX7_save
  obtain ⟨τ, x1, x2, x3, x4⟩ := takeFrom_ok (h := 2) (h2 := 0) hd (by omega) c2
  rw [x1, pz_bd]
  simp (disch := omega) only [pz_n0, pz_n1, pz_n9, pz_nm_, pz_cl]
  obtain ⟨τM, y1, y2, y3, y4⟩ := copies_ok (a := 0) (b := 9) (σ := su σM 0 2 (nI 1)) (by omega) (by omega) (by omega)
  rw [y1, pz_bd]
  have m1 : ∀ j, su σM 0 2 (nI 1) 1 j = σM 1 j := fun j => by rw [pz_su_n _ _ (by omega)]
  have e5 : su τ 0 9 (nI 1) 33 5 = nI (dB d) := by rw [pz_su_n _ _ (by omega), x4 33 (by omega)]; exact c2.2.1
  have e6 : τM 1 1 = nI (dB d) := by rw [y3 1 (by omega), m1]; exact c3.2.1
  rw [e5, e6]
  refine ⟨_, _, _, rfl, rfl, ?_⟩
  have w : ∀ a, a ≠ 0 → a < 43 ∨ 48 ≤ a → su τ 0 9 (nI 1) a = σX a := fun a h ha => by rw [pz_su_r _ _ h, x4 a (by omega)]
  have w0 : ∀ j, j ≠ 9 → su τ 0 9 (nI 1) 0 j = σX 0 j := fun j hj => by rw [pz_su_n _ _ (by omega), x4 0 (by omega)]
  have v0 : ∀ j, j ≠ 2 → τM 0 j = σM 0 j := fun j hj => by rw [y4 0 (by omega), pz_su_n _ _ (by omega)]
  have v : ∀ a, a ≠ 0 → a ≠ 1 → τM a = σM a := fun a h0 h1 => by rw [y4 a h1, pz_su_r _ _ h0]
  have v1 : ∀ j, j < 612 ∨ 680 ≤ j → τM 1 j = σM 1 j := fun j hj => by rw [y3 j (by omega), m1]
  refine ⟨⟨d, hc.congr (fun a _ _ => w a (by omega) (by omega)) (fun a _ _ => w a (by omega) (by omega)) (fun j _ => v1 j (by omega))⟩, a2.congr (w0 10 (by omega)) (w0 11 (by omega)) (v0 3 (by omega)) (v0 4 (by omega)), ⟨k, nx, a3.congr (w 1 (by omega) (by omega)) (v0 1 (by omega)) (fun a _ => w a (by omega) (by omega)) (fun j _ _ => v1 j (by omega))⟩, Or.inr ⟨?_, ?_, d, ?_⟩, a5.congr (by rw [w 3 (by omega) (by omega)]) (v0 18 (by omega)) (w 4 (by omega) (by omega)) (v 13 (by omega) (by omega)), a6.congr (w 5 (by omega) (by omega)) (v0 24 (by omega)) (w 6 (by omega) (by omega)) (v 15 (by omega) (by omega))⟩
  · rw [pz_su_s]; exact pz_10
  · rw [y4 0 (by omega), pz_su_s]; exact pz_10
  · have r9 : ∀ j, j < 68 → rowM τM 9 j = σM 1 j := fun j hj => by
      have := y2 j hj
      rw [Nat.mul_zero, Nat.zero_add, m1] at this
      exact this
    refine ⟨hd, x2.congr (fun a _ _ => by rw [pz_su_r _ _ (by omega)]), c3.congr (fun j hj _ => r9 j hj) hd, ?_⟩
    rw [pz_su_r _ _ (by omega), x3, r9 3 (by omega)]
    exact c4
theorem sm_restore {σX σM : St} (hR : allR σX σM) : ∃ r σX' σM', fX6_restore σX = some (r, σX') ∧ fX7_restore σM = some (r, σM') ∧ allR σX' σM' := by
  have hR0 := hR
  obtain ⟨⟨d, a1⟩, a2, ⟨k, nx, a3⟩, a4, a5, a6⟩ := hR
  have hs := a4
  unfold fX6_restore fX7_restore
  simp only [pz_n0, pz_n15, pz_n9, pz_neg]
  rcases a4 with ⟨s1, s2⟩ | ⟨s1, s2, d', hd'⟩
  · rw [if_pos s1, if_pos s2]
    exact ⟨_, _, _, rfl, rfl, hR0⟩
  rw [if_neg s1, if_neg s2]
  have h24 := hd'.1.2.1
  obtain ⟨τ1, x0, x1, x2, x3⟩ := takeFrom_ok (h := 0) (h2 := 2) hd'.1 (by omega) hd'.2.1
  rw [x0, pz_bd]
  unfold fX2_forgetAll
  rw [pz_nm_, pz_bd, pz_n0]
  have H1 : XH 0 (su τ1 1 0 (nI 0)) d' := x1.congr (fun a _ _ => by rw [pz_su_r _ _ (by omega)])
  obtain ⟨σX', b1, b2, b3, b4, b5⟩ := settleAnew_ok hd'.1 H1
  rw [b1, pz_bd]
  obtain ⟨τM, y1, y2, y3, y4⟩ := copies_ok (a := 9) (b := 0) (σ := σM) (by omega) (by omega) (by omega)
  rw [y1, pz_bd]
  simp (disch := omega) only [pz_nm_, pz_n1, pz_cl]
  have r0 : ∀ j, j < 68 → τM 1 j = rowM σM 9 j := fun j hj => by
    have := y2 j hj
    rw [Nat.mul_zero, Nat.zero_add] at this
    exact this
  have m1 : ∀ j, su τM 0 1 (nI 0) 1 j = τM 1 j := fun j => by rw [pz_su_n _ _ (by omega)]
  have e5 : σX' 33 5 = nI (dB d') := b2.2.1
  have e6 : su τM 0 1 (nI 0) 1 1 = nI (dB d') := by rw [m1, r0 1 (by omega)]; exact hd'.2.2.1.2.1
  rw [e5, e6]
  refine ⟨_, _, _, rfl, rfl, ?_⟩
  have w : ∀ a, a ≠ 1 → a < 7 ∨ (24 ≤ a ∧ a < 33) ∨ 38 ≤ a → σX' a = σX a := fun a h ha => by rw [b5 a (by omega), pz_su_r _ _ h, x3 a (by omega)]
  have v0 : ∀ j, j ≠ 1 → su τM 0 1 (nI 0) 0 j = σM 0 j := fun j hj => by rw [pz_su_n _ _ (by omega), y4 0 (by omega)]
  have v : ∀ a, a ≠ 0 → a ≠ 1 → su τM 0 1 (nI 0) a = σM a := fun a h0 h1 => by rw [pz_su_r _ _ h0, y4 a h1]
  obtain ⟨q1, q2, q3, q4, q5, q6⟩ := a3
  refine ⟨⟨d', ⟨hd'.1, b2, hd'.2.2.1.congr (fun j hj _ => by rw [m1, r0 j hj]) hd'.1, ?_⟩, b3, b4⟩, a2.congr (by rw [w 0 (by omega) (by omega)]) (by rw [w 0 (by omega) (by omega)]) (v0 3 (by omega)) (v0 4 (by omega)), ⟨0, nx, by omega, q2, ?_, ?_, pz_su_s _ _ _ _, fun i hi => absurd hi (Nat.not_lt_zero _)⟩, hs.congr (by rw [w 0 (by omega) (by omega)]) (v0 2 (by omega)) (fun a _ _ => w a (by omega) (by omega)) (fun j _ _ => by rw [m1, y3 j (by omega)]), a5.congr (by rw [w 3 (by omega) (by omega)]) (v0 18 (by omega)) (w 4 (by omega) (by omega)) (v 13 (by omega) (by omega)), a6.congr (w 5 (by omega) (by omega)) (v0 24 (by omega)) (w 6 (by omega) (by omega)) (v 15 (by omega) (by omega))⟩
  · rw [b5 _ (by omega), pz_su_r _ _ (by omega), x2, m1, r0 3 (by omega)]
    exact hd'.2.2.2
  · rw [b5 1 (by omega), pz_su_s]
  · rw [b5 1 (by omega), pz_su_n _ _ (by omega), x3 1 (by omega)]
    exact q4
