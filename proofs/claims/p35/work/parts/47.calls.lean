/-! Pure rows: a change is begun, tried and kept, in both systems; the calls that change. -/
theorem row0 (σ : St) : rowM σ 0 = σ 1 := by
  funext j
  unfold rowM
  rw [Nat.mul_zero, Nat.zero_add]
theorem begin_ok {σX σM : St} {d : HD} {k nx : Nat} (hc : coreR σX σM d) (hr : reasonR σX σM) (hh : histK k nx σX σM) (hs : snapR σX σM) (ht : textR σX σM) (hl : lineR σX σM) :
    ∃ σX' σM', fX2_draft 0 σX = some σX' ∧ fX7_begins σM = some σM' ∧ coreR σX' σM' d ∧ reasonR σX' σM' ∧ begR k nx d σX' σM' ∧ textR σX' σM' ∧ (∀ a, a < 48 → σX' a = σX a) ∧ (∀ a, a ≠ 1 → σM' a = σM a) ∧ ∀ j, j < 68 → rowM σM' 10 j = σM' 1 j := by
  obtain ⟨h1, h2, h3, h4, h5, h6⟩ := hh
  obtain ⟨⟨hd, c2, c3, c4⟩, c5, c6⟩ := hc
  obtain ⟨σX', x1, x2, x3, x4⟩ := takeFrom_ok (h := 3 + nx) (h2 := 0) hd (by omega) c2
  obtain ⟨σM', y1, y2, y3, y4⟩ := copies_ok (a := 0) (b := 10) (σ := σM) (by omega) (by omega) (by omega)
  have m1 : ∀ j, j < 68 → σM' 1 j = σM 1 j := fun j hj => y3 j (by omega)
  have r10 : ∀ j, j < 68 → rowM σM' 10 j = σM 1 j := fun j hj => by
    have := y2 j hj
    rw [Nat.mul_zero, Nat.zero_add] at this
    exact this
  refine ⟨σX', σM', ?_, ?_, ?_, ?_, ⟨?_, ?_, ?_, ?_⟩, ?_, fun a ha => x4 a (by omega), y4, fun j hj => by rw [r10 j hj, m1 j hj]⟩
  · unfold fX2_draft
    rw [h4]
    simp (disch := omega) only [pz_gd, pz_cl, x1, pz_bd]
  · unfold fX7_begins
    rw [pz_n0, pz_n10, y1, pz_bd]
  · exact coreR.congr ⟨⟨hd, c2, c3, c4⟩, c5, c6⟩ (fun a _ _ => x4 a (by omega)) (fun a _ _ => x4 a (by omega)) m1
  · exact hr.congr (by rw [x4 0 (by omega)]) (by rw [x4 0 (by omega)]) (by rw [y4 0 (by omega)]) (by rw [y4 0 (by omega)])
  · refine ⟨h1, h2, by rw [x4 1 (by omega)]; exact h3, by rw [x4 1 (by omega)]; exact h4, by rw [y4 0 (by omega)]; exact h5, fun i hi => ?_⟩
    obtain ⟨e, he⟩ := h6 i hi
    refine ⟨e, he.congr (fun a a1 a2 => x4 a ?_) (fun j hj => y3 _ (by omega))⟩
    omega
  · refine ⟨hd, x2, c3.congr (fun j hj _ => r10 j hj) hd, ?_⟩
    rw [x3, r10 3 (by omega)]
    exact c4
  · exact hs.congr (by rw [x4 0 (by omega)]) (by rw [y4 0 (by omega)]) (fun a _ _ => x4 a (by omega)) (fun j a1 a2 => y3 j (by omega))
  · exact hl.congr (x4 5 (by omega)) (by rw [y4 0 (by omega)]) (x4 6 (by omega)) (y4 15 (by omega))
  · exact ht.congr (by rw [x4 3 (by omega)]) (by rw [y4 0 (by omega)]) (x4 4 (by omega)) (y4 13 (by omega))
theorem keepDraft_ok {σ : St} {k nx : Nat} (hk : k ≤ 8) (hn : nx < 9) (h1 : σ 1 0 = nI k) (h2 : σ 1 2 = nI nx) : ∃ σ', fX2_keepDraft σ = some σ' ∧ σ' 1 0 = nI (min (k + 1) 8) ∧ σ' 1 2 = nI ((nx + 1) % 9) ∧ ∀ a, a ≠ 1 → σ' a = σ a := by
  unfold fX2_keepDraft
  simp (disch := omega) only [pz_n1, pz_n9, pz_n8, pz_nm_, h1, h2, nI_add, pz_rem, pz_su_n]
  refine ⟨_, rfl, ?_, ?_, fun a ha => by rw [pz_su_r _ _ ha, pz_su_r _ _ ha]⟩
  · rw [pz_su_s]
    by_cases e : 8 < k + 1
    · rw [if_pos (nI_lt e (by omega)), Nat.min_eq_right (by omega)]
    · rw [if_neg (nI_nlt (by omega) (by omega)), Nat.min_eq_left (by omega)]
  · rw [pz_su_n _ _ (by omega), pz_su_s]
theorem shift_ok {σ : St} {K : St → Option (Int32 × St)} : ∃ σ', fX7_ends_L31 K 1000 σ (nI 1) = K σ' ∧ (∀ i, 1 ≤ i → i < 8 → ∀ j, j < 68 → rowM σ' i j = rowM σ (i + 1) j) ∧ (∀ j, j < 68 ∨ 544 ≤ j → σ' 1 j = σ 1 j) ∧ ∀ a, a ≠ 1 → σ' a = σ a := by
  refine pz_loop (F := fun m τ k => fX7_ends_L31 K m τ (nI (k + 1))) (P := fun o => ∃ σ', o = K σ' ∧ (∀ i, 1 ≤ i → i < 8 → ∀ j, j < 68 → rowM σ' i j = rowM σ (i + 1) j) ∧ (∀ j, j < 68 ∨ 544 ≤ j → σ' 1 j = σ 1 j) ∧ ∀ a, a ≠ 1 → σ' a = σ a) (fun k τ => (∀ i, 1 ≤ i → i < k + 1 → ∀ j, j < 68 → rowM τ i j = rowM σ (i + 1) j) ∧ (∀ j, j < 68 ∨ 68 * (k + 1) ≤ j → τ 1 j = σ 1 j) ∧ ∀ a, a ≠ 1 → τ a = σ a) 7 ?_ ?_ 7 0 σ 1000 (by omega) (by omega) ⟨fun i h1 h2 => by omega, fun _ _ => rfl, fun _ _ => rfl⟩
  · intro n τ ⟨h1, h2, h3⟩
    refine ⟨τ, ?_, h1, fun j hj => h2 j (by omega), h3⟩
    show fX7_ends_L31 K (n + 1) τ (nI 8) = K τ
    rw [fX7_ends_L31, pz_n8, if_pos (nI_le (Nat.le_refl _) (by omega))]
  · intro n k τ hk ⟨h1, h2, h3⟩
    right
    show ∃ b', _ ∧ fX7_ends_L31 K (n + 1) τ (nI (k + 1)) = fX7_ends_L31 K n b' (nI (k + 1 + 1))
    obtain ⟨τ', y1, y2, y3, y4⟩ := copies_ok (a := k + 1 + 1) (b := k + 1) (σ := τ) (by omega) (by omega) (by omega)
    rw [fX7_ends_L31, pz_n8, if_neg (nI_ge (by omega) (by omega)), pz_n1, nI_add, y1, pz_bd, pz_nm_]
    refine ⟨τ', ⟨fun i a1 a2 j hj => ?_, fun j hj => ?_, fun a ha => by rw [y4 a ha]; exact h3 a ha⟩, rfl⟩
    · by_cases e : i = k + 1
      · subst e
        show τ' 1 (68 * (k + 1) + j) = σ 1 (68 * (k + 1 + 1) + j)
        rw [y2 j hj]
        exact h2 _ (by omega)
      · show τ' 1 (68 * i + j) = _
        rw [y3 _ (by omega)]
        exact h1 i a1 (by omega) j hj
    · rw [y3 j (by omega)]
      exact h2 j (by omega)
theorem ends_keep {σM : St} {k n : Nat} (hk : k ≤ 8) (h5 : σM 0 1 = nI k) (hn : n < 2 ^ 31) :
    ∃ σM', fX7_ends σM (nI n) = some (nI n, σM') ∧ σM' 0 1 = nI (min (k + 1) 8) ∧ (∀ j, j < 68 ∨ 612 ≤ j → σM' 1 j = σM 1 j) ∧ (∀ j, j < 68 → rowM σM' (min (k + 1) 8) j = rowM σM 10 j) ∧ (∀ i, 1 ≤ i → i < min (k + 1) 8 → ∀ j, j < 68 → rowM σM' i j = rowM σM (if k = 8 then i + 1 else i) j) ∧ (∀ a, a ≠ 0 → a ≠ 1 → σM' a = σM a) ∧ ∀ j, j ≠ 1 → σM' 0 j = σM 0 j := by
  unfold fX7_ends fX7_in
  simp only [pz_n15, pz_n11, pz_n0, pz_n1, pz_n8, pz_neg, h5]
  rw [if_neg (show ¬ nI n < mI 15 from pz_nlm hn (by omega)), if_pos (show mI 11 < nI n from pz_mlt hn (by omega) (by omega)), pz_bd, if_pos rfl]
  by_cases e : k = 8
  · subst e
    rw [if_pos rfl]
    obtain ⟨τ, s1, s2, s3, s4⟩ := shift_ok (σ := σM) (K := fun σ => fX7_ends_B51 σ (nI n))
    rw [s1]
    unfold fX7_ends_B51 fX7_ends_B61
    simp (disch := omega) only [pz_n1, pz_nm_, s4, h5, pz_sub, pz_su_s, nI_add]
    obtain ⟨τ1, f1⟩ : ∃ z, z = su (su τ 0 1 (nI (8 - 1))) 0 1 (nI (8 - 1 + 1)) := ⟨_, rfl⟩
    rw [← f1]
    have g1 : ∀ a, a ≠ 0 → τ1 a = τ a := fun a ha => by rw [f1, pz_su_r _ _ ha, pz_su_r _ _ ha]
    have g0 : τ1 0 1 = nI 8 := by rw [f1, pz_su_s]
    have gj : ∀ j, j ≠ 1 → τ1 0 j = σM 0 j := fun j hj => by rw [f1, pz_su_n _ _ (by omega), pz_su_n _ _ (by omega), s4 0 (by omega)]
    obtain ⟨τ2, y1, y2, y3, y4⟩ := copies_ok (a := 10) (b := 8) (σ := τ1) (by omega) (by omega) (by omega)
    rw [pz_n10]
    show ∃ σM', (bd (fX7_copies τ1 (nI 10) (nI 8)) fun r2 => some (nI n, r2)) = some (nI n, σM') ∧ _
    rw [y1, pz_bd]
    refine ⟨τ2, rfl, by rw [y4 0 (by omega), g0]; rfl, fun j hj => ?_, fun j hj => ?_, fun i a1 a2 j hj => ?_, fun a a0 a1 => by rw [y4 a a1, g1 a a0, s4 a a1], fun j hj => by rw [y4 0 (by omega)]; exact gj j hj⟩
    · rw [y3 j (by omega), g1 1 (by omega), s3 j (by omega)]
    · show τ2 1 (68 * 8 + j) = σM 1 (68 * 10 + j)
      rw [y2 j hj, g1 1 (by omega), s3 _ (by omega)]
    · have a3 : i < 8 := a2
      rw [if_pos trivial]
      show τ2 1 (68 * i + j) = _
      rw [y3 _ (by omega), g1 1 (by omega)]
      exact s2 i a1 a3 j hj
  · rw [if_neg (by rw [nI_eq (by omega) (by omega)]; exact e)]
    unfold fX7_ends_B61
    simp (disch := omega) only [pz_n1, pz_nm_, h5, pz_su_s, nI_add]
    obtain ⟨τ1, f1⟩ : ∃ z, z = su σM 0 1 (nI (k + 1)) := ⟨_, rfl⟩
    rw [← f1]
    have g1 : ∀ a, a ≠ 0 → τ1 a = σM a := fun a ha => by rw [f1, pz_su_r _ _ ha]
    have g0 : τ1 0 1 = nI (k + 1) := by rw [f1, pz_su_s]
    obtain ⟨τ2, y1, y2, y3, y4⟩ := copies_ok (a := 10) (b := k + 1) (σ := τ1) (by omega) (by omega) (by omega)
    rw [pz_n10, y1, pz_bd]
    have em : min (k + 1) 8 = k + 1 := Nat.min_eq_left (by omega)
    rw [em]
    refine ⟨τ2, rfl, by rw [y4 0 (by omega), g0], fun j hj => ?_, fun j hj => ?_, fun i a1 a2 j hj => ?_, fun a a0 a1 => by rw [y4 a a1, g1 a a0], fun j hj => by rw [y4 0 (by omega), f1, pz_su_n _ _ (by omega)]⟩
    · rw [y3 j (by omega), g1 1 (by omega)]
    · show τ2 1 (68 * (k + 1) + j) = σM 1 (68 * 10 + j)
      rw [y2 j hj, g1 1 (by omega)]
    · rw [if_neg e]
      show τ2 1 (68 * i + j) = σM 1 (68 * i + j)
      rw [y3 _ (by omega), g1 1 (by omega)]
def allD (σX σM : St) (d : HD) : Prop := coreR σX σM d ∧ reasonR σX σM ∧ (∃ k nx, histK k nx σX σM) ∧ snapR σX σM ∧ textR σX σM ∧ lineR σX σM
theorem allD.all {σX σM : St} {d : HD} (h : allD σX σM d) : allR σX σM := ⟨⟨d, h.1⟩, h.2⟩
theorem end_keep {σX σM : St} {d d0 : HD} {k nx n : Nat} (hc : coreR σX σM d) (hr : reasonR σX σM) (hb : begR k nx d0 σX σM) (ht : textR σX σM) (hn : n < 2 ^ 31) :
    ∃ σX' σM', fX6_keepIfDone σX (nI n) = some (nI n, σX') ∧ fX7_ends σM (nI n) = some (nI n, σM') ∧ allD σX' σM' d := by
  obtain ⟨⟨h1, h2, h3, h4, h5, h6⟩, b2, b3, b4⟩ := hb
  obtain ⟨σX', x1, x2, x3, x4⟩ := keepDraft_ok h1 h2 h3 h4
  obtain ⟨σM', y1, y2, y3, y4, y5, y6, y7⟩ := ends_keep (n := n) h1 h5 hn
  refine ⟨σX', σM', ?_, y1, hc.congr (fun a _ _ => x4 a (by omega)) (fun a _ _ => x4 a (by omega)) (fun j hj => y3 j (by omega)), ?_, ⟨min (k + 1) 8, (nx + 1) % 9, ?_⟩, ?_, ?_, ?_⟩
  · unfold fX6_keepIfDone
    rw [pz_n0, if_neg (nI_nlt (Nat.zero_le _) hn), x1, pz_bd]
  · exact hr.congr (by rw [x4 0 (by omega)]) (by rw [x4 0 (by omega)]) (y7 3 (by omega)) (y7 4 (by omega))
  · refine ⟨by omega, Nat.mod_lt _ (by omega), x2, x3, y2, fun i hi => ?_⟩
    by_cases e : i + 1 = min (k + 1) 8
    · refine ⟨d0, ?_⟩
      have e2 : (nx + 1) % 9 + 9 - min (k + 1) 8 + i = (nx + 1) % 9 + 8 := by omega
      have e3 : ((nx + 1) % 9 + 8) % 9 = nx := by omega
      rw [e2, e3]
      refine b2.congr (fun a _ _ => x4 a (by omega)) (fun j hj => ?_)
      rw [show 1 + i = min (k + 1) 8 by omega]
      exact y4 j hj
    · by_cases e8 : k = 8
      · obtain ⟨e5, he5⟩ := h6 (i + 1) (by omega)
        refine ⟨e5, ?_⟩
        have e3 : ((nx + 1) % 9 + 9 - min (k + 1) 8 + i) % 9 = (nx + 9 - k + (i + 1)) % 9 := by omega
        rw [e3]
        refine he5.congr (fun a _ _ => x4 a (by omega)) (fun j hj => ?_)
        have := y5 (1 + i) (by omega) (by omega) j hj
        rw [if_pos e8] at this
        rw [this, show 1 + i + 1 = 1 + (i + 1) by omega]
      · obtain ⟨e5, he5⟩ := h6 i (by omega)
        refine ⟨e5, ?_⟩
        have e3 : ((nx + 1) % 9 + 9 - min (k + 1) 8 + i) % 9 = (nx + 9 - k + i) % 9 := by omega
        rw [e3]
        refine he5.congr (fun a _ _ => x4 a (by omega)) (fun j hj => ?_)
        have := y5 (1 + i) (by omega) (by omega) j hj
        rw [if_neg e8] at this
        exact this
  · exact b3.congr (by rw [x4 0 (by omega)]) (y7 2 (by omega)) (fun a _ _ => x4 a (by omega)) (fun j a1 a2 => y3 j (by omega))
  · exact ht.congr (by rw [x4 3 (by omega)]) (y7 18 (by omega)) (x4 4 (by omega)) (y6 13 (by omega) (by omega))
  · exact b4.congr (x4 5 (by omega)) (y7 24 (by omega)) (x4 6 (by omega)) (y6 15 (by omega) (by omega))
/-- a code: nothing is changed -/
theorem end_code {σX σM : St} {d d0 : HD} {k nx c : Nat} (hc : coreR σX σM d) (hr : reasonR σX σM) (hb : begR k nx d0 σX σM) (ht : textR σX σM) (h11 : 11 ≤ c) (h15 : c ≤ 15) (hrow : ∀ j, j < 68 → rowM σM 10 j = σM 1 j) :
    ∃ σX' σM', fX6_keepIfDone σX (mI c) = some (mI c, σX') ∧ fX7_ends σM (mI c) = some (mI c, σM') ∧ allD σX' σM' d := by
  obtain ⟨σM', y1, y2, y3, y4⟩ := copies_ok (a := 10) (b := 0) (σ := σM) (by omega) (by omega) (by omega)
  have m1 : ∀ j, σM' 1 j = σM 1 j := fun j => by
    by_cases hj : j < 68
    · have := y2 j hj
      rw [Nat.mul_zero, Nat.zero_add] at this
      rw [this]
      exact hrow j hj
    · exact y3 j (by omega)
  refine ⟨σX, σM', ?_, ?_, hc.congr (fun _ _ _ => rfl) (fun _ _ _ => rfl) (fun j _ => m1 j), ?_, ⟨k, nx, ?_⟩, ?_, ?_, ?_⟩
  · unfold fX6_keepIfDone
    rw [pz_n0, if_pos (pz_mlt (by omega) (by omega) (by omega))]
  · unfold fX7_ends fX7_in
    simp only [pz_n15, pz_n11, pz_n0, pz_n1, pz_n10, pz_neg]
    have t1 : (mI c).toInt = -(c : Int) := pz_mT (by omega)
    have t2 : (mI 15).toInt = -15 := pz_mT (by omega)
    have t3 : (mI 11).toInt = -11 := pz_mT (by omega)
    rw [if_neg (by rw [Int32.lt_iff_toInt_lt, t1, t2]; omega), if_neg (by rw [Int32.lt_iff_toInt_lt, t1, t3]; omega), pz_bd, if_neg pz_10, y1, pz_bd]
  · exact hr.congr rfl rfl (by rw [y4 0 (by omega)]) (by rw [y4 0 (by omega)])
  · exact hb.1.congr rfl (by rw [y4 0 (by omega)]) (fun _ _ => rfl) (fun j _ _ => m1 j)
  · exact hb.2.2.1.congr rfl (by rw [y4 0 (by omega)]) (fun _ _ _ => rfl) (fun j _ _ => m1 j)
  · exact ht.congr rfl (by rw [y4 0 (by omega)]) rfl (y4 13 (by omega))
  · exact hb.2.2.2.congr rfl (by rw [y4 0 (by omega)]) rfl (y4 15 (by omega))
/-- a call that changes, out of what it does -/
theorem call_okD {fX fM : St → Option (Int32 × St)} (hop : ∀ σX σM d, coreR σX σM d → reasonR σX σM → ∃ r σX' σM', fX σX = some (r, σX') ∧ fM σM = some (r, σM') ∧ opR r σX σM σX' σM' d) {σX σM : St} {d : HD} (hR : allD σX σM d) :
    ∃ r σX' σM', (bd (fX2_draft 0 σX) fun r1 => bd (fX r1) fun r2 => bd (fX6_keepIfDone r2.2 r2.1) fun r3 => some (r3.1, r3.2)) = some (r, σX') ∧ (bd (fX7_begins σM) fun r1 => bd (fM r1) fun r2 => bd (fX7_ends r2.2 r2.1) fun r3 => some (r3.1, r3.2)) = some (r, σM') ∧ ∃ d', allD σX' σM' d' ∧ dP d ≤ dP d' ∧ ∃ x1 m1 x2 m2, coreR x1 m1 d ∧ reasonR x1 m1 ∧ fX x1 = some (r, x2) ∧ fM m1 = some (r, m2) ∧ coreR x2 m2 d' := by
  obtain ⟨hc, hr, ⟨k, nx, hh⟩, hs, ht, hl⟩ := hR
  obtain ⟨x1, m1, a1, a2, a3, a4, a5, a6, a7, a8, a9⟩ := begin_ok hc hr hh hs ht hl
  obtain ⟨r, x2, m2, b1, b2, b3, b4, b5, b6⟩ := hop x1 m1 d a3 a4
  have hb := a5.congr b3 b4
  have ht2 : textR x2 m2 := a6.congr (by rw [b3.1 3 (by omega)]) (b4.2.2 18 (by omega) (by omega)) (b3.1 4 (by omega)) (b4.1 13 (by omega))
  rw [a1, a2, pz_bd, pz_bd, b1, b2, pz_bd, pz_bd]
  dsimp only
  rcases b6 with ⟨c, c1, c2, rfl, c4, c5⟩ | ⟨n, d', n1, rfl, n3, n4⟩
  · obtain ⟨x3, m3, e1, e2, e3⟩ := end_code c4 b5 hb ht2 c1 c2 (fun j hj => by
      have : rowM m2 10 j = rowM m1 10 j := by
        unfold rowM
        rw [c5]
      rw [this, c5]
      exact a9 j hj)
    rw [e1, e2, pz_bd, pz_bd]
    exact ⟨_, _, _, rfl, rfl, d, e3, Nat.le_refl _, x1, m1, x2, m2, a3, a4, b1, b2, c4⟩
  · obtain ⟨x3, m3, e1, e2, e3⟩ := end_keep n3 b5 hb ht2 n1
    rw [e1, e2, pz_bd, pz_bd]
    exact ⟨_, _, _, rfl, rfl, d', e3, n4, x1, m1, x2, m2, a3, a4, b1, b2, n3⟩
theorem call_ok {fX fM : St → Option (Int32 × St)} (hop : ∀ σX σM d, coreR σX σM d → reasonR σX σM → ∃ r σX' σM', fX σX = some (r, σX') ∧ fM σM = some (r, σM') ∧ opR r σX σM σX' σM' d) {σX σM : St} (hR : allR σX σM) :
    ∃ r σX' σM', (bd (fX2_draft 0 σX) fun r1 => bd (fX r1) fun r2 => bd (fX6_keepIfDone r2.2 r2.1) fun r3 => some (r3.1, r3.2)) = some (r, σX') ∧ (bd (fX7_begins σM) fun r1 => bd (fM r1) fun r2 => bd (fX7_ends r2.2 r2.1) fun r3 => some (r3.1, r3.2)) = some (r, σM') ∧ allR σX' σM' := by
  obtain ⟨⟨d, hc⟩, hr⟩ := hR
  obtain ⟨r, x, m, e1, e2, d', h, -⟩ := call_okD hop (d := d) ⟨hc, hr⟩
  exact ⟨r, x, m, e1, e2, h.all⟩
theorem sm_pier {σX σM : St} (hR : allR σX σM) (a : Int32) : ∃ r σX' σM', fX6_pier σX a = some (r, σX') ∧ fX7_pier σM a = some (r, σM') ∧ allR σX' σM' := call_ok (fX := fun σ => fX6_joinPier σ a) (fM := fun σ => fX7_joins σ a) (fun _ _ _ h1 h2 => let ⟨r, x, m, e1, e2, e3, _⟩ := op_join h1 h2 a; ⟨r, x, m, e1, e2, e3⟩) hR
theorem sm_close {σX σM : St} (hR : allR σX σM) (a : Int32) : ∃ r σX' σM', fX6_close σX a = some (r, σX') ∧ fX7_close σM a = some (r, σM') ∧ allR σX' σM' := call_ok (fX := fun σ => fX6_setOpened σ a 0) (fM := fun σ => fX7_turns σ a 0) (fun _ _ _ h1 h2 => op_turn h1 h2 a false) hR
theorem sm_open {σX σM : St} (hR : allR σX σM) (a : Int32) : ∃ r σX' σM', fX6_open σX a = some (r, σX') ∧ fX7_open σM a = some (r, σM') ∧ allR σX' σM' := call_ok (fX := fun σ => fX6_setOpened σ a 1) (fM := fun σ => fX7_turns σ a 1) (fun _ _ _ h1 h2 => op_turn h1 h2 a true) hR
theorem sm_weigh {σX σM : St} (hR : allR σX σM) (a b : Int32) : ∃ r σX' σM', fX6_weigh σX a b = some (r, σX') ∧ fX7_weigh σM a b = some (r, σM') ∧ allR σX' σM' := call_ok (fX := fun σ => fX6_setBerths σ a b) (fM := fun σ => fX7_weighs σ a b) (fun _ _ _ h1 h2 => op_weigh h1 h2 a b) hR
theorem sm_berth {σX σM : St} (hR : allR σX σM) (a : Int32) : ∃ r σX' σM', fX6_berth σX a = some (r, σX') ∧ fX7_berth σM a = some (r, σM') ∧ allR σX' σM' := call_ok (fX := fun σ => fX6_setBerthTons σ a) (fM := fun σ => fX7_bears σ a) (fun _ _ _ h1 h2 => op_bears h1 h2 a) hR
theorem sm_barge {σX σM : St} (hR : allR σX σM) (a b : Int32) : ∃ r σX' σM', fX6_barge σX a b = some (r, σX') ∧ fX7_barge σM a b = some (r, σM') ∧ allR σX' σM' := call_ok (fX := fun σ => fX6_letCome σ a b) (fM := fun σ => fX7_comes σ a b) (fun _ _ _ h1 h2 => op_come h1 h2 a b) hR
theorem sm_leave {σX σM : St} (hR : allR σX σM) (a : Int32) : ∃ r σX' σM', fX6_leave σX a = some (r, σX') ∧ fX7_leave σM a = some (r, σM') ∧ allR σX' σM' := call_ok (fX := fun σ => fX6_letGo σ a) (fM := fun σ => fX7_leaves σ a) (fun _ _ _ h1 h2 => op_go h1 h2 a) hR
theorem sm_load {σX σM : St} (hR : allR σX σM) (a b : Int32) : ∃ r σX' σM', fX6_load σX a b = some (r, σX') ∧ fX7_load σM a b = some (r, σM') ∧ allR σX' σM' := call_ok (fX := fun σ => fX6_setTons σ a b) (fM := fun σ => fX7_loads σ a b) (fun _ _ _ h1 h2 => op_load h1 h2 a b) hR
theorem sd_close {σX σM : St} {d : HD} (hR : allD σX σM d) (a : Int32) : ∃ r σX' σM' d', fX6_close σX a = some (r, σX') ∧ allD σX' σM' d' ∧ dP d ≤ dP d' := by
  obtain ⟨r, x, m, e1, e2, d', h, h1, -⟩ := call_okD (fX := fun σ => fX6_setOpened σ a 0) (fM := fun σ => fX7_turns σ a 0) (fun _ _ _ h1 h2 => op_turn h1 h2 a false) hR
  exact ⟨r, x, m, d', e1, h, h1⟩
theorem sd_open {σX σM : St} {d : HD} (hR : allD σX σM d) (a : Int32) : ∃ r σX' σM' d', fX6_open σX a = some (r, σX') ∧ allD σX' σM' d' ∧ dP d ≤ dP d' := by
  obtain ⟨r, x, m, e1, e2, d', h, h1, -⟩ := call_okD (fX := fun σ => fX6_setOpened σ a 1) (fM := fun σ => fX7_turns σ a 1) (fun _ _ _ h1 h2 => op_turn h1 h2 a true) hR
  exact ⟨r, x, m, d', e1, h, h1⟩
theorem sd_weigh {σX σM : St} {d : HD} (hR : allD σX σM d) (a b : Int32) : ∃ r σX' σM' d', fX6_weigh σX a b = some (r, σX') ∧ allD σX' σM' d' ∧ dP d ≤ dP d' := by
  obtain ⟨r, x, m, e1, e2, d', h, h1, -⟩ := call_okD (fX := fun σ => fX6_setBerths σ a b) (fM := fun σ => fX7_weighs σ a b) (fun _ _ _ h1 h2 => op_weigh h1 h2 a b) hR
  exact ⟨r, x, m, d', e1, h, h1⟩
theorem sd_berth {σX σM : St} {d : HD} (hR : allD σX σM d) (a : Int32) : ∃ r σX' σM' d', fX6_berth σX a = some (r, σX') ∧ allD σX' σM' d' ∧ dP d ≤ dP d' := by
  obtain ⟨r, x, m, e1, e2, d', h, h1, -⟩ := call_okD (fX := fun σ => fX6_setBerthTons σ a) (fM := fun σ => fX7_bears σ a) (fun _ _ _ h1 h2 => op_bears h1 h2 a) hR
  exact ⟨r, x, m, d', e1, h, h1⟩
theorem sd_barge {σX σM : St} {d : HD} (hR : allD σX σM d) (a b : Int32) : ∃ r σX' σM' d', fX6_barge σX a b = some (r, σX') ∧ allD σX' σM' d' ∧ dP d ≤ dP d' := by
  obtain ⟨r, x, m, e1, e2, d', h, h1, -⟩ := call_okD (fX := fun σ => fX6_letCome σ a b) (fM := fun σ => fX7_comes σ a b) (fun _ _ _ h1 h2 => op_come h1 h2 a b) hR
  exact ⟨r, x, m, d', e1, h, h1⟩
theorem sd_leave {σX σM : St} {d : HD} (hR : allD σX σM d) (a : Int32) : ∃ r σX' σM' d', fX6_leave σX a = some (r, σX') ∧ allD σX' σM' d' ∧ dP d ≤ dP d' := by
  obtain ⟨r, x, m, e1, e2, d', h, h1, -⟩ := call_okD (fX := fun σ => fX6_letGo σ a) (fM := fun σ => fX7_leaves σ a) (fun _ _ _ h1 h2 => op_go h1 h2 a) hR
  exact ⟨r, x, m, d', e1, h, h1⟩
theorem sd_load {σX σM : St} {d : HD} (hR : allD σX σM d) (a b : Int32) : ∃ r σX' σM' d', fX6_load σX a b = some (r, σX') ∧ allD σX' σM' d' ∧ dP d ≤ dP d' := by
  obtain ⟨r, x, m, e1, e2, d', h, h1, -⟩ := call_okD (fX := fun σ => fX6_setTons σ a b) (fM := fun σ => fX7_loads σ a b) (fun _ _ _ h1 h2 => op_load h1 h2 a b) hR
  exact ⟨r, x, m, d', e1, h, h1⟩
theorem sd_pier {σX σM : St} {d : HD} (hR : allD σX σM d) (a : Int32) : ∃ r σX' σM' d', fX6_pier σX a = some (r, σX') ∧ allD σX' σM' d' ∧ dP d ≤ dP d' ∧ (∀ b, 1 ≤ b → b ≤ 5 → a = nI b → dP d < 8 → dP d' = dP d + 1) := by
  obtain ⟨r, x, m, e1, e2, d', h, h1, x1, m1, x2, m2, k1, k2, k3, k4, k5⟩ := call_okD (fX := fun σ => fX6_joinPier σ a) (fM := fun σ => fX7_joins σ a) (fun _ _ _ h1 h2 => let ⟨r, x, m, e1, e2, e3, _⟩ := op_join h1 h2 a; ⟨r, x, m, e1, e2, e3⟩) hR
  refine ⟨r, x, m, d', e1, h, h1, fun b b1 b2 b3 b4 => ?_⟩
  obtain ⟨r', y, n, f1, f2, -, f3⟩ := op_join k1 k2 a
  have e : some (r, x2) = some (r', y) := k3.symm.trans f1
  obtain ⟨d2, g1, g2⟩ := f3 b b1 b2 b3 b4
  have hy : y = x2 := (congrArg Prod.snd (Option.some.inj e)).symm
  subst hy
  have q1 : y 33 4 = nI (dP d') := k5.1.2.1.1
  have q2 : y 33 4 = nI (dP d2) := g1.1.2.1.1
  have q3 := (nI_eq (by have := k5.1.1.1; omega) (by have := g1.1.1.1; omega)).mp (q1.symm.trans q2)
  omega
