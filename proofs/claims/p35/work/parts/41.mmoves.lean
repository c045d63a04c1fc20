/-! Pure rows: the model looks at homes, and counts those that moved. -/
theorem looks_ok {σ : St} {d : HD} (hd : dOk d) (H : MH (σ 1) d) : ∃ σ', fX7_looksAtHomes σ = some σ' ∧ ringM σ' d ∧ (∀ i, i < dB d → σ' 4 i = oM (homeD d (pbD d i))) ∧ ∀ a, a ≠ 2 → a ≠ 3 → a ≠ 4 → σ' a = σ a := by
  have h24 := hd.2.1
  unfold fX7_looksAtHomes
  obtain ⟨σ1, a1, a2, a3⟩ := laysRing_ok hd H
  rw [a1, pz_bd, pz_n0]
  have H1 : MH (σ1 1) d := by rw [a3 _ (by omega) (by omega)]; exact H
  refine pz_loop (F := fun m τ i => fX7_looksAtHomes_L6 (fun σ => fX7_looksAtHomes_B33 σ) m τ (nI i)) (P := fun o => ∃ σ', o = some σ' ∧ ringM σ' d ∧ (∀ i, i < dB d → σ' 4 i = oM (homeD d (pbD d i))) ∧ ∀ a, a ≠ 2 → a ≠ 3 → a ≠ 4 → σ' a = σ a) (fun i τ => (∀ j, j < i → τ 4 j = oM (homeD d (pbD d j))) ∧ ∀ a, a ≠ 4 → τ a = σ1 a) (dB d) ?_ ?_ (dB d) 0 σ1 1000 (by omega) (by omega) ⟨fun j h => absurd h (Nat.not_lt_zero _), fun _ _ => rfl⟩
  · intro n τ ⟨c1, c2⟩
    refine ⟨τ, ?_, ⟨fun q hq => by rw [c2 2 (by omega)]; exact a2.1 q hq, fun q hq => by rw [c2 3 (by omega)]; exact a2.2 q hq⟩, c1, fun a h1 h2 h3 => by rw [c2 a h3, a3 a h1 h2]⟩
    show fX7_looksAtHomes_L6 _ (n + 1) τ (nI (dB d)) = some τ
    rw [fX7_looksAtHomes_L6, pz_n1, pz_cl (by omega), c2 1 (by omega), H1.2.1, if_pos (nI_le (Nat.le_refl _) (by omega))]
    rfl
  · intro n i τ hi ⟨c1, c2⟩
    right
    show ∃ b', _ ∧ fX7_looksAtHomes_L6 _ (n + 1) τ (nI i) = fX7_looksAtHomes_L6 _ n b' (nI (i + 1))
    have H2 : MH (τ 1) d := by rw [c2 1 (by omega)]; exact H1
    have r2 : ringM τ d := ⟨fun q hq => by rw [c2 2 (by omega)]; exact a2.1 q hq, fun q hq => by rw [c2 3 (by omega)]; exact a2.2 q hq⟩
    rw [fX7_looksAtHomes_L6, pz_n1, pz_cl (by omega), H2.2.1, if_neg (nI_ge hi (by omega)), pm_homeAt hd H2 r2 hi, pz_bd]
    simp (disch := omega) only [pz_gd, pz_nm_, pz_cl, nI_add]
    refine ⟨_, ⟨fun j hj => ?_, fun a ha => by rw [pz_su_r _ _ ha]; exact c2 a ha⟩, rfl⟩
    rw [pz_su_w]
    by_cases e : j = i
    · subst e; exact pk_us
    · rw [pk_un e]; exact c1 j (by omega)
theorem moved_ok {σ : St} {d d' : HD} (hd : dOk d) (hd' : dOk d') (H : MH (σ 1) d') (hB : dB d' = dB d) (hpb : ∀ j, j < dB d → pbD d' j = pbD d j) (h4 : ∀ i, i < dB d → σ 4 i = oM (homeD d (pbD d i))) :
    ∃ σ', fX7_moved σ = some (nI (mvD d d' (dB d)), σ') ∧ ringM σ' d' ∧ ∀ a, a ≠ 2 → a ≠ 3 → σ' a = σ a := by
  have h24 := hd.2.1
  unfold fX7_moved
  obtain ⟨σ1, a1, a2, a3⟩ := laysRing_ok hd' H
  have H1 : MH (σ1 1) d' := by rw [a3 _ (by omega) (by omega)]; exact H
  rw [a1, pz_bd, pz_n0]
  refine ⟨σ1, ?_, a2, a3⟩
  show fX7_moved_L8 _ 1000 σ1 (nI (mvD d d' 0)) (nI 0) = _
  refine pz_loop (F := fun m (_ : Unit) i => fX7_moved_L8 (fun σ y1 => fX7_moved_B46 σ y1) m σ1 (nI (mvD d d' i)) (nI i)) (P := fun o => o = some (nI (mvD d d' (dB d)), σ1)) (fun _ _ => True) (dB d) ?_ ?_ (dB d) 0 () 1000 (by omega) (by omega) trivial
  · intro n _ _
    show fX7_moved_L8 _ (n + 1) σ1 (nI (mvD d d' (dB d))) (nI (dB d)) = _
    rw [fX7_moved_L8, pz_n1, pz_cl (by omega), H1.2.1, hB, if_pos (nI_le (Nat.le_refl _) (by omega))]
    rfl
  · intro n i _ hi _
    right
    refine ⟨(), trivial, ?_⟩
    show fX7_moved_L8 _ (n + 1) σ1 (nI (mvD d d' i)) (nI i) = fX7_moved_L8 _ n σ1 (nI (mvD d d' i + if homeD d' (pbD d i) = homeD d (pbD d i) then 0 else 1)) (nI (i + 1))
    have e4 : σ1 4 i = oM (homeD d (pbD d i)) := by rw [a3 4 (by omega) (by omega)]; exact h4 i hi
    rw [fX7_moved_L8, pz_n1, pz_cl (by omega), H1.2.1, hB, if_neg (nI_ge hi (by omega)), pm_homeAt hd' H1 a2 (by omega), pz_bd, hpb i hi]
    simp (disch := omega) only [pz_n0, pz_gd, pz_nm_, pz_cl, nI_add, e4, oM_inj hd' hd]
    by_cases e : homeD d' (pbD d i) = homeD d (pbD d i)
    · rw [if_pos e, if_pos e]
    · rw [if_neg e, if_neg e]
theorem MH.congr {r r' : Nat → Int32} {d : HD} (H : MH r d) (h : ∀ j, j < 68 → j ≠ 3 → r' j = r j) (hd : dOk d) : MH r' d := by
  have h24 := hd.2.1
  have h8 := hd.1
  obtain ⟨k1, k2, k3, k4, k5, k6, k7, k8⟩ := H
  exact ⟨by rw [h _ (by omega) (by omega)]; exact k1, by rw [h _ (by omega) (by omega)]; exact k2, by rw [h _ (by omega) (by omega)]; exact k3, trivial, fun p hp => by rw [h _ (by omega) (by omega)]; exact k5 p hp, fun p hp => by rw [h _ (by omega) (by omega)]; exact k6 p hp, fun i hi => by rw [h _ (by omega) (by omega)]; exact k7 i hi, fun i hi => by rw [h _ (by omega) (by omega)]; exact k8 i hi⟩
theorem moves_ok {σ : St} {d d' : HD} (hd : dOk d) (hd' : dOk d') (H : MH (σ 1) d') (hB : dB d' = dB d) (hpb : ∀ j, j < dB d → pbD d' j = pbD d j) (h4 : ∀ i, i < dB d → σ 4 i = oM (homeD d (pbD d i))) :
    ∃ σ', fX7_moves σ = some (nI (mvD d d' (dB d)), σ') ∧ MH (σ' 1) d' ∧ σ' 1 3 = σ 1 3 + nI (mvD d d' (dB d)) ∧ (∀ j, 68 ≤ j → σ' 1 j = σ 1 j) ∧ ∀ a, a ≠ 1 → a ≠ 2 → a ≠ 3 → σ' a = σ a := by
  unfold fX7_moves
  obtain ⟨σ1, a1, a2, a3⟩ := moved_ok hd hd' H hB hpb h4
  rw [a1, pz_bd]
  simp (disch := omega) only [pz_nm_, pz_n3, pz_cl]
  have e1 : σ1 1 = σ 1 := a3 1 (by omega) (by omega)
  refine ⟨_, rfl, ?_, by rw [pz_su_s, e1], fun j hj => by rw [pz_su_n _ _ (by omega), e1], fun a h1 h2 h3 => by rw [pz_su_r _ _ h1, a3 a h2 h3]⟩
  rw [pz_su_w, e1]
  exact H.congr (fun j _ h => pk_un h) hd'
