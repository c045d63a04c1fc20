/-! Pure rows: harbours are copied; what was is kept, in both systems. -/
theorem cpy_all {f g : Nat → Int32} {n j : Nat} (hj : j < n) : va_cpy f g 0 0 n j = f j := by
  unfold va_cpy
  rw [if_pos (by omega)]
  congr 1
  omega
theorem takeFrom_ok {h h2 : Nat} {σ : St} {d : HD} (hd : dOk d) (hne : h ≠ h2) (H : XH h2 σ d) : ∃ σ', fX1_takeFrom h h2 σ = some σ' ∧ XH h σ' d ∧ σ' (33 + 5 * h) 7 = σ (33 + 5 * h2) 7 ∧ ∀ a, a < 33 + 5 * h ∨ 38 + 5 * h ≤ a → σ' a = σ a := by
  have h8 := hd.1
  have h24 := hd.2.1
  obtain ⟨k1, k2, k3, k4, k5, k6, k7, k8, k9⟩ := H
  unfold fX1_takeFrom
  have c8 : okC (nI 0) (nI 0) (nI 8) 8 8 = true := pz_okC (by omega) (by omega) (by omega)
  have c24 : okC (nI 0) (nI 0) (nI 24) 24 24 = true := pz_okC (by omega) (by omega) (by omega)
  simp (disch := omega) only [pz_n0, pz_n8, pz_n24, pz_gt c8, pz_gt c24, pz_nm_, pz_cl]
  obtain ⟨s1, e1⟩ : ∃ z, z = sr σ ((33 + 5 * h) + 1) (va_cpy (σ ((33 + 5 * h2) + 1)) (σ ((33 + 5 * h) + 1)) 0 0 8) := ⟨_, rfl⟩
  rw [← e1]
  have o1 : ∀ a, a ≠ (33 + 5 * h) + 1 → s1 a = σ a := fun a ha => by rw [e1, sr_ne _ _ ha]
  rw [pz_gt (b := okBs (s1 ((33 + 5 * h2) + 2)) 0 8) (by
    unfold okBs
    rw [List.all_eq_true]
    intro i hi
    have hi2 := List.mem_range.mp hi
    rw [o1 _ (by omega), Nat.zero_add]
    rcases k9 i hi2 with h | h
    · rw [h]; rfl
    · rw [h]; rfl)]
  obtain ⟨s2, e2⟩ : ∃ z, z = sr s1 ((33 + 5 * h) + 2) (va_cpy (s1 ((33 + 5 * h2) + 2)) (s1 ((33 + 5 * h) + 2)) 0 0 8) := ⟨_, rfl⟩
  rw [← e2]
  have o2 : ∀ a, a ≠ (33 + 5 * h) + 2 → s2 a = s1 a := fun a ha => by rw [e2, sr_ne _ _ ha]
  obtain ⟨s3, e3⟩ : ∃ z, z = sr s2 ((33 + 5 * h) + 3) (va_cpy (s2 ((33 + 5 * h2) + 3)) (s2 ((33 + 5 * h) + 3)) 0 0 24) := ⟨_, rfl⟩
  rw [← e3]
  have o3 : ∀ a, a ≠ (33 + 5 * h) + 3 → s3 a = s2 a := fun a ha => by rw [e3, sr_ne _ _ ha]
  obtain ⟨s4, e4⟩ : ∃ z, z = sr s3 ((33 + 5 * h) + 4) (va_cpy (s3 ((33 + 5 * h2) + 4)) (s3 ((33 + 5 * h) + 4)) 0 0 24) := ⟨_, rfl⟩
  rw [← e4]
  have o4 : ∀ a, a ≠ (33 + 5 * h) + 4 → s4 a = s3 a := fun a ha => by rw [e4, sr_ne _ _ ha]
  have os : s4 (33 + 5 * h2) = σ (33 + 5 * h2) := by rw [o4 _ (by omega), o3 _ (by omega), o2 _ (by omega), o1 _ (by omega)]
  have r1 : s4 ((33 + 5 * h) + 1) = va_cpy (σ ((33 + 5 * h2) + 1)) (σ ((33 + 5 * h) + 1)) 0 0 8 := by rw [o4 _ (by omega), o3 _ (by omega), o2 _ (by omega), e1, sr_self]
  have r2 : s4 ((33 + 5 * h) + 2) = va_cpy (σ ((33 + 5 * h2) + 2)) (σ ((33 + 5 * h) + 2)) 0 0 8 := by rw [o4 _ (by omega), o3 _ (by omega), e2, sr_self, o1 _ (by omega), o1 _ (by omega)]
  have r3 : s4 ((33 + 5 * h) + 3) = va_cpy (σ ((33 + 5 * h2) + 3)) (σ ((33 + 5 * h) + 3)) 0 0 24 := by rw [o4 _ (by omega), e3, sr_self, o2 _ (by omega), o2 _ (by omega), o1 _ (by omega), o1 _ (by omega)]
  have r4 : s4 ((33 + 5 * h) + 4) = va_cpy (σ ((33 + 5 * h2) + 4)) (σ ((33 + 5 * h) + 4)) 0 0 24 := by rw [e4, sr_self, o3 _ (by omega), o3 _ (by omega), o2 _ (by omega), o2 _ (by omega), o1 _ (by omega), o1 _ (by omega)]
  simp (disch := omega) only [pz_su_r, os]
  refine ⟨_, rfl, ⟨?_, ?_, ?_, trivial, fun p hp => ?_, fun p hp => ?_, fun i hi => ?_, fun i hi => ?_, fun p hp => ?_⟩, by rw [pz_su_s], fun a ha => ?_⟩
  · rw [pz_su_n _ _ (by omega), pz_su_n _ _ (by omega), pz_su_n _ _ (by omega), pz_su_s]; exact k1
  · rw [pz_su_n _ _ (by omega), pz_su_n _ _ (by omega), pz_su_s]; exact k2
  · rw [pz_su_n _ _ (by omega), pz_su_s]; exact k3
  · rw [pz_su_r _ _ (by omega), pz_su_r _ _ (by omega), pz_su_r _ _ (by omega), pz_su_r _ _ (by omega), r1, cpy_all (by omega)]; exact k5 p hp
  · rw [pz_su_r _ _ (by omega), pz_su_r _ _ (by omega), pz_su_r _ _ (by omega), pz_su_r _ _ (by omega), r2, cpy_all (by omega)]; exact k6 p hp
  · rw [pz_su_r _ _ (by omega), pz_su_r _ _ (by omega), pz_su_r _ _ (by omega), pz_su_r _ _ (by omega), r3, cpy_all (by omega)]; exact k7 i hi
  · rw [pz_su_r _ _ (by omega), pz_su_r _ _ (by omega), pz_su_r _ _ (by omega), pz_su_r _ _ (by omega), r4, cpy_all (by omega)]; exact k8 i hi
  · rw [pz_su_r _ _ (by omega), pz_su_r _ _ (by omega), pz_su_r _ _ (by omega), pz_su_r _ _ (by omega), r2, cpy_all (by omega)]; exact k9 p hp
  · rw [pz_su_r _ _ (by omega), pz_su_r _ _ (by omega), pz_su_r _ _ (by omega), pz_su_r _ _ (by omega), o4 _ (by omega), o3 _ (by omega), o2 _ (by omega), o1 _ (by omega)]
theorem copies_ok {a b : Nat} {σ : St} (ha : a < 12) (hb : b < 12) (hne : a ≠ b) : ∃ σ', fX7_copies σ (nI a) (nI b) = some σ' ∧ (∀ j, j < 68 → σ' 1 (68 * b + j) = σ 1 (68 * a + j)) ∧ (∀ j, j < 68 * b ∨ 68 * b + 68 ≤ j → σ' 1 j = σ 1 j) ∧ ∀ c, c ≠ 1 → σ' c = σ c := by
  unfold fX7_copies
  rw [pz_n0]
  refine pz_loop (F := fun m τ k => fX7_copies_L2 (nI a) (nI b) (fun σ => fX7_copies_B36 σ) m τ (nI k)) (P := fun o => ∃ σ', o = some σ' ∧ (∀ j, j < 68 → σ' 1 (68 * b + j) = σ 1 (68 * a + j)) ∧ (∀ j, j < 68 * b ∨ 68 * b + 68 ≤ j → σ' 1 j = σ 1 j) ∧ ∀ c, c ≠ 1 → σ' c = σ c) (fun k τ => (∀ j, j < k → τ 1 (68 * b + j) = σ 1 (68 * a + j)) ∧ (∀ j, j < 68 * b ∨ 68 * b + 68 ≤ j → τ 1 j = σ 1 j) ∧ ∀ c, c ≠ 1 → τ c = σ c) 68 ?_ ?_ 68 0 σ 1000 (by omega) (by omega) ⟨fun j h => absurd h (Nat.not_lt_zero _), fun _ _ => rfl, fun _ _ => rfl⟩
  · intro m τ ⟨h1, h2, h3⟩
    refine ⟨τ, ?_, h1, h2, h3⟩
    show fX7_copies_L2 (nI a) (nI b) _ (m + 1) τ (nI 68) = some τ
    rw [fX7_copies_L2, pz_n68, if_pos (nI_le (Nat.le_refl _) (by omega))]
    rfl
  · intro m k τ hk ⟨h1, h2, h3⟩
    right
    show ∃ b', _ ∧ fX7_copies_L2 (nI a) (nI b) _ (m + 1) τ (nI k) = fX7_copies_L2 (nI a) (nI b) _ m b' (nI (k + 1))
    rw [fX7_copies_L2]
    simp (disch := omega) only [pz_n68, pz_n1, pk_mul, nI_add, nI_ge, if_false, pz_gd, pz_nm_, pz_cl]
    refine ⟨_, ⟨fun j hj => ?_, fun j hj => by rw [pz_su_n _ _ (by omega)]; exact h2 j hj, fun c hc => by rw [pz_su_r _ _ hc]; exact h3 c hc⟩, rfl⟩
    by_cases e : j = k
    · subst e
      rw [pz_su_s]
      exact h2 _ (by omega)
    · rw [pz_su_n _ _ (by omega)]
      exact h1 j (by omega)
def rowM (σ : St) (r : Nat) : Nat → Int32 := fun j => σ 1 (68 * r + j)
theorem MH_row {σ : St} {d : HD} (hd : dOk d) : MH (rowM σ 0) d ↔ MH (σ 1) d := by
  have e : rowM σ 0 = σ 1 := by
    funext j
    unfold rowM
    rw [Nat.mul_zero, Nat.zero_add]
  rw [e]
theorem hR.congr {h : Nat} {σ σ' : St} {r r' : Nat → Int32} {d : HD} (H : hR h σ r d) (hf : ∀ a, 33 + 5 * h ≤ a → a < 38 + 5 * h → σ' a = σ a) (hr : ∀ j, j < 68 → r' j = r j) : hR h σ' r' d := by
  obtain ⟨h1, h2, h3, h4⟩ := H
  refine ⟨h1, h2.congr hf, h3.congr (fun j hj _ => hr j hj) h1, ?_⟩
  rw [hf _ (by omega) (by omega), hr 3 (by omega)]
  exact h4
def histK (k nx : Nat) (σX σM : St) : Prop := k ≤ 8 ∧ nx < 9 ∧ σX 1 0 = nI k ∧ σX 1 2 = nI nx ∧ σM 0 1 = nI k ∧ ∀ i, i < k → ∃ d, hR (3 + (nx + 9 - k + i) % 9) σX (rowM σM (1 + i)) d
def snapR (σX σM : St) : Prop := (σX 0 9 = nI 0 ∧ σM 0 2 = nI 0) ∨ (¬ σX 0 9 = nI 0 ∧ ¬ σM 0 2 = nI 0 ∧ ∃ d, hR 2 σX (rowM σM 9) d)
def textR (σX σM : St) : Prop := ∃ n, n ≤ 60 ∧ σX 3 0 = nI n ∧ σM 0 18 = nI n ∧ ∀ i, i < n → ∃ c, 32 ≤ c ∧ c ≤ 126 ∧ σX 4 i = nI c ∧ σM 13 i = nI c
def lineR (σX σM : St) : Prop := ∃ n, n ≤ 80 ∧ σX 5 1 = nI n ∧ σM 0 24 = nI n ∧ ∀ i, i < n → ∃ c, c < 128 ∧ σX 6 i = nI c ∧ σM 15 i = nI c
def allR (σX σM : St) : Prop := (∃ d, coreR σX σM d) ∧ reasonR σX σM ∧ (∃ k nx, histK k nx σX σM) ∧ snapR σX σM ∧ textR σX σM ∧ lineR σX σM
/-- while a change is tried: the row ahead of it is kept aside -/
def begR (k nx : Nat) (d0 : HD) (σX σM : St) : Prop := histK k nx σX σM ∧ hR (3 + nx) σX (rowM σM 10) d0 ∧ snapR σX σM ∧ lineR σX σM
theorem histK.congr {k nx : Nat} {σX σM σX' σM' : St} (H : histK k nx σX σM) (h1 : σX' 1 = σX 1) (h2 : σM' 0 1 = σM 0 1) (h3 : ∀ a, 48 ≤ a → σX' a = σX a) (h4 : ∀ j, 68 ≤ j → j < 612 → σM' 1 j = σM 1 j) : histK k nx σX' σM' := by
  obtain ⟨a1, a2, a3, a4, a5, a6⟩ := H
  refine ⟨a1, a2, by rw [h1]; exact a3, by rw [h1]; exact a4, by rw [h2]; exact a5, fun i hi => ?_⟩
  obtain ⟨d, hd⟩ := a6 i hi
  exact ⟨d, hd.congr (fun a x1 x2 => h3 a (by omega)) (fun j hj => h4 _ (by omega) (by omega))⟩
theorem snapR.congr {σX σM σX' σM' : St} (H : snapR σX σM) (h1 : σX' 0 9 = σX 0 9) (h2 : σM' 0 2 = σM 0 2) (h3 : ∀ a, 43 ≤ a → a < 48 → σX' a = σX a) (h4 : ∀ j, 612 ≤ j → j < 680 → σM' 1 j = σM 1 j) : snapR σX' σM' := by
  unfold snapR
  rw [h1, h2]
  rcases H with H | ⟨a, b, d, hd⟩
  · exact Or.inl H
  · exact Or.inr ⟨a, b, d, hd.congr (fun a x1 x2 => h3 a (by omega) (by omega)) (fun j hj => h4 _ (by omega) (by omega))⟩
theorem textR.congr {σX σM σX' σM' : St} (H : textR σX σM) (h1 : σX' 3 0 = σX 3 0) (h2 : σM' 0 18 = σM 0 18) (h3 : σX' 4 = σX 4) (h4 : σM' 13 = σM 13) : textR σX' σM' := by
  unfold textR
  rw [h1, h2, h3, h4]
  exact H
theorem lineR.congr {σX σM σX' σM' : St} (H : lineR σX σM) (h1 : σX' 5 = σX 5) (h2 : σM' 0 24 = σM 0 24) (h3 : σX' 6 = σX 6) (h4 : σM' 15 = σM 15) : lineR σX' σM' := by
  unfold lineR
  rw [h1, h2, h3, h4]
  exact H
theorem coreR.congr {σX σM σX' σM' : St} {d : HD} (H : coreR σX σM d) (h1 : ∀ a, 7 ≤ a → a < 24 → σX' a = σX a) (h2 : ∀ a, 33 ≤ a → a < 38 → σX' a = σX a) (h3 : ∀ j, j < 68 → σM' 1 j = σM 1 j) : coreR σX' σM' d := by
  obtain ⟨a, b, c⟩ := H
  exact ⟨a.congr (fun x x1 x2 => h2 x (by omega) (by omega)) h3, b.congr (fun x x1 x2 => h1 x (by omega) (by omega)), c.congr (fun x x1 x2 => h1 x (by omega) (by omega))⟩
theorem reasonR.congr {σX σM σX' σM' : St} (H : reasonR σX σM) (h1 : σX' 0 10 = σX 0 10) (h2 : σX' 0 11 = σX 0 11) (h3 : σM' 0 3 = σM 0 3) (h4 : σM' 0 4 = σM 0 4) : reasonR σX' σM' := by
  unfold reasonR
  rw [h1, h2, h3, h4]
  exact H
theorem begR.congr {k nx : Nat} {d0 : HD} {σX σM σX' σM' : St} (H : begR k nx d0 σX σM) (hx : frX σX σX') (hm : frM σM σM') : begR k nx d0 σX' σM' := by
  obtain ⟨a, b, c, e⟩ := H
  exact ⟨a.congr (hx.1 1 (by omega)) (hm.2.2 1 (by omega) (by omega)) (fun a ha => hx.1 a (by omega)) (fun j h1 h2 => hm.2.1 j h1), b.congr (fun a x1 x2 => hx.1 a (by omega)) (fun j hj => hm.2.1 _ (by omega)), c.congr (hx.2 9 (by omega) (by omega)) (hm.2.2 2 (by omega) (by omega)) (fun a x1 x2 => hx.1 a (by omega)) (fun j h1 h2 => hm.2.1 j (by omega)), e.congr (hx.1 5 (by omega)) (hm.2.2 24 (by omega) (by omega)) (hx.1 6 (by omega)) (hm.1 15 (by omega))⟩
