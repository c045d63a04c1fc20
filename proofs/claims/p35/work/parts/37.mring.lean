/-! Pure rows: the model's ring. -/
def MH (r : Nat → Int32) (d : HD) : Prop :=
  r 0 = nI (dP d) ∧ r 1 = nI (dB d) ∧ r 2 = nI (dT d) ∧ True ∧
  (∀ p, p < dP d → r (4 + 2 * p) = nI (dbe d p)) ∧ (∀ p, p < dP d → r (4 + 2 * p + 1) = bI (dop d p)) ∧
  (∀ i, i < dB d → r (20 + 2 * i) = nI (dna d i)) ∧ (∀ i, i < dB d → r (20 + 2 * i + 1) = nI (dto d i))
def ringM (σ : St) (d : HD) : Prop := (∀ q, q < 360 → σ 2 q = @ite _ (isD d q = true) (instDecidableEqBool _ _) (nI (8 * jqD q + q % 8)) (mI 1)) ∧ ∀ q, q < 360 → σ 3 q = oM (homeD d q)
theorem pm_in {σ : St} {a b c : Nat} (ha : a < 2 ^ 31) (hb : b < 2 ^ 31) (hc : c < 2 ^ 31) : fX7_in σ (nI a) (nI b) (nI c) = some (if b ≤ a ∧ a ≤ c then nI 1 else nI 0) := by
  unfold fX7_in
  by_cases h1 : a < b
  · rw [if_pos (nI_lt h1 hb), if_neg (by omega)]; rfl
  · rw [if_neg (nI_nlt (by omega) ha)]
    by_cases h2 : c < a
    · rw [if_pos (nI_lt h2 ha), if_neg (by omega)]; rfl
    · rw [if_neg (nI_nlt (by omega) hc), if_pos (by omega)]; rfl
theorem pm_p0 {σ : St} {d : HD} (hd : dOk d) (H : MH (σ 1) d) {p : Nat} (hp : p < dP d) : fX7_p σ (nI p) (nI 0) = some (nI (dbe d p)) := by
  have h8 := hd.1
  have e1 := H.2.2.2.2.1 p hp
  unfold fX7_p
  simp (disch := omega) only [pz_n4, pz_n2, pk_mul, nI_add, pz_gd, pz_cl, Nat.add_zero, e1]
theorem pm_p1 {σ : St} {d : HD} (hd : dOk d) (H : MH (σ 1) d) {p : Nat} (hp : p < dP d) : fX7_p σ (nI p) (nI 1) = some (bI (dop d p)) := by
  have h8 := hd.1
  have e1 := H.2.2.2.2.2.1 p hp
  unfold fX7_p
  simp (disch := omega) only [pz_n4, pz_n2, pk_mul, nI_add, pz_gd, pz_cl, e1]
theorem pm_b0 {σ : St} {d : HD} (hd : dOk d) (H : MH (σ 1) d) {i : Nat} (hi : i < dB d) : fX7_b σ (nI i) (nI 0) = some (nI (dna d i)) := by
  have h8 := hd.2.1
  have e1 := H.2.2.2.2.2.2.1 i hi
  unfold fX7_b
  simp (disch := omega) only [pz_n20, pz_n2, pk_mul, nI_add, pz_gd, pz_cl, Nat.add_zero, e1]
theorem pm_b1 {σ : St} {d : HD} (hd : dOk d) (H : MH (σ 1) d) {i : Nat} (hi : i < dB d) : fX7_b σ (nI i) (nI 1) = some (nI (dto d i)) := by
  have h8 := hd.2.1
  have e1 := H.2.2.2.2.2.2.2 i hi
  unfold fX7_b
  simp (disch := omega) only [pz_n20, pz_n2, pk_mul, nI_add, pz_gd, pz_cl, e1]
theorem pm_isOpen {σ : St} {d : HD} (hd : dOk d) (H : MH (σ 1) d) {p : Nat} (hp : p < dP d) : fX7_isOpen σ (nI p) = some (bI (dop d p)) := by
  unfold fX7_isOpen
  rw [pz_n1, pm_p1 hd H hp, pz_bd]
  cases dop d p with
  | true => rfl
  | false => rfl
theorem pm_points {σ : St} {d : HD} (hd : dOk d) (H : MH (σ 1) d) {p : Nat} (hp : p < dP d) : fX7_points σ (nI p) = some (nI (nptD d p)) := by
  unfold fX7_points nptD
  rw [pm_isOpen hd H hp, pz_bd, pz_n0, pm_p0 hd H hp, pz_bd]
  cases dop d p with
  | true =>
    rw [if_neg (by decide), if_pos rfl, pz_n2, pk_mul]
  | false => rfl
theorem pm_room {σ : St} {d : HD} (hd : dOk d) (H : MH (σ 1) d) {p : Nat} (hp : p < dP d) : fX7_room σ (nI p) = some (nI (roomD d p)) := by
  unfold fX7_room roomD
  rw [pm_isOpen hd H hp, pz_bd, pz_n0, pm_p0 hd H hp, pz_bd]
  cases dop d p with
  | true =>
    rw [if_neg (by decide), if_pos rfl, pz_n2, pz_cl (by omega), H.2.2.1, pk_mul]
  | false => rfl
theorem pm_pointOf {σ : St} {p j : Nat} (hp : p < 8) (hj : j < 45) : fX7_pointOf σ (nI p) (nI j) = some (nI (ptD p j)) := by
  unfold fX7_pointOf ptD
  simp (disch := omega) only [pz_n8, pz_n17, pz_n7, pz_n45, pk_mul, nI_add, pz_rem]
theorem pm_placeOf {σ : St} {d : HD} (hd : dOk d) {i : Nat} (hi : i < dB d) : fX7_placeOf σ (nI (dna d i)) = some (nI (pbD d i)) := by
  have e2 := (hd.2.2.2.2 i hi).1
  unfold fX7_placeOf pbD
  simp (disch := omega) only [pz_n37, pz_n11, pz_n360, pk_mul, nI_add, pz_rem]
def dnI : Nat → Int32
  | 0 => mI 1
  | k + 1 => nI k
theorem dnI_s (k : Nat) : nI k + mI 1 = dnI k := by
  cases k with
  | zero => rfl
  | succ k => exact pk_m1 k
theorem homes_ok {σ : St} {d : HD} {K : St → Option St} (h2 : ∀ q, q < 360 → σ 2 q = @ite _ (isD d q = true) (instDecidableEqBool _ _) (nI (8 * jqD q + q % 8)) (mI 1)) :
    ∃ σ', fX7_laysRing_L79 K 1000 σ (mI 1) (nI 719) = K σ' ∧ ringM σ' d ∧ ∀ a, a ≠ 3 → σ' a = σ a := by
  refine pz_loop (F := fun m τ i => fX7_laysRing_L79 K m τ (oM ((fh (cP d) i (720 - i)).map (fun i => i % 8))) (dnI (720 - i))) (P := fun o => ∃ σ', o = K σ' ∧ ringM σ' d ∧ ∀ a, a ≠ 3 → σ' a = σ a) (fun i τ => (∀ q, q < 360 → 720 - i ≤ q → τ 3 q = oM ((fh (cP d) (720 - q) q).map (fun i => i % 8))) ∧ ∀ a, a ≠ 3 → τ a = σ a) 720 ?_ ?_ 720 0 σ 1000 (by omega) (by omega) ⟨fun q a b => by omega, fun _ _ => rfl⟩
  · intro n τ ⟨a1, a2⟩
    refine ⟨τ, ?_, ⟨fun q hq => by rw [a2 2 (by omega)]; exact h2 q hq, fun q hq => ?_⟩, a2⟩
    · show fX7_laysRing_L79 K (n + 1) τ _ (mI 1) = K τ
      rw [fX7_laysRing_L79, if_pos (by decide)]
    · rw [a1 q hq (by omega), hf_more d (by omega)]
      rfl
  · intro n i τ hi ⟨a1, a2⟩
    right
    show ∃ b', _ ∧ fX7_laysRing_L79 K (n + 1) τ (oM ((fh (cP d) i (720 - i)).map (fun i => i % 8))) (dnI (720 - i)) = fX7_laysRing_L79 K n b' (oM ((fh (cP d) (i + 1) (720 - (i + 1))).map (fun i => i % 8))) (dnI (720 - (i + 1)))
    obtain ⟨k, ek⟩ : ∃ k, 720 - i = k + 1 := ⟨719 - i, by omega⟩
    have ek2 : 720 - (i + 1) = k := by omega
    rw [ek, ek2]
    show ∃ b', _ ∧ fX7_laysRing_L79 K (n + 1) τ (oM ((fh (cP d) i (k + 1)).map (fun i => i % 8))) (nI k) = _
    have hm : k % 360 < 360 := Nat.mod_lt _ (by omega)
    have e2 := h2 (k % 360) hm
    rw [← a2 2 (by omega)] at e2
    have hstep : (fh (cP d) (i + 1) k).map (fun i => i % 8) = if isD d (k % 360) = true then some (k % 8) else (fh (cP d) i (k + 1)).map (fun i => i % 8) := by
      show (if cP d k = true then some k else fh (cP d) i (k + 1)).map _ = _
      unfold cP
      by_cases h : isD d (k % 360) = true
      · rw [if_pos h, if_pos h]; rfl
      · rw [if_neg h, if_neg h]
    rw [hstep, fX7_laysRing_L79, pz_n0, if_neg (nI_nlt (Nat.zero_le _) (by omega))]
    have hnew : ∀ τ' : St, τ' 3 = upd (τ 3) (k % 360) (oM (if isD d (k % 360) = true then some (k % 8) else (fh (cP d) i (k + 1)).map (fun i => i % 8))) → ∀ q, q < 360 → k ≤ q → τ' 3 q = oM ((fh (cP d) (720 - q) q).map (fun i => i % 8)) := by
      intro τ' h3 q hq hkq
      rw [h3]
      by_cases e : q = k
      · subst e
        have e3 : q % 360 = q := Nat.mod_eq_of_lt hq
        rw [e3] at hstep ⊢
        rw [pk_us, ← hstep]
        rw [show 720 - q = i + 1 by omega]
      · by_cases e4 : q = k % 360
        · have : k < 360 := by omega
          omega
        · rw [pk_un e4]
          exact a1 q hq (by omega)
    by_cases h : isD d (k % 360) = true
    · have e8 : jrem (nI (8 * jqD (k % 360) + k % 360 % 8)) (nI 8) = nI (k % 8) := by
        have := jqD_lt (k % 360)
        rw [pz_rem (by omega) (by omega) (by omega)]
        congr 1
        omega
      have hne : ¬ nI (8 * jqD (k % 360) + k % 360 % 8) = mI 1 := by
        have := jqD_lt (k % 360)
        exact pz_nm (by omega) (by omega) (by omega)
      simp (disch := omega) only [pz_n1, pz_n8, pz_neg, pz_n360, pz_gd, pz_nm_, pz_cl, pz_rem, e2, h, if_true, hne, if_false, e8, dnI_s]
      refine ⟨_, ⟨hnew _ (by rw [pz_su_w, if_pos h]; rfl), fun a ha => by rw [pz_su_r _ _ ha]; exact a2 a ha⟩, rfl⟩
    · simp (disch := omega) only [pz_n1, pz_n8, pz_neg, pz_n360, pz_gd, pz_nm_, pz_cl, pz_rem, e2, h, if_true, if_false, dnI_s]
      refine ⟨_, ⟨hnew _ (by rw [pz_su_w, if_neg h]), fun a ha => by rw [pz_su_r _ _ ha]; exact a2 a ha⟩, rfl⟩
def ownM (σ : St) (d : HD) (n : Nat) : Prop := ∀ q, q < 360 → σ 2 q = @ite _ (isD d q = true ∧ nixD d q < n) instDecidableAnd (nI (8 * jqD q + q % 8)) (mI 1)
theorem own_pier {σ : St} {d : HD} {p : Nat} {K : St → Option St} (hd : dOk d) (H : MH (σ 1) d) (hp : p < dP d) (h2 : ownM σ d (offD d p)) :
    ∃ σ', fX7_laysRing_L36 (nI p) K 1000 σ (nI 0) = K σ' ∧ ownM σ' d (offD d (p + 1)) ∧ ∀ a, a ≠ 2 → σ' a = σ a := by
  have h8 := hd.1
  have h10 := nptD_le hd hp
  refine pz_loop (F := fun m τ j => fX7_laysRing_L36 (nI p) K m τ (nI j)) (P := fun o => ∃ σ', o = K σ' ∧ ownM σ' d (offD d (p + 1)) ∧ ∀ a, a ≠ 2 → σ' a = σ a) (fun j τ => ownM τ d (offD d p + j) ∧ ∀ a, a ≠ 2 → τ a = σ a) (nptD d p) ?_ ?_ (nptD d p) 0 σ 1000 (by omega) (by omega) ⟨h2, fun _ _ => rfl⟩
  · intro n τ ⟨a1, a2⟩
    have H1 : MH (τ 1) d := by rw [a2 1 (by omega)]; exact H
    refine ⟨τ, ?_, a1, a2⟩
    show fX7_laysRing_L36 (nI p) K (n + 1) τ (nI (nptD d p)) = K τ
    rw [fX7_laysRing_L36, pm_points hd H1 hp, pz_bd, if_pos (nI_le (Nat.le_refl _) (by omega))]
  · intro n j τ hj ⟨a1, a2⟩
    have H1 : MH (τ 1) d := by rw [a2 1 (by omega)]; exact H
    right
    show ∃ b', _ ∧ fX7_laysRing_L36 (nI p) K (n + 1) τ (nI j) = fX7_laysRing_L36 (nI p) K n b' (nI (j + 1))
    have hlt := ptD_lt (p := p) (j := j) (by omega)
    rw [fX7_laysRing_L36, pm_points hd H1 hp, pz_bd, if_neg (nI_ge hj (by omega)), pm_pointOf (by omega) (by omega), pz_bd]
    simp (disch := omega) only [pz_n1, pz_n8, pz_gd, pz_nm_, pz_cl, pk_mul, nI_add]
    refine ⟨_, ⟨?_, fun a ha => by rw [pz_su_r _ _ ha]; exact a2 a ha⟩, rfl⟩
    intro q hq
    have hst := nix_step hd (off_lt hp hj) hq
    have hk := kD_at hp hj
    rw [pz_su_w, show offD d p + (j + 1) = offD d p + j + 1 by omega]
    by_cases e : q = ptD p j
    · subst e
      rw [pk_us, if_pos (hst.mpr (Or.inr hk.symm)), ptD_mod (by omega), jqD_pt (by omega) (by omega)]
    · rw [pk_un e, a1 q hq]
      by_cases hb : isD d q = true ∧ nixD d q < offD d p + j
      · rw [if_pos hb, if_pos (hst.mpr (Or.inl hb))]
      · rw [if_neg hb, if_neg (fun hh => (hst.mp hh).elim hb (fun e2 => e (by rw [e2, hk])))]
theorem own_all {σ : St} {d : HD} {K : St → Option St} (hd : dOk d) (H : MH (σ 1) d) (h2 : ownM σ d 0) :
    ∃ σ', fX7_laysRing_L24 K 1000 σ (nI 0) = K σ' ∧ ownM σ' d (cntD d) ∧ ∀ a, a ≠ 2 → σ' a = σ a := by
  have h8 := hd.1
  refine pz_loop (F := fun m τ p => fX7_laysRing_L24 K m τ (nI p)) (P := fun o => ∃ σ', o = K σ' ∧ ownM σ' d (cntD d) ∧ ∀ a, a ≠ 2 → σ' a = σ a) (fun p τ => ownM τ d (offD d p) ∧ ∀ a, a ≠ 2 → τ a = σ a) (dP d) ?_ ?_ (dP d) 0 σ 1000 (by omega) (by omega) ⟨h2, fun _ _ => rfl⟩
  · intro n τ ⟨a1, a2⟩
    have H1 : MH (τ 1) d := by rw [a2 1 (by omega)]; exact H
    refine ⟨τ, ?_, a1, a2⟩
    show fX7_laysRing_L24 K (n + 1) τ (nI (dP d)) = K τ
    rw [fX7_laysRing_L24, pz_n0, pz_cl (by omega), H1.1, if_pos (nI_le (Nat.le_refl _) (by omega))]
  · intro n p τ hp ⟨a1, a2⟩
    have H1 : MH (τ 1) d := by rw [a2 1 (by omega)]; exact H
    right
    show ∃ b', _ ∧ fX7_laysRing_L24 K (n + 1) τ (nI p) = fX7_laysRing_L24 K n b' (nI (p + 1))
    rw [fX7_laysRing_L24, pz_n0, pz_cl (by omega), H1.1, if_neg (nI_ge hp (by omega))]
    obtain ⟨σ', g1, g2, g3⟩ := own_pier (K := fun σ => fX7_laysRing_B67 (fX7_laysRing_L24 K n) K σ (nI p)) hd H1 hp a1
    rw [g1]
    exact ⟨σ', ⟨g2, fun a ha => by rw [g3 a ha]; exact a2 a ha⟩, by unfold fX7_laysRing_B67; simp only [pz_nm_, pz_n1, nI_add]⟩
theorem lays_fill {σ : St} {K : St → Option St} : ∃ σ', fX7_laysRing_L2 K 1000 σ (nI 0) = K σ' ∧ (∀ q, q < 360 → σ' 2 q = mI 1) ∧ ∀ a, a ≠ 2 → σ' a = σ a := by
  refine pz_loop (F := fun m τ i => fX7_laysRing_L2 K m τ (nI i)) (P := fun o => ∃ σ', o = K σ' ∧ (∀ q, q < 360 → σ' 2 q = mI 1) ∧ ∀ a, a ≠ 2 → σ' a = σ a) (fun i τ => (∀ q, q < i → τ 2 q = mI 1) ∧ ∀ a, a ≠ 2 → τ a = σ a) 360 ?_ ?_ 360 0 σ 1000 (by omega) (by omega) ⟨fun q h => absurd h (Nat.not_lt_zero _), fun _ _ => rfl⟩
  · intro n τ ⟨a1, a2⟩
    refine ⟨τ, ?_, a1, a2⟩
    show fX7_laysRing_L2 K (n + 1) τ (nI 360) = K τ
    rw [fX7_laysRing_L2, pz_n360, if_pos (nI_le (Nat.le_refl _) (by omega))]
  · intro n i τ hi ⟨a1, a2⟩
    right
    show ∃ b', _ ∧ fX7_laysRing_L2 K (n + 1) τ (nI i) = fX7_laysRing_L2 K n b' (nI (i + 1))
    rw [fX7_laysRing_L2, pz_n360, if_neg (nI_ge hi (by omega))]
    simp (disch := omega) only [pz_n1, pz_neg, pz_gd, pz_nm_, pz_cl, nI_add]
    refine ⟨_, ⟨fun q hq => ?_, fun a ha => by rw [pz_su_r _ _ ha]; exact a2 a ha⟩, rfl⟩
    rw [pz_su_w]
    by_cases e : q = i
    · subst e; exact pk_us
    · rw [pk_un e]; exact a1 q (by omega)
theorem laysRing_ok {σ : St} {d : HD} (hd : dOk d) (H : MH (σ 1) d) : ∃ σ', fX7_laysRing σ = some σ' ∧ ringM σ' d ∧ ∀ a, a ≠ 2 → a ≠ 3 → σ' a = σ a := by
  unfold fX7_laysRing
  rw [pz_n0]
  obtain ⟨σ1, a1, a2, a3⟩ := lays_fill (σ := σ) (K := fun σ => fX7_laysRing_B22 σ)
  rw [a1]
  unfold fX7_laysRing_B22
  have H1 : MH (σ1 1) d := by rw [a3 1 (by omega)]; exact H
  rw [pz_n0]
  obtain ⟨σ2, b1, b2, b3⟩ := own_all (K := fun σ => fX7_laysRing_B73 σ) hd H1 (fun q hq => by rw [a2 q hq, if_neg (fun h => absurd h.2 (Nat.not_lt_zero _))])
  rw [b1]
  unfold fX7_laysRing_B73
  simp only [pz_n1, pz_neg, pz_n719]
  have b4 : ∀ q, q < 360 → σ2 2 q = @ite _ (isD d q = true) (instDecidableEqBool _ _) (nI (8 * jqD q + q % 8)) (mI 1) := by
    intro q hq
    rw [b2 q hq]
    by_cases h : isD d q = true
    · rw [if_pos ⟨h, (nix_facts hq h).1⟩, if_pos h]
    · rw [if_neg (fun hh => h hh.1), if_neg h]
  obtain ⟨σ3, c1, c2, c3⟩ := homes_ok (K := fun σ => fX7_laysRing_B132 σ) b4
  rw [c1]
  exact ⟨σ3, rfl, c2, fun a h1 h2 => by rw [c3 a h2, b3 a h1, a3 a h1]⟩
theorem pm_homeAt {σ : St} {d : HD} (hd : dOk d) (H : MH (σ 1) d) (hr : ringM σ d) {i : Nat} (hi : i < dB d) : fX7_homeAt σ (nI i) = some (oM (homeD d (pbD d i))) := by
  have hp := pbD_lt d i
  unfold fX7_homeAt
  rw [pz_n0, pm_b0 hd H hi, pz_bd, pm_placeOf hd hi, pz_bd]
  simp (disch := omega) only [pz_gd, pz_cl, hr.2 _ hp]
theorem oM_inj {d d' : HD} (hd : dOk d) (hd' : dOk d') {q q' : Nat} : oM (homeD d q) = oM (homeD d' q') ↔ homeD d q = homeD d' q' := by
  have h8 := hd.1
  have h8' := hd'.1
  constructor
  · intro h
    cases e : homeD d q with
    | none =>
      cases e' : homeD d' q' with
      | none => rfl
      | some p' =>
        have := (homeD_lt e').1
        rw [e, e'] at h
        exact absurd h (pz_mn (by omega) (by omega) (by omega))
    | some p =>
      have h1 := (homeD_lt e).1
      cases e' : homeD d' q' with
      | none =>
        rw [e, e'] at h
        exact absurd h (pz_nm (by omega) (by omega) (by omega))
      | some p' =>
        have := (homeD_lt e').1
        rw [e, e'] at h
        rw [(nI_eq (by omega) (by omega)).mp h]
  · intro h
    rw [h]
theorem oX_inj {d d' : HD} (hd : dOk d) (hd' : dOk d') {q q' : Nat} : oX (homeD d q) = oX (homeD d' q') ↔ homeD d q = homeD d' q' := by
  have h8 := hd.1
  have h8' := hd'.1
  constructor
  · intro h
    cases e : homeD d q with
    | none =>
      cases e' : homeD d' q' with
      | none => rfl
      | some p' =>
        have := (homeD_lt e').1
        rw [e, e'] at h
        exact absurd h (pz_mn (by omega) (by omega) (by omega))
    | some p =>
      have h1 := (homeD_lt e).1
      cases e' : homeD d' q' with
      | none =>
        rw [e, e'] at h
        exact absurd h (pz_nm (by omega) (by omega) (by omega))
      | some p' =>
        have := (homeD_lt e').1
        rw [e, e'] at h
        rw [(nI_eq (by omega) (by omega)).mp h]
  · intro h
    rw [h]
