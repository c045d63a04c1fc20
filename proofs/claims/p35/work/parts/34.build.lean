/-! Pure rows: the class lays its circle out. -/
noncomputable def dpK (d : HD) (i : Nat) : Nat := cK (kD d) (fun w => kD d i < kD d w) i
noncomputable def hgK (d : HD) : Nat → Nat
  | 0 => 0
  | n + 1 => max (hgK d n) (dpK d n + 1)
theorem dpK_le (d : HD) (i : Nat) : dpK d i ≤ i := cK_le _ _ _
theorem hgK_le (d : HD) : ∀ n, hgK d n ≤ n := by
  intro n
  induction n with
  | zero => exact Nat.le_refl _
  | succ n ih =>
    have := dpK_le d n
    show max (hgK d n) (dpK d n + 1) ≤ n + 1
    omega
theorem treeK_congr {K : Nat → Nat} {L R L' R' : Nat → Int32} {n : Nat} (h : ∀ u, u < n → L' u = L u ∧ R' u = R u) (ht : treeK K L R n) : treeK K L' R' n := by
  intro u hu
  obtain ⟨a, b⟩ := ht u hu
  obtain ⟨e1, e2⟩ := h u hu
  unfold chL at a ⊢
  unfold chR at b ⊢
  rw [e1, e2]
  exact ⟨a, b⟩
theorem pz_max {a b : Nat} (ha : a < 2 ^ 31) (hb : b < 2 ^ 31) : (if nI a < nI b then nI b else nI a) = nI (max a b) := by
  by_cases h : a < b
  · rw [if_pos (nI_lt h hb), Nat.max_eq_right (by omega)]
  · rw [if_neg (nI_nlt (by omega) ha), Nat.max_eq_left (by omega)]
theorem mo_key (K : Nat → Nat) (x : Nat) : moK K (fun w => x < K w) := fun w w' h h2 => by
  show x < K w'
  have : x < K w := h
  omega
theorem mo_from (K : Nat → Nat) (x : Nat) : moK K (fun w => x ≤ K w) := fun w w' h h2 => by
  show x ≤ K w'
  have : x ≤ K w := h
  omega
theorem hang_walk {cx n : Nat} {σ : St} {K : Nat → Nat} {K80 : St → Int32 → Int32 → Option St} (hn : n < 80) (hpt : ∀ i, i ≤ n → σ ((15 + 9 * cx) + 2) i = nI (K i)) (hK : ∀ i, i ≤ n → K i < 360) (hi : injK K (n + 1)) (ht : treeK K (σ ((15 + 9 * cx) + 7)) (σ ((15 + 9 * cx) + 8)) n) :
    ∀ k u m x2, u < n → n - u ≤ k → k + 1 < m → onK K (fun w => K n < K w) u → ∃ v, v < n ∧ onK K (fun w => K n < K w) v ∧ (∀ w, v < w → w < n → ¬ onK K (fun w => K n < K w) w) ∧ (K n < K v → σ ((15 + 9 * cx) + 7) v = mI 1) ∧ (¬ K n < K v → σ ((15 + 9 * cx) + 8) v = mI 1) ∧ fX0_hang_L29 cx (nI n) K80 m σ x2 (nI u) (nI (cK K (fun w => K n < K w) u)) = K80 σ (nI v) (nI (cK K (fun w => K n < K w) v + 1)) := by
  intro k
  induction k with
  | zero => intro u m x2 h1 h2; omega
  | succ k ih =>
    intro u m x2 h1 h2 h3 h4
    obtain ⟨m, rfl⟩ : ∃ z, m = z + 2 := ⟨m - 2, by omega⟩
    have hin : injK K n := fun a b ha hb h => hi a b (by omega) (by omega) h
    have hc := cK_le K (fun w => K n < K w) u
    have hku := hK u (by omega)
    have hkn := hK n (by omega)
    have p1 := hpt u (by omega)
    have p2 := hpt n (by omega)
    rw [fX0_hang_L29]
    simp (disch := omega) only [pz_n80, pz_n1, pz_neg, pz_gd, pz_nm_, pz_cl, p1, p2, pz_nm, nI_ge, if_false, nI_add]
    by_cases hd : K n < K u
    · rw [if_neg (nI_ge hd (by omega))]
      rcases step_left hin (mo_key K (K n)) (ht u h1).1 h4 hd with ⟨q1, q2⟩ | ⟨v, q1, q2, q3, q4, q5⟩
      · refine ⟨u, h1, h4, q2, fun _ => q1, fun h => absurd hd h, ?_⟩
        rw [q1, fX0_hang_L29]
        simp only [pz_n1, pz_neg, if_true]
      · obtain ⟨v', r1, r2, r3, r4, r5, r6⟩ := ih v (m + 1) (nI u) q3 (by omega) (by omega) q4
        refine ⟨v', r1, r2, r3, r4, r5, ?_⟩
        rw [q1, ← r6, cK_gap h4 v q2 q5]
    · rw [if_pos (nI_le (by omega) (by omega))]
      rcases step_right hin (mo_key K (K n)) (ht u h1).2 h4 hd with ⟨q1, q2⟩ | ⟨v, q1, q2, q3, q4, q5⟩
      · refine ⟨u, h1, h4, q2, fun h => absurd h hd, fun _ => q1, ?_⟩
        rw [q1, fX0_hang_L29]
        simp only [pz_n1, pz_neg, if_true]
      · obtain ⟨v', r1, r2, r3, r4, r5, r6⟩ := ih v (m + 1) (nI u) q3 (by omega) (by omega) q4
        refine ⟨v', r1, r2, r3, r4, r5, ?_⟩
        rw [q1, ← r6, cK_gap h4 v q2 q5]
theorem hang_end {cx n x : Nat} {σ : St} {d : HD} (hn : n < 80) (hx : x = dpK d n) (hh : σ (15 + 9 * cx) 6 = nI (hgK d n)) : ∃ σ', fX0_hang_B117 cx σ (nI n) (nI x) = some σ' ∧ σ' ((15 + 9 * cx) + 5) = upd (σ ((15 + 9 * cx) + 5)) n (nI (dpK d n)) ∧ σ' (15 + 9 * cx) = upd (σ (15 + 9 * cx)) 6 (nI (hgK d (n + 1))) ∧ ∀ a, a ≠ 15 + 9 * cx → a ≠ (15 + 9 * cx) + 5 → σ' a = σ a := by
  subst hx
  have h1 := dpK_le d n
  have h2 := hgK_le d n
  unfold fX0_hang_B117
  simp (disch := omega) only [pz_n1, pz_gd, pz_nm_, pz_cl, nI_add, pz_su_n, hh, pz_max]
  refine ⟨_, rfl, ?_, ?_, fun a ha hb => ?_⟩
  · rw [pz_su_r _ _ (by omega), pz_su_w]
  · rw [pz_su_w, pz_su_r _ _ (by omega)]
    rfl
  · rw [pz_su_r _ _ ha, pz_su_r _ _ hb]
theorem hang_ok {cx n : Nat} {σ : St} {d : HD} (hd : dOk d) (hn : n < cntD d) (hpt : ∀ i, i ≤ n → σ ((15 + 9 * cx) + 2) i = nI (kD d i)) (ht : treeK (kD d) (σ ((15 + 9 * cx) + 7)) (σ ((15 + 9 * cx) + 8)) n) (hh : σ (15 + 9 * cx) 6 = nI (hgK d n)) :
    ∃ σ', fX0_hang cx σ (nI n) = some σ' ∧ treeK (kD d) (σ' ((15 + 9 * cx) + 7)) (σ' ((15 + 9 * cx) + 8)) (n + 1) ∧ σ' ((15 + 9 * cx) + 5) = upd (σ ((15 + 9 * cx) + 5)) n (nI (dpK d n)) ∧ σ' (15 + 9 * cx) = upd (σ (15 + 9 * cx)) 6 (nI (hgK d (n + 1))) ∧ ∀ a, a ≠ 15 + 9 * cx → a ≠ (15 + 9 * cx) + 5 → a ≠ (15 + 9 * cx) + 7 → a ≠ (15 + 9 * cx) + 8 → σ' a = σ a := by
  have h80 := cntD_le hd
  have hi : injK (kD d) (n + 1) := fun a b ha hb h => kD_inj hd (by omega) (by omega) h
  have hK : ∀ i, i ≤ n → kD d i < 360 := fun i h => (kD_facts hd (by omega)).1
  unfold fX0_hang
  simp (disch := omega) only [pz_n1, pz_n0, pz_neg, pz_gd, pz_nm_, pz_cl]
  obtain ⟨σ1, e1⟩ : ∃ z, z = su (su σ ((15 + 9 * cx) + 7) n (mI 1)) ((15 + 9 * cx) + 8) n (mI 1) := ⟨_, rfl⟩
  rw [← e1]
  have f7 : σ1 ((15 + 9 * cx) + 7) = upd (σ ((15 + 9 * cx) + 7)) n (mI 1) := by rw [e1, pz_su_r _ _ (by omega), pz_su_w]
  have f8 : σ1 ((15 + 9 * cx) + 8) = upd (σ ((15 + 9 * cx) + 8)) n (mI 1) := by rw [e1, pz_su_w, pz_su_r _ _ (by omega)]
  have fo : ∀ a, a ≠ (15 + 9 * cx) + 7 → a ≠ (15 + 9 * cx) + 8 → σ1 a = σ a := fun a h1 h2 => by rw [e1, pz_su_r _ _ h2, pz_su_r _ _ h1]
  have hpt1 : ∀ i, i ≤ n → σ1 ((15 + 9 * cx) + 2) i = nI (kD d i) := fun i h => by rw [fo _ (by omega) (by omega)]; exact hpt i h
  have hh1 : σ1 (15 + 9 * cx) 6 = nI (hgK d n) := by rw [fo _ (by omega) (by omega)]; exact hh
  have ht1 : treeK (kD d) (σ1 ((15 + 9 * cx) + 7)) (σ1 ((15 + 9 * cx) + 8)) n := treeK_congr (fun u hu => ⟨by rw [f7, pk_un (by omega)], by rw [f8, pk_un (by omega)]⟩) ht
  by_cases h0 : n = 0
  · subst h0
    obtain ⟨σ2, g1, g2, g3, g4⟩ := hang_end (cx := cx) (n := 0) (x := 0) (σ := σ1) (d := d) (by omega) (Nat.le_zero.mp (dpK_le d 0)).symm hh1
    refine ⟨σ2, ?_, ?_, ?_, ?_, fun a h1 h2 h3 h4 => by rw [g4 a h1 h2, fo a h3 h4]⟩
    · rw [if_pos rfl]
      unfold fX0_hang_B25
      rw [fX0_hang_L29]
      unfold fX0_hang_B80
      simp only [pz_n1, pz_n0, pz_neg, if_true]
      exact g1
    · intro u hu
      have : u = 0 := by omega
      subst this
      rw [g4 _ (by omega) (by omega), g4 _ (by omega) (by omega), f7, f8]
      exact ⟨Or.inl ⟨pk_us, fun v a b => by omega⟩, Or.inl ⟨pk_us, fun v a b => by omega⟩⟩
    · rw [g2, fo _ (by omega) (by omega)]
    · rw [g3, fo _ (by omega) (by omega)]
  · rw [if_neg (by rw [nI_eq (by omega) (by omega)]; exact h0)]
    unfold fX0_hang_B25
    obtain ⟨v, w1, w2, w3, w4, w5, w6⟩ := hang_walk (cx := cx) (σ := σ1) (K80 := fun σ y2 y4 => fX0_hang_B80 cx σ (nI n) y2 y4) (by omega) hpt1 hK hi ht1 n 0 1000 (mI 1) (by omega) (by omega) (by omega) (onK_0 _ _)
    have w7 : dpK d n = cK (kD d) (fun w => kD d n < kD d w) v + 1 := cK_gap w2 n w1 w3
    have w8 := dpK_le d n
    have k1 := hK v (by omega)
    have k2 := hK n (by omega)
    have p1 := hpt1 v (by omega)
    have p2 := hpt1 n (by omega)
    rw [pz_n0, show nI 0 = nI (cK (kD d) (fun w => kD d n < kD d w) 0) from rfl] 
    rw [show nI (cK (kD d) (fun w => kD d n < kD d w) 0) = nI 0 from rfl] at w6
    rw [show nI (cK (kD d) (fun w => kD d n < kD d w) 0) = nI 0 from rfl, w6]
    unfold fX0_hang_B80
    simp (disch := omega) only [pz_n1, pz_neg, pz_gd, pz_nm_, pz_cl, p1, p2, pz_nm, if_false]
    have hne : kD d v ≠ kD d n := fun h => by have := hi v n (by omega) (by omega) h; omega
    by_cases hk : kD d n < kD d v
    · rw [if_neg (nI_ge hk (by omega))]
      obtain ⟨σ2, e2⟩ : ∃ z, z = su σ1 ((15 + 9 * cx) + 7) v (nI n) := ⟨_, rfl⟩
      rw [← e2]
      obtain ⟨σ3, g1, g2, g3, g4⟩ := hang_end (cx := cx) (n := n) (x := cK (kD d) (fun w => kD d n < kD d w) v + 1) (σ := σ2) (d := d) (by omega) w7.symm (by rw [e2, pz_su_n _ _ (by omega)]; exact hh1)
      refine ⟨σ3, g1, ?_, ?_, ?_, fun a h1 h2 h3 h4 => by rw [g4 a h1 h2, e2, pz_su_r _ _ h3, fo a h3 h4]⟩
      · rw [g4 _ (by omega) (by omega), g4 _ (by omega) (by omega), e2, pz_su_w, pz_su_r _ _ (by omega)]
        exact tree_ins (u := v) (by omega) hi ht1 w1 w2 w3 (fun h => ⟨w4 h, pk_us, rfl⟩) (fun h => absurd hk h) (by rw [pk_un (by omega), f7, pk_us]) (by rw [f8, pk_us]) (fun w hw hv => ⟨pk_un hv, rfl⟩)
      · rw [g2, e2, pz_su_r _ _ (by omega), fo _ (by omega) (by omega)]
      · rw [g3, e2, pz_su_r _ _ (by omega), fo _ (by omega) (by omega)]
    · rw [if_pos (nI_le (by omega) (by omega))]
      obtain ⟨σ2, e2⟩ : ∃ z, z = su σ1 ((15 + 9 * cx) + 8) v (nI n) := ⟨_, rfl⟩
      rw [← e2]
      obtain ⟨σ3, g1, g2, g3, g4⟩ := hang_end (cx := cx) (n := n) (x := cK (kD d) (fun w => kD d n < kD d w) v + 1) (σ := σ2) (d := d) (by omega) w7.symm (by rw [e2, pz_su_n _ _ (by omega)]; exact hh1)
      refine ⟨σ3, g1, ?_, ?_, ?_, fun a h1 h2 h3 h4 => by rw [g4 a h1 h2, e2, pz_su_r _ _ h4, fo a h3 h4]⟩
      · rw [g4 _ (by omega) (by omega), g4 _ (by omega) (by omega), e2, pz_su_w, pz_su_r _ _ (by omega)]
        exact tree_ins (u := v) (by omega) hi ht1 w1 w2 w3 (fun h => absurd h hk) (fun h => ⟨w5 h, pk_us, rfl⟩) (by rw [f7, pk_us]) (by rw [pk_un (by omega), f8, pk_us]) (fun w hw hv => ⟨rfl, pk_un hv⟩)
      · rw [g2, e2, pz_su_r _ _ (by omega), fo _ (by omega) (by omega)]
      · rw [g3, e2, pz_su_r _ _ (by omega), fo _ (by omega) (by omega)]
