/-! Pure rows: homes by the class's circle. -/
def pfK (K : Nat → Nat) (g : Nat → Prop) (x : Int32) (u : Nat) : Prop :=
  (x = mI 1 ∧ ∀ w, w < u → onK K g w → ¬ g w) ∨ ∃ f, x = nI f ∧ f < u ∧ onK K g f ∧ g f ∧ ∀ w, w < u → onK K g w → g w → K f ≤ K w
theorem first_walk {cx N q : Nat} {σ : St} {K : Nat → Nat} {K18 : Int32 → Option Int32} (hN : N ≤ 80) (hq : q < 360) (hcn : σ (15 + 9 * cx) 5 = nI N) (hpt : ∀ i, i < N → σ ((15 + 9 * cx) + 2) i = nI (K i)) (hK : ∀ i, i < N → K i < 360) (hi : injK K N) (ht : treeK K (σ ((15 + 9 * cx) + 7)) (σ ((15 + 9 * cx) + 8)) N) :
    ∀ k u s m x2, u < N → N - u ≤ k → k + 1 < m → s ≤ u → onK K (fun w => q ≤ K w) u → pfK K (fun w => q ≤ K w) x2 u → ∃ r, fX0_firstInTree_L18 cx σ (nI q) K18 m x2 (nI u) (nI s) = K18 r ∧ pfK K (fun w => q ≤ K w) r N := by
  intro k
  induction k with
  | zero => intro u s m x2 h1 h2; omega
  | succ k ih =>
    intro u s m x2 h1 h2 h3 h4 h5 h6
    obtain ⟨m, rfl⟩ : ∃ z, m = z + 2 := ⟨m - 2, by omega⟩
    have hku := hK u h1
    have p1 := hpt u h1
    rw [fX0_firstInTree_L18]
    simp (disch := omega) only [hcn, pz_n1, pz_neg, pz_gd, pz_nm_, pz_cl, p1, pz_nm, nI_ge, if_false, nI_add]
    have fin_ : ∀ x s', fX0_firstInTree_L18 cx σ (nI q) K18 (m + 1) x (mI 1) (nI s') = K18 x := fun x s' => by
      rw [fX0_firstInTree_L18]
      simp only [pz_n1, pz_neg, if_true, ite_self]
    by_cases hg : q ≤ K u
    · rw [if_neg (nI_nlt hg (by omega))]
      have hp : ∀ v, u < v → (∀ w, u < w → w < v → ¬ onK K (fun w => q ≤ K w) w) → pfK K (fun w => q ≤ K w) (nI u) v := by
        intro v hv hno
        refine Or.inr ⟨u, rfl, hv, h5, hg, fun w hw ho gw => ?_⟩
        by_cases e1 : w < u
        · exact Nat.le_of_lt ((h5 w e1).mp gw)
        · by_cases e2 : w = u
          · rw [e2]; exact Nat.le_refl _
          · exact absurd ho (hno w (by omega) hw)
      rcases step_left hi (mo_from K q) (ht u h1).1 h5 hg with ⟨q1, q2⟩ | ⟨v, q1, q2, q3, q4, q5⟩
      · rw [q1, fin_]
        exact ⟨_, rfl, hp N h1 q2⟩
      · rw [q1]
        exact ih v (s + 1) (m + 1) (nI u) q3 (by omega) (by omega) (by omega) q4 (hp v q2 q5)
    · rw [if_pos (nI_lt (by omega) (by omega))]
      have hp : ∀ v, u < v → (∀ w, u < w → w < v → ¬ onK K (fun w => q ≤ K w) w) → pfK K (fun w => q ≤ K w) x2 v := by
        intro v hv hno
        have hw3 : ∀ w, w < v → onK K (fun w => q ≤ K w) w → q ≤ K w → w < u := by
          intro w hw ho gw
          by_cases e1 : w < u
          · exact e1
          · by_cases e2 : w = u
            · rw [e2] at gw; exact absurd gw hg
            · exact absurd ho (hno w (by omega) hw)
        rcases h6 with ⟨a, b⟩ | ⟨f, a, b, c, e, g⟩
        · exact Or.inl ⟨a, fun w hw ho gw => b w (hw3 w hw ho gw) ho gw⟩
        · exact Or.inr ⟨f, a, by omega, c, e, fun w hw ho gw => g w (hw3 w hw ho gw) ho gw⟩
      rcases step_right hi (mo_from K q) (ht u h1).2 h5 hg with ⟨q1, q2⟩ | ⟨v, q1, q2, q3, q4, q5⟩
      · rw [q1, fin_]
        exact ⟨_, rfl, hp N h1 q2⟩
      · rw [q1]
        exact ih v (s + 1) (m + 1) x2 q3 (by omega) (by omega) (by omega) q4 (hp v q2 q5)
theorem first_ok {cx q : Nat} {σ : St} {d : HD} (hd : dOk d) (hq : q < 360) (hc : cirX cx σ d (cntD d)) :
    ∃ r, fX0_firstInTree cx σ (nI q) = some r ∧ ((r = mI 1 ∧ ∀ i, i < cntD d → ¬ q ≤ kD d i) ∨ ∃ f, r = nI f ∧ f < cntD d ∧ q ≤ kD d f ∧ ∀ i, i < cntD d → q ≤ kD d i → kD d f ≤ kD d i) := by
  have h80 := cntD_le hd
  obtain ⟨c1, c2, c3, c4, c5, c6, c7, c8⟩ := hc
  have hi : injK (kD d) (cntD d) := fun a b ha hb h => kD_inj hd ha hb h
  unfold fX0_firstInTree
  rw [c1]
  by_cases h0 : cntD d = 0
  · rw [if_pos (by rw [h0]; rfl)]
    unfold fX0_firstInTree_B14
    rw [fX0_firstInTree_L18, c1, if_pos (by rw [h0, pz_n0]; exact nI_le (Nat.le_refl _) (by omega))]
    exact ⟨_, rfl, Or.inl ⟨rfl, fun i hi => by omega⟩⟩
  · rw [if_neg (nI_ne0 (by omega) (by omega))]
    unfold fX0_firstInTree_B14
    obtain ⟨r, e1, e2⟩ := first_walk (cx := cx) (K18 := fun y2 => fX0_firstInTree_B67 cx σ y2) h80 hq c1 c3 (fun i h => (kD_facts hd h).1) hi c8 (cntD d) 0 0 1000 (mI 1) (by omega) (by omega) (by omega) (Nat.le_refl _) (onK_0 _ _) (Or.inl ⟨rfl, fun w hw => absurd hw (Nat.not_lt_zero _)⟩)
    refine ⟨r, e1, ?_⟩
    rcases e2 with ⟨a, b⟩ | ⟨f, a, b, c, e, g⟩
    · left
      refine ⟨a, fun i hin hqi => ?_⟩
      obtain ⟨w, w1, w2, w3, w4⟩ := mn_on hi (mo_from (kD d) q) (kD d i) i hin hqi (Nat.le_refl _)
      exact b w w1 w2 w3
    · right
      refine ⟨f, a, b, e, fun i hin hqi => ?_⟩
      obtain ⟨w, w1, w2, w3, w4⟩ := mn_on hi (mo_from (kD d) q) (kD d i) i hin hqi (Nat.le_refl _)
      have := g w w1 w2 w3
      omega
theorem hf_at {d : HD} (hd : dOk d) {q f : Nat} (hf : f < cntD d) (h1 : q ≤ kD d f) (h2 : ∀ i, i < cntD d → q ≤ kD d i → kD d f ≤ kD d i) : hfD d q = some (kD d f) := by
  have hk := kD_facts hd hf
  unfold hfD
  rw [fh_some]
  refine ⟨h1, by omega, by rw [cP_lt d hk.1]; exact hk.2.1, fun j a b => ?_⟩
  rw [cP_lt d (by omega)]
  cases e : isD d j with
  | false => rfl
  | true =>
    have h3 := nix_facts (d := d) (q := j) (by omega) e
    have := h2 (nixD d j) h3.1 (by omega)
    omega
theorem hf_over {d : HD} (hd : dOk d) {q f : Nat} (hq : q < 360) (hf : f < cntD d) (h1 : ∀ i, i < cntD d → ¬ q ≤ kD d i) (h2 : ∀ i, i < cntD d → kD d f ≤ kD d i) : hfD d q = some (kD d f + 360) := by
  have hk := kD_facts hd hf
  have h4 := h1 f hf
  unfold hfD
  rw [fh_some]
  refine ⟨by omega, by omega, by rw [cP_per, cP_lt d hk.1]; exact hk.2.1, fun j a b => ?_⟩
  by_cases hj : j < 360
  · rw [cP_lt d hj]
    cases e : isD d j with
    | false => rfl
    | true =>
      have h3 := nix_facts (d := d) (q := j) hj e
      have := h1 (nixD d j) h3.1
      omega
  · have : cP d j = isD d (j - 360) := by
      rw [← cP_lt d (by omega), ← cP_per d (j - 360)]
      congr 1
      omega
    rw [this]
    cases e : isD d (j - 360) with
    | false => rfl
    | true =>
      have h3 := nix_facts (d := d) (q := j - 360) (by omega) e
      have := h2 (nixD d (j - 360)) h3.1
      omega
theorem hf_empty {d : HD} (h0 : cntD d = 0) (q : Nat) : hfD d q = none := by
  unfold hfD
  rw [fh_none]
  intro j a b
  unfold cP
  cases e : isD d (j % 360) with
  | false => rfl
  | true =>
    have := (nix_facts (d := d) (q := j % 360) (Nat.mod_lt _ (by omega)) e).1
    omega
theorem pz_homeByTree {cx q : Nat} {σ : St} {d : HD} (hd : dOk d) (hq : q < 360) (hc : cirX cx σ d (cntD d)) : fX0_homeByTree cx σ (nI q) = some (oX (homeD d q)) := by
  have h80 := cntD_le hd
  have c4 := hc.2.2.2.1
  unfold fX0_homeByTree homeD
  obtain ⟨r, e1, e2⟩ := first_ok hd hq hc
  rw [e1, pz_bd]
  rcases e2 with ⟨rfl, b⟩ | ⟨f, rfl, b, c, e⟩
  · simp only [pz_n1, pz_n0, pz_neg, if_true]
    obtain ⟨r0, e3, e4⟩ := first_ok (q := 0) hd (by omega) hc
    rw [e3, pz_bd]
    rcases e4 with ⟨rfl, b0⟩ | ⟨f, rfl, bf, cf, ef⟩
    · simp only [if_true]
      rw [hf_empty (by
        by_cases h0 : cntD d = 0
        · exact h0
        · exact absurd (Nat.zero_le _) (b0 0 (by omega)))]
      rfl
    · rw [hf_over hd hq bf b (fun i hi => ef i hi (Nat.zero_le _))]
      simp (disch := omega) only [pz_nm, if_false, pz_gd, pz_cl, c4 f bf]
      show _ = some (nI ((kD d f + 360) % 8))
      rw [show (kD d f + 360) % 8 = kD d f % 8 by omega]
  · rw [hf_at hd b c e]
    simp (disch := omega) only [pz_n1, pz_neg, pz_nm, if_false, pz_gd, pz_cl, c4 f b]
    rfl
theorem pz_homeAlong {cx q : Nat} {σ : St} {d : HD} (hd : dOk d) (hq : q < 360) (hc : cirX cx σ d (cntD d)) : fX0_homeAlong cx σ (nI q) = some (oX (homeD d q)) := by
  have h80 := cntD_le hd
  obtain ⟨c1, c2, c3, c4, c5, c6, c7, c8⟩ := hc
  unfold fX0_homeAlong homeD
  refine pz_loop (F := fun m (_ : Unit) s => fX0_homeAlong_L2 cx σ (nI q) (fX0_homeAlong_B40 cx σ) m (nI s)) (P := fun o => o = some (oX ((hfD d q).map (fun i => i % 8)))) (fun s _ => ∀ j, q ≤ j → j < q + s → cP d j = false) 360 ?_ ?_ 360 0 () 1000 (by omega) (by omega) (fun j a b => by omega)
  · intro n _ h1
    show fX0_homeAlong_L2 cx σ (nI q) _ (n + 1) (nI 360) = _
    rw [fX0_homeAlong_L2, if_pos (by rw [pz_n360]; exact nI_le (Nat.le_refl _) (by omega))]
    unfold hfD
    rw [fh_none.mpr h1]
    rfl
  · intro n s _ hs h1
    show fX0_homeAlong_L2 cx σ (nI q) _ (n + 1) (nI s) = _ ∨ ∃ b', _ ∧ fX0_homeAlong_L2 cx σ (nI q) _ (n + 1) (nI s) = fX0_homeAlong_L2 cx σ (nI q) _ n (nI (s + 1))
    have hm : (q + s) % 360 < 360 := Nat.mod_lt _ (by omega)
    have e7 := c7 ((q + s) % 360) hm
    rw [fX0_homeAlong_L2, if_neg (by rw [pz_n360]; exact nI_ge hs (by omega))]
    simp (disch := omega) only [pz_n1, pz_neg, pz_n360, pz_gd, pz_nm_, pz_cl, nI_add, pz_rem, e7]
    by_cases hi : isD d ((q + s) % 360) = true
    · left
      have hx := nix_facts hm hi
      have h9 : hfD d q = some (q + s) := by
        unfold hfD
        rw [fh_some]
        exact ⟨by omega, by omega, hi, h1⟩
      rw [h9]
      simp (disch := omega) only [hi, hx.1, and_self, if_true, pz_nm, if_false, pz_gd, pz_cl, c4 _ hx.1, hx.2]
      show some (nI ((q + s) % 360 % 8)) = some (nI ((q + s) % 8))
      rw [show (q + s) % 360 % 8 = (q + s) % 8 by omega]
    · right
      simp only [hi, false_and, if_false, if_true]
      refine ⟨(), fun j a b => ?_, rfl⟩
      by_cases e : j = q + s
      · rw [e]
        unfold cP
        simpa using hi
      · exact h1 j a (by omega)
