/-! Pure rows: the model's tree; ring and deep. -/
def treeM (σ : St) (d : HD) (n : Nat) : Prop := σ 0 16 = nI n ∧ (∀ i, i < n → σ 9 i = nI (kD d i)) ∧ treeK (kD d) (σ 10) (σ 11) n ∧ ∀ i, i < n → σ 12 (kD d i) = nI (dpK d i)
theorem puts_walk {n : Nat} {σ : St} {d : HD} {K : St → Int32 → Option St} (hd : dOk d) (hn : n < cntD d) (hpt : ∀ i, i < n → σ 9 i = nI (kD d i)) (ht : treeK (kD d) (σ 10) (σ 11) n) :
    ∀ k u m τ x3, u < n → n - u ≤ k → k + 1 < m → onK (kD d) (fun w => kD d n < kD d w) u → τ 12 = upd (σ 12) (kD d n) (nI (cK (kD d) (fun w => kD d n < kD d w) u)) → (∀ a, a ≠ 12 → τ a = σ a) →
    ∃ v τ', v < n ∧ onK (kD d) (fun w => kD d n < kD d w) v ∧ (∀ w, v < w → w < n → ¬ onK (kD d) (fun w => kD d n < kD d w) w) ∧ (kD d n < kD d v → σ 10 v = mI 1) ∧ (¬ kD d n < kD d v → σ 11 v = mI 1) ∧ fX7_puts_L53 (nI (kD d n)) K m τ x3 (nI u) = K τ' (nI v) ∧ τ' 12 = upd (σ 12) (kD d n) (nI (cK (kD d) (fun w => kD d n < kD d w) v + 1)) ∧ ∀ a, a ≠ 12 → τ' a = σ a := by
  have h80 := cntD_le hd
  have hkn := (kD_facts hd hn).1
  intro k
  induction k with
  | zero => intro u m τ x3 h1 h2; omega
  | succ k ih =>
    intro u m τ x3 h1 h2 h3 h4 h5 h6
    obtain ⟨m, rfl⟩ : ∃ z, m = z + 2 := ⟨m - 2, by omega⟩
    have hin : injK (kD d) n := fun a b ha hb h => kD_inj hd (by omega) (by omega) h
    have hc := cK_le (kD d) (fun w => kD d n < kD d w) u
    have hku := (kD_facts hd (n := u) (by omega)).1
    have t12 : τ 12 (kD d n) = nI (cK (kD d) (fun w => kD d n < kD d w) u) := by rw [h5, pk_us]
    have p1 : τ 9 u = nI (kD d u) := by rw [h6 9 (by omega)]; exact hpt u h1
    rw [fX7_puts_L53]
    simp (disch := omega) only [pz_n1, pz_neg, pz_gd, pz_nm_, pz_cl, pz_nm, if_false, nI_add, t12, pz_su_n, p1]
    obtain ⟨τ1, e1⟩ : ∃ z, z = su τ 12 (kD d n) (nI (cK (kD d) (fun w => kD d n < kD d w) u + 1)) := ⟨_, rfl⟩
    rw [← e1]
    have g12 : τ1 12 = upd (σ 12) (kD d n) (nI (cK (kD d) (fun w => kD d n < kD d w) u + 1)) := by
      rw [e1, pz_su_w, h5]
      funext j
      unfold upd
      split <;> rfl
    have go : ∀ a, a ≠ 12 → τ1 a = σ a := fun a ha => by rw [e1, pz_su_r _ _ ha, h6 a ha]
    have fin_ : ∀ x, fX7_puts_L53 (nI (kD d n)) K (m + 1) τ1 x (mI 1) = K τ1 x := fun x => by
      rw [fX7_puts_L53]
      simp only [pz_n1, pz_neg, if_true]
    rw [h6 10 (by omega), h6 11 (by omega)]
    by_cases hk : kD d n < kD d u
    · rw [if_neg (nI_ge hk (by omega))]
      rcases step_left hin (mo_key (kD d) (kD d n)) (ht u h1).1 h4 hk with ⟨q1, q2⟩ | ⟨v, q1, q2, q3, q4, q5⟩
      · rw [q1, fin_]
        exact ⟨u, τ1, h1, h4, q2, fun _ => q1, fun h => absurd hk h, rfl, g12, go⟩
      · rw [q1]
        obtain ⟨v', τ', r1, r2, r3, r4, r5, r6, r7, r8⟩ := ih v (m + 1) τ1 (nI u) q3 (by omega) (by omega) q4 (by rw [g12, cK_gap h4 v q2 q5]) go
        exact ⟨v', τ', r1, r2, r3, r4, r5, r6, r7, r8⟩
    · rw [if_pos (nI_le (by omega) (by omega))]
      rcases step_right hin (mo_key (kD d) (kD d n)) (ht u h1).2 h4 hk with ⟨q1, q2⟩ | ⟨v, q1, q2, q3, q4, q5⟩
      · rw [q1, fin_]
        exact ⟨u, τ1, h1, h4, q2, fun h => absurd h hk, fun _ => q1, rfl, g12, go⟩
      · rw [q1]
        obtain ⟨v', τ', r1, r2, r3, r4, r5, r6, r7, r8⟩ := ih v (m + 1) τ1 (nI u) q3 (by omega) (by omega) q4 (by rw [g12, cK_gap h4 v q2 q5]) go
        exact ⟨v', τ', r1, r2, r3, r4, r5, r6, r7, r8⟩
theorem puts_ok {n : Nat} {σ : St} {d : HD} (hd : dOk d) (hn : n < cntD d) (ht : treeM σ d n) :
    ∃ σ', fX7_puts σ (nI (kD d n)) = some σ' ∧ treeM σ' d (n + 1) ∧ (∀ a, a ≠ 0 → a ≠ 9 → a ≠ 10 → a ≠ 11 → a ≠ 12 → σ' a = σ a) ∧ ∀ j, j ≠ 16 → σ' 0 j = σ 0 j := by
  have h80 := cntD_le hd
  have hkn := (kD_facts hd hn).1
  obtain ⟨t1, t2, t3, t4⟩ := ht
  have hi : injK (kD d) (n + 1) := fun a b ha hb h => kD_inj hd (by omega) (by omega) h
  unfold fX7_puts
  simp (disch := omega) only [pz_nm_, t1, pz_gd, pz_cl, pz_n1, pz_neg, pz_su_n, nI_add, pz_n0]
  obtain ⟨σ1, e1⟩ : ∃ z, z = su (su (su (su (su σ 9 n (nI (kD d n))) 10 n (mI 1)) 11 n (mI 1)) 0 16 (nI (n + 1))) 12 (kD d n) (nI 0) := ⟨_, rfl⟩
  rw [← e1]
  have g9 : σ1 9 = upd (σ 9) n (nI (kD d n)) := by rw [e1, pz_su_r _ _ (by omega), pz_su_r _ _ (by omega), pz_su_r _ _ (by omega), pz_su_r _ _ (by omega), pz_su_w]
  have g10 : σ1 10 = upd (σ 10) n (mI 1) := by rw [e1, pz_su_r _ _ (by omega), pz_su_r _ _ (by omega), pz_su_r _ _ (by omega), pz_su_w, pz_su_r _ _ (by omega)]
  have g11 : σ1 11 = upd (σ 11) n (mI 1) := by rw [e1, pz_su_r _ _ (by omega), pz_su_r _ _ (by omega), pz_su_w, pz_su_r _ _ (by omega), pz_su_r _ _ (by omega)]
  have g12 : σ1 12 = upd (σ 12) (kD d n) (nI 0) := by rw [e1, pz_su_w, pz_su_r _ _ (by omega), pz_su_r _ _ (by omega), pz_su_r _ _ (by omega), pz_su_r _ _ (by omega)]
  have g0 : σ1 0 16 = nI (n + 1) := by rw [e1, pz_su_n _ _ (by omega), pz_su_s]
  have g0j : ∀ j, j ≠ 16 → σ1 0 j = σ 0 j := fun j hj => by rw [e1, pz_su_n _ _ (by omega), pz_su_n _ _ (by omega), pz_su_n _ _ (by omega), pz_su_n _ _ (by omega), pz_su_n _ _ (by omega)]
  have go : ∀ a, a ≠ 0 → a ≠ 9 → a ≠ 10 → a ≠ 11 → a ≠ 12 → σ1 a = σ a := fun a h0 h1 h2 h3 h4 => by rw [e1, pz_su_r _ _ h4, pz_su_r _ _ h0, pz_su_r _ _ h3, pz_su_r _ _ h2, pz_su_r _ _ h1]
  have k9 : ∀ i, i < n + 1 → σ1 9 i = nI (kD d i) := fun i hi2 => by
    rw [g9]
    by_cases e : i = n
    · subst e; exact pk_us
    · rw [pk_un e]; exact t2 i (by omega)
  have hne : ∀ i, i < n → kD d i ≠ kD d n := fun i hin h => by have := hi i n (by omega) (by omega) h; omega
  by_cases h0 : n = 0
  · subst h0
    rw [if_pos rfl]
    refine ⟨σ1, rfl, ⟨g0, k9, ?_, fun i hi2 => ?_⟩, go, g0j⟩
    · intro u hu
      have : u = 0 := by omega
      subst this
      rw [g10, g11]
      exact ⟨Or.inl ⟨pk_us, fun v a b => by omega⟩, Or.inl ⟨pk_us, fun v a b => by omega⟩⟩
    · have : i = 0 := by omega
      subst this
      rw [g12, pk_us, Nat.le_zero.mp (dpK_le d 0)]
  · rw [if_neg (by rw [nI_eq (by omega) (by omega)]; exact h0)]
    have ht1 : treeK (kD d) (σ1 10) (σ1 11) n := treeK_congr (fun u hu => ⟨by rw [g10, pk_un (by omega)], by rw [g11, pk_un (by omega)]⟩) t3
    obtain ⟨v, τ, w1, w2, w3, w4, w5, w6, w7, w8⟩ := puts_walk (K := fun σ y3 => fX7_puts_B102 σ (nI (kD d n)) (nI n) y3) hd hn (fun i hi2 => k9 i (by omega)) ht1 n 0 1000 σ1 (nI 0) (by omega) (by omega) (by omega) (onK_0 _ _) (by
      rw [g12]
      funext j
      unfold upd
      split <;> rfl) (fun _ _ => rfl)
    have w9 : dpK d n = cK (kD d) (fun w => kD d n < kD d w) v + 1 := cK_gap w2 n w1 w3
    have hkv := (kD_facts hd (n := v) (by omega)).1
    have pv : τ 9 v = nI (kD d v) := by rw [w8 9 (by omega)]; exact k9 v (by omega)
    rw [w6]
    unfold fX7_puts_B102
    simp (disch := omega) only [pz_gd, pz_cl, pz_nm_, pv]
    have t12 : ∀ i, i < n + 1 → τ 12 (kD d i) = nI (dpK d i) := fun i hi2 => by
      rw [w7, g12]
      by_cases e : i = n
      · subst e; rw [pk_us, w9]
      · rw [pk_un (hne i (by omega)), pk_un (hne i (by omega))]
        exact t4 i (by omega)
    have hvn : kD d v ≠ kD d n := hne v w1
    by_cases hk : kD d n < kD d v
    · rw [if_neg (nI_ge hk (by omega))]
      refine ⟨_, rfl, ⟨?_, fun i hi2 => ?_, ?_, fun i hi2 => ?_⟩, fun a h0 h1 h2 h3 h4 => ?_, fun j hj => ?_⟩
      · rw [pz_su_r _ _ (by omega), w8 0 (by omega)]; exact g0
      · rw [pz_su_r _ _ (by omega), w8 9 (by omega)]; exact k9 i hi2
      · rw [pz_su_w, pz_su_r _ _ (by omega), w8 10 (by omega), w8 11 (by omega)]
        exact tree_ins (u := v) (by omega) hi ht1 w1 w2 w3 (fun h => ⟨w4 h, pk_us, rfl⟩) (fun h => absurd hk h) (by rw [pk_un (by omega), g10, pk_us]) (by rw [g11, pk_us]) (fun w hw hv => ⟨pk_un hv, rfl⟩)
      · rw [pz_su_r _ _ (by omega)]; exact t12 i hi2
      · rw [pz_su_r _ _ h2, w8 a h4, go a h0 h1 h2 h3 h4]
      · rw [pz_su_r _ _ (by omega), w8 0 (by omega)]; exact g0j j hj
    · rw [if_pos (nI_le (by omega) (by omega))]
      refine ⟨_, rfl, ⟨?_, fun i hi2 => ?_, ?_, fun i hi2 => ?_⟩, fun a h0 h1 h2 h3 h4 => ?_, fun j hj => ?_⟩
      · rw [pz_su_r _ _ (by omega), w8 0 (by omega)]; exact g0
      · rw [pz_su_r _ _ (by omega), w8 9 (by omega)]; exact k9 i hi2
      · rw [pz_su_w, pz_su_r _ _ (by omega), w8 10 (by omega), w8 11 (by omega)]
        exact tree_ins (u := v) (by omega) hi ht1 w1 w2 w3 (fun h => absurd h hk) (fun h => ⟨w5 h, pk_us, rfl⟩) (by rw [g10, pk_us]) (by rw [pk_un (by omega), g11, pk_us]) (fun w hw hv => ⟨rfl, pk_un hv⟩)
      · rw [pz_su_r _ _ (by omega)]; exact t12 i hi2
      · rw [pz_su_r _ _ h3, w8 a h4, go a h0 h1 h2 h3 h4]
      · rw [pz_su_r _ _ (by omega), w8 0 (by omega)]; exact g0j j hj
def frT (σ σ' : St) : Prop := (∀ a, a ≠ 0 → a ≠ 9 → a ≠ 10 → a ≠ 11 → a ≠ 12 → σ' a = σ a) ∧ ∀ j, j ≠ 16 → σ' 0 j = σ 0 j
theorem tree_pier {σ : St} {d : HD} {p : Nat} {K : St → Option St} (hd : dOk d) (H : MH (σ 1) d) (hp : p < dP d) (h2 : treeM σ d (offD d p)) :
    ∃ σ', fX7_laysTree_L19 (nI p) K 1000 σ (nI 0) = K σ' ∧ treeM σ' d (offD d (p + 1)) ∧ frT σ σ' := by
  have h8 := hd.1
  have h10 := nptD_le hd hp
  refine pz_loop (F := fun m τ j => fX7_laysTree_L19 (nI p) K m τ (nI j)) (P := fun o => ∃ σ', o = K σ' ∧ treeM σ' d (offD d (p + 1)) ∧ frT σ σ') (fun j τ => treeM τ d (offD d p + j) ∧ frT σ τ) (nptD d p) ?_ ?_ (nptD d p) 0 σ 1000 (by omega) (by omega) ⟨h2, fun _ _ _ _ _ _ => rfl, fun _ _ => rfl⟩
  · intro n τ ⟨a1, a2⟩
    have H1 : MH (τ 1) d := by rw [a2.1 1 (by omega) (by omega) (by omega) (by omega) (by omega)]; exact H
    refine ⟨τ, ?_, a1, a2⟩
    show fX7_laysTree_L19 (nI p) K (n + 1) τ (nI (nptD d p)) = K τ
    rw [fX7_laysTree_L19, pm_points hd H1 hp, pz_bd, if_pos (nI_le (Nat.le_refl _) (by omega))]
  · intro n j τ hj ⟨a1, a2⟩
    have H1 : MH (τ 1) d := by rw [a2.1 1 (by omega) (by omega) (by omega) (by omega) (by omega)]; exact H
    right
    show ∃ b', _ ∧ fX7_laysTree_L19 (nI p) K (n + 1) τ (nI j) = fX7_laysTree_L19 (nI p) K n b' (nI (j + 1))
    obtain ⟨σ', g1, g2, g3, g4⟩ := puts_ok hd (off_lt hp hj) a1
    rw [kD_at hp hj] at g1
    rw [fX7_laysTree_L19, pm_points hd H1 hp, pz_bd, if_neg (nI_ge hj (by omega)), pm_pointOf (by omega) (by omega), pz_bd, g1, pz_bd, pz_nm_, pz_n1, nI_add]
    exact ⟨σ', ⟨g2, fun a b0 b1 b2 b3 b4 => by rw [g3 a b0 b1 b2 b3 b4]; exact a2.1 a b0 b1 b2 b3 b4, fun j hj => by rw [g4 j hj]; exact a2.2 j hj⟩, rfl⟩
theorem laysTree_ok {σ : St} {d : HD} (hd : dOk d) (H : MH (σ 1) d) : ∃ σ', fX7_laysTree σ = some σ' ∧ treeM σ' d (cntD d) ∧ frT σ σ' := by
  have h8 := hd.1
  unfold fX7_laysTree
  rw [pz_nm_, pz_n0]
  have hf0 : frT σ (su σ 0 16 (nI 0)) := ⟨fun a h0 _ _ _ _ => pz_su_r _ _ h0, fun j hj => pz_su_n _ _ (by omega)⟩
  refine pz_loop (F := fun m τ p => fX7_laysTree_L7 (fun σ => fX7_laysTree_B49 σ) m τ (nI p)) (P := fun o => ∃ σ', o = some σ' ∧ treeM σ' d (cntD d) ∧ frT σ σ') (fun p τ => treeM τ d (offD d p) ∧ frT σ τ) (dP d) ?_ ?_ (dP d) 0 (su σ 0 16 (nI 0)) 1000 (by omega) (by omega) ⟨⟨pz_su_s _ _ _ _, fun i hi => absurd hi (Nat.not_lt_zero _), fun u hu => absurd hu (Nat.not_lt_zero _), fun i hi => absurd hi (Nat.not_lt_zero _)⟩, hf0⟩
  · intro n τ ⟨a1, a2⟩
    have H1 : MH (τ 1) d := by rw [a2.1 1 (by omega) (by omega) (by omega) (by omega) (by omega)]; exact H
    refine ⟨τ, ?_, a1, a2⟩
    show fX7_laysTree_L7 _ (n + 1) τ (nI (dP d)) = some τ
    rw [fX7_laysTree_L7, pz_n0, pz_cl (by omega), H1.1, if_pos (nI_le (Nat.le_refl _) (by omega))]
    rfl
  · intro n p τ hp ⟨a1, a2⟩
    have H1 : MH (τ 1) d := by rw [a2.1 1 (by omega) (by omega) (by omega) (by omega) (by omega)]; exact H
    right
    show ∃ b', _ ∧ fX7_laysTree_L7 _ (n + 1) τ (nI p) = fX7_laysTree_L7 _ n b' (nI (p + 1))
    rw [fX7_laysTree_L7, pz_n0, pz_cl (by omega), H1.1, if_neg (nI_ge hp (by omega))]
    obtain ⟨σ', g1, g2, g3⟩ := tree_pier (K := fun σ => fX7_laysTree_B43 (fX7_laysTree_L7 (fun σ => fX7_laysTree_B49 σ) n) (fun σ => fX7_laysTree_B49 σ) σ (nI p)) hd H1 hp a1
    rw [g1]
    exact ⟨σ', ⟨g2, fun a b0 b1 b2 b3 b4 => by rw [g3.1 a b0 b1 b2 b3 b4]; exact a2.1 a b0 b1 b2 b3 b4, fun j hj => by rw [g3.2 j hj]; exact a2.2 j hj⟩, by unfold fX7_laysTree_B43; simp only [pz_nm_, pz_n1, nI_add]⟩
theorem allR.treed {σX σM σM' : St} (H : allR σX σM) (h : frT σM σM') : allR σX σM' :=
  H.scratch (fun _ _ => rfl) (fun j _ => by rw [h.1 1 (by omega) (by omega) (by omega) (by omega) (by omega)]) (h.1 13 (by omega) (by omega) (by omega) (by omega) (by omega)) (h.1 15 (by omega) (by omega) (by omega) (by omega) (by omega)) (fun j h16 _ _ _ => h.2 j h16)
theorem sm_deep {σX σM : St} (hR : allR σX σM) : ∃ r σM', fX6_deep σX = some r ∧ fX7_deep σM = some (r, σM') ∧ allR σX σM' := by
  have hR0 := hR
  obtain ⟨⟨d, ⟨hd, c2, c3, c4⟩, c5, c6⟩, -⟩ := hR
  have h80 := cntD_le hd
  obtain ⟨τ, y1, ⟨t1, t2, t3, t4⟩, y3⟩ := laysTree_ok hd c3
  refine ⟨nI (hgK d (cntD d)), τ, ?_, ?_, hR0.treed y3⟩
  · unfold fX6_deep
    rw [show σX 15 6 = nI (hgK d (cntD d)) from c5.1.2.1]
  · unfold fX7_deep
    rw [y1, pz_bd, pz_n0]
    show fX7_deep_L8 _ 1000 τ (nI (hgK d 0)) (nI 0) = _
    refine pz_loop (F := fun m (_ : Unit) i => fX7_deep_L8 (fun σ y1 => fX7_deep_B57 σ y1) m τ (nI (hgK d i)) (nI i)) (P := fun o => o = some (nI (hgK d (cntD d)), τ)) (fun _ _ => True) (cntD d) ?_ ?_ (cntD d) 0 () 1000 (by omega) (by omega) trivial
    · intro n _ _
      show fX7_deep_L8 _ (n + 1) τ (nI (hgK d (cntD d))) (nI (cntD d)) = _
      rw [fX7_deep_L8, t1, if_pos (nI_le (Nat.le_refl _) (by omega))]
      rfl
    · intro n i _ hi _
      right
      refine ⟨(), trivial, ?_⟩
      show fX7_deep_L8 _ (n + 1) τ (nI (hgK d i)) (nI i) = fX7_deep_L8 _ n τ (nI (max (hgK d i) (dpK d i + 1))) (nI (i + 1))
      have hk := (kD_facts hd hi).1
      have h1 := dpK_le d i
      have h2 := hgK_le d i
      rw [fX7_deep_L8, t1, if_neg (nI_ge hi (by omega))]
      simp (disch := omega) only [pz_gd, pz_cl, pz_nm_, t2 i hi, t4 i hi, pz_n1, nI_add]
      by_cases e : dpK d i + 1 ≤ hgK d i
      · rw [if_pos (nI_le e (by omega)), Nat.max_eq_left e]
      · rw [if_neg (nI_ge (by omega) (by omega)), Nat.max_eq_right (by omega)]
theorem ring_loop {σ : St} {d : HD} {a x : Int32} {K : St → Int32 → Option (Int32 × St)} (hd : dOk d) (hr : ringM σ d) (f : Nat → Int32) (h0 : f 0 = mI 1) (hx : f (cntD d) = x) (hs : ∀ q, q < 360 → isD d q = true → f (rkD d q + 1) = if nI (rkD d q) = a then nI q else f (rkD d q)) :
    fX7_ring_L16 a K 1000 σ (mI 1) (nI 0) (nI 0) = K σ x := by
  have h80 := cntD_le hd
  rw [← h0]
  show fX7_ring_L16 a K 1000 σ (f (rkD d 0)) (nI (rkD d 0)) (nI 0) = _
  refine pz_loop (F := fun m (_ : Unit) q => fX7_ring_L16 a K m σ (f (rkD d q)) (nI (rkD d q)) (nI q)) (P := fun o => o = K σ x) (fun _ _ => True) 360 ?_ ?_ 360 0 () 1000 (by omega) (by omega) trivial
  · intro n _ _
    show fX7_ring_L16 a K (n + 1) σ (f (rkD d 360)) (nI (rkD d 360)) (nI 360) = _
    rw [fX7_ring_L16, pz_n360, if_pos (nI_le (Nat.le_refl _) (by omega)), rkD_360 hd, hx]
  · intro n q _ hq _
    right
    refine ⟨(), trivial, ?_⟩
    show fX7_ring_L16 a K (n + 1) σ (f (rkD d q)) (nI (rkD d q)) (nI q) = fX7_ring_L16 a K n σ (f (rkD d (q + 1))) (nI (rkD d (q + 1))) (nI (q + 1))
    rw [fX7_ring_L16, pz_n360, if_neg (nI_ge hq (by omega))]
    simp (disch := omega) only [pz_gd, pz_cl, pz_nm_, hr.1 q hq, pz_n1, pz_neg, nI_add]
    by_cases hi : isD d q = true
    · have hjq := jqD_lt q
      rw [rkD_s, if_pos hi, if_pos hi, if_neg (pz_nm (by omega) (by omega) (by omega)), hs q hq hi]
      by_cases e : nI (rkD d q) = a
      · rw [if_pos e, if_pos e]
      · rw [if_neg e, if_neg e]
    · rw [rkD_s, if_neg hi, if_neg hi, if_pos rfl]
      rfl
theorem sm_ring {σX σM : St} (hR : allR σX σM) (a w : Int32) : ∃ r σM', fX6_ring σX a w = some r ∧ fX7_ring σM a w = some (r, σM') ∧ allR σX σM' := by
  have hR0 := hR
  obtain ⟨⟨d, ⟨hd, c2, c3, c4⟩, c5, c6⟩, -⟩ := hR
  have h80 := cntD_le hd
  obtain ⟨τ, y1, y2, y3⟩ := laysRing_ok hd c3
  have H1 : MH (τ 1) d := by rw [y3 1 (by omega) (by omega)]; exact c3
  have hR1 : allR σX τ := hR0.ringed (fun k h1 h2 _ _ _ => y3 k h1 h2)
  obtain ⟨τ2, z1, ⟨t1, t2, t3, t4⟩, z3⟩ := laysTree_ok hd H1
  have hfin : allR σX τ2 := hR1.treed z3
  have hr2 : ringM τ2 d := ⟨fun q hq => by rw [z3.1 2 (by omega) (by omega) (by omega) (by omega) (by omega)]; exact y2.1 q hq, fun q hq => by rw [z3.1 3 (by omega) (by omega) (by omega) (by omega) (by omega)]; exact y2.2 q hq⟩
  have x15 : σX 15 5 = nI (cntD d) := c5.1.1
  unfold fX6_ring fX7_ring
  rw [y1, pz_bd, z1, pz_bd, x15]
  simp only [pz_n0, pz_n1, pz_n2, pz_n3, pz_n11, pz_n12, pz_neg]
  rcases pz_ask a (n := cntD d) (by omega) with ⟨h1, h2⟩ | ⟨i, hi, rfl⟩
  · rw [ring_loop (K := fun σ y3 => fX7_ring_B60 σ w y3) (x := mI 1) hd hr2 (fun _ => mI 1) rfl rfl (fun q hq hq2 => by
      rw [if_neg (fun h => by
        have := rkD_lt hd hq hq2
        rcases h1 with h1 | ⟨h1, h3⟩
        · rw [← h] at h1; exact nI_nlt (Nat.zero_le _) (by omega) h1
        · rw [← h] at h3; exact nI_ge this (by omega) h3)])]
    refine ⟨mI 11, τ2, ?_, ?_, hfin⟩
    · rcases h1 with h1 | ⟨h1, h3⟩
      · rw [if_pos h1]
      · rw [if_neg h1, if_neg (fun h => by
          rw [Int32.lt_iff_toInt_lt] at h
          rw [Int32.le_iff_toInt_le] at h3
          omega)]
    · unfold fX7_ring_B60
      simp only [pz_n1, pz_n11, pz_neg, if_true]
  · have hp := paD_facts hd hi
    have hx := nix_facts hp.1 hp.2.1
    have hjq := jqD_lt (paD d i)
    rw [ring_loop (K := fun σ y3 => fX7_ring_B60 σ w y3) (x := nI (paD d i)) hd hr2 (fun k => if i < k then nI (paD d i) else mI 1) (if_neg (Nat.not_lt_zero _)) (if_pos hi) (fun q hq hq2 => by
      have h3 := rkD_lt hd hq hq2
      by_cases e : rkD d q = i
      · rw [if_pos (by omega), if_pos (by rw [e]), ← e, paD_rk hq hq2]
      · rw [if_neg (fun h => e ((nI_eq (by omega) (by omega)).mp h))]
        by_cases e2 : i < rkD d q
        · rw [if_pos (by omega), if_pos e2]
        · rw [if_neg (by omega), if_neg e2])]
    rw [if_neg (nI_nlt (Nat.zero_le _) (by omega)), if_pos (nI_lt hi (by omega))]
    have e16 : σX 16 i = nI (nixD d (paD d i)) := c5.2 i hi
    have e17 : σX 17 (nixD d (paD d i)) = nI (paD d i) := by
      have := c5.1.2.2.1 _ hx.1
      rw [hx.2] at this
      exact this
    have e18 : σX 18 (nixD d (paD d i)) = nI (paD d i % 8) := by
      have := c5.1.2.2.2.1 _ hx.1
      rw [hx.2] at this
      exact this
    have e19 : σX 19 (nixD d (paD d i)) = nI (jqD (paD d i)) := by
      have := c5.1.2.2.2.2.1 _ hx.1
      rw [hx.2] at this
      exact this
    have e20 : σX 20 (nixD d (paD d i)) = nI (dpK d (nixD d (paD d i))) := c5.1.2.2.2.2.2.1 _ hx.1
    have o2 : τ2 2 (paD d i) = nI (8 * jqD (paD d i) + paD d i % 8) := by rw [hr2.1 _ hp.1, if_pos hp.2.1]
    have o12 : τ2 12 (paD d i) = nI (dpK d (nixD d (paD d i))) := by
      have := t4 _ hx.1
      rw [hx.2] at this
      exact this
    unfold fX7_ring_B60
    simp (disch := omega) only [pz_n0, pz_n1, pz_n2, pz_n3, pz_n8, pz_n11, pz_n12, pz_neg, pz_gd, pz_nm_, pz_cl, e16, e17, e18, e19, e20, o2, o12, pz_rem, pk_div, pz_nm, if_false]
    have f8 : (8 * jqD (paD d i) + paD d i % 8) % 8 = paD d i % 8 := by omega
    have g8 : (8 * jqD (paD d i) + paD d i % 8) / 8 = jqD (paD d i) := by omega
    rw [f8, g8]
    by_cases g : w = nI 0
    · rw [if_pos g, if_pos g]; exact ⟨_, _, rfl, rfl, hfin⟩
    rw [if_neg g, if_neg g]
    by_cases g : w = nI 1
    · rw [if_pos g, if_pos g]; exact ⟨_, _, rfl, rfl, hfin⟩
    rw [if_neg g, if_neg g]
    by_cases g : w = nI 2
    · rw [if_pos g, if_pos g]; exact ⟨_, _, rfl, rfl, hfin⟩
    rw [if_neg g, if_neg g]
    by_cases g : w = nI 3
    · rw [if_pos g, if_pos g]; exact ⟨_, _, rfl, rfl, hfin⟩
    rw [if_neg g, if_neg g]
    exact ⟨_, _, rfl, rfl, hfin⟩
