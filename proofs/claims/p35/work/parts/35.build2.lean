/-! Pure rows: the class lays its circle out, its loops. -/
def XH (h : Nat) (σ : St) (d : HD) : Prop :=
  σ (33 + 5 * h) 4 = nI (dP d) ∧ σ (33 + 5 * h) 5 = nI (dB d) ∧ σ (33 + 5 * h) 6 = nI (dT d) ∧ True ∧
  (∀ p, p < dP d → σ ((33 + 5 * h) + 1) p = nI (dbe d p)) ∧ (∀ p, p < dP d → σ ((33 + 5 * h) + 2) p = bI (dop d p)) ∧
  (∀ i, i < dB d → σ ((33 + 5 * h) + 3) i = nI (dna d i)) ∧ (∀ i, i < dB d → σ ((33 + 5 * h) + 4) i = nI (dto d i)) ∧
  (∀ p, p < 8 → σ ((33 + 5 * h) + 2) p = nI 0 ∨ σ ((33 + 5 * h) + 2) p = nI 1)
theorem XH.congr {h : Nat} {σ σ' : St} {d : HD} (H : XH h σ d) (hf : ∀ a, 33 + 5 * h ≤ a → a < 38 + 5 * h → σ' a = σ a) : XH h σ' d := by
  unfold XH at H ⊢
  rw [hf _ (by omega) (by omega), hf (33 + 5 * h + 1) (by omega) (by omega), hf (33 + 5 * h + 2) (by omega) (by omega), hf (33 + 5 * h + 3) (by omega) (by omega), hf (33 + 5 * h + 4) (by omega) (by omega)]
  exact H
def cirX (cx : Nat) (σ : St) (d : HD) (n : Nat) : Prop :=
  σ (15 + 9 * cx) 5 = nI n ∧ σ (15 + 9 * cx) 6 = nI (hgK d n) ∧ (∀ i, i < n → σ ((15 + 9 * cx) + 2) i = nI (kD d i)) ∧ (∀ i, i < n → σ ((15 + 9 * cx) + 3) i = nI (kD d i % 8)) ∧
  (∀ i, i < n → σ ((15 + 9 * cx) + 4) i = nI (jqD (kD d i))) ∧ (∀ i, i < n → σ ((15 + 9 * cx) + 5) i = nI (dpK d i)) ∧
  (∀ q, q < 360 → σ ((15 + 9 * cx) + 6) q = @ite _ (isD d q = true ∧ nixD d q < n) instDecidableAnd (nI (nixD d q)) (mI 1)) ∧ treeK (kD d) (σ ((15 + 9 * cx) + 7)) (σ ((15 + 9 * cx) + 8)) n
def cirOk (cx : Nat) (σ : St) (d : HD) : Prop := cirX cx σ d (cntD d) ∧ ∀ k, k < cntD d → σ ((15 + 9 * cx) + 1) k = nI (nixD d (paD d k))
def frC (cx : Nat) (σ σ' : St) : Prop := ∀ a, a < 15 + 9 * cx ∨ 24 + 9 * cx ≤ a → σ' a = σ a
theorem pz_pointsOf {h : Nat} {σ : St} {d : HD} (hd : dOk d) (H : XH h σ d) {p : Nat} (hp : p < dP d) : fX1_pointsOf h σ (nI p) = some (nI (nptD d p)) := by
  have h8 := hd.1
  have e1 := H.2.2.2.2.1 p hp
  have e2 := H.2.2.2.2.2.1 p hp
  unfold fX1_pointsOf nptD
  simp (disch := omega) only [pz_gd, pz_cl, e1, e2, pz_n0, pz_n2, pk_mul]
  cases dop d p with
  | true => simp [bI, nI_eq, Nat.mul_comm]
  | false => simp [bI]
theorem pz_roomOf {h : Nat} {σ : St} {d : HD} (hd : dOk d) (H : XH h σ d) {p : Nat} (hp : p < dP d) : fX1_roomOf h σ (nI p) = some (nI (roomD d p)) := by
  have h8 := hd.1
  have e1 := H.2.2.2.2.1 p hp
  have e2 := H.2.2.2.2.2.1 p hp
  have e3 := H.2.2.1
  unfold fX1_roomOf roomD
  simp (disch := omega) only [pz_gd, pz_cl, e1, e2, e3, pz_n0, pk_mul]
  cases dop d p with
  | true => simp [bI, nI_eq]
  | false => simp [bI]
theorem pz_pointOf {h : Nat} {σ : St} {d : HD} (hd : dOk d) (H : XH h σ d) {i : Nat} (hi : i < dB d) : fX1_pointOf h σ (nI i) = some (nI (pbD d i)) := by
  have h24 := hd.2.1
  have e1 := H.2.2.2.2.2.2.1 i hi
  have e2 := (hd.2.2.2.2 i hi).1
  unfold fX1_pointOf pbD
  simp (disch := omega) only [pz_gd, pz_cl, e1, pz_n37, pz_n11, pz_n360, pk_mul, nI_add, pz_rem]
theorem build_step {cx h p j m : Nat} {σ : St} {d : HD} {K : St → Option St} (hd : dOk d) (hp : p < dP d) (hj : j < nptD d p) (hc : cirX cx σ d (offD d p + j)) :
    ∃ σ', fX0_build_L37 cx h (nI p) (nI (nptD d p)) K (m + 1) σ (nI j) = fX0_build_L37 cx h (nI p) (nI (nptD d p)) K m σ' (nI (j + 1)) ∧ cirX cx σ' d (offD d p + (j + 1)) ∧ frC cx σ σ' := by
  have h8 := hd.1
  have h10 := nptD_le hd hp
  have h80 := cntD_le hd
  have hn := off_lt hp hj
  have hk := kD_at hp hj
  obtain ⟨n, en⟩ : ∃ n, n = offD d p + j := ⟨_, rfl⟩
  rw [← en] at hn hk hc
  obtain ⟨c1, c2, c3, c4, c5, c6, c7, c8⟩ := hc
  have hkn := kD_facts hd hn
  have hk2 : 8 * ((17 * p + 7 * j) % 45) + p = kD d n := hk.symm
  have hk8 : p = kD d n % 8 := by rw [hk, ptD_mod (by omega)]
  have hkj : j = jqD (kD d n) := by rw [hk, jqD_pt (by omega) (by omega)]
  rw [fX0_build_L37]
  rw [if_neg (nI_ge hj (by omega)), c1, if_neg (by rw [pz_n80]; exact nI_ge (by omega) (by omega))]
  simp (disch := omega) only [pz_n8, pz_n17, pz_n7, pz_n45, pz_n1, pk_mul, nI_add, pz_rem, hk2, pz_gd, pz_nm_, pz_cl, pz_su_s, pz_su_n, c1]
  obtain ⟨σ1, e1⟩ : ∃ z, z = su (su (su (su σ ((15 + 9 * cx) + 2) n (nI (kD d n))) ((15 + 9 * cx) + 3) n (nI p)) ((15 + 9 * cx) + 4) n (nI j)) ((15 + 9 * cx) + 6) (kD d n) (nI n) := ⟨_, rfl⟩
  rw [← e1]
  have r2 : σ1 ((15 + 9 * cx) + 2) = upd (σ ((15 + 9 * cx) + 2)) n (nI (kD d n)) := by rw [e1, pz_su_r _ _ (by omega), pz_su_r _ _ (by omega), pz_su_r _ _ (by omega), pz_su_w]
  have r3 : σ1 ((15 + 9 * cx) + 3) = upd (σ ((15 + 9 * cx) + 3)) n (nI p) := by rw [e1, pz_su_r _ _ (by omega), pz_su_r _ _ (by omega), pz_su_w, pz_su_r _ _ (by omega)]
  have r4 : σ1 ((15 + 9 * cx) + 4) = upd (σ ((15 + 9 * cx) + 4)) n (nI j) := by rw [e1, pz_su_r _ _ (by omega), pz_su_w, pz_su_r _ _ (by omega), pz_su_r _ _ (by omega)]
  have r6 : σ1 ((15 + 9 * cx) + 6) = upd (σ ((15 + 9 * cx) + 6)) (kD d n) (nI n) := by rw [e1, pz_su_w, pz_su_r _ _ (by omega), pz_su_r _ _ (by omega), pz_su_r _ _ (by omega)]
  have ro : ∀ a, a ≠ (15 + 9 * cx) + 2 → a ≠ (15 + 9 * cx) + 3 → a ≠ (15 + 9 * cx) + 4 → a ≠ (15 + 9 * cx) + 6 → σ1 a = σ a := fun a h1 h2 h3 h4 => by rw [e1, pz_su_r _ _ h4, pz_su_r _ _ h3, pz_su_r _ _ h2, pz_su_r _ _ h1]
  have hpt1 : ∀ i, i ≤ n → σ1 ((15 + 9 * cx) + 2) i = nI (kD d i) := fun i hi => by
    rw [r2]
    by_cases e : i = n
    · subst e; exact pk_us
    · rw [pk_un e]; exact c3 i (by omega)
  obtain ⟨σ2, g1, g2, g3, g4, g5⟩ := hang_ok (cx := cx) (σ := σ1) hd hn hpt1 (by rw [ro _ (by omega) (by omega) (by omega) (by omega), ro _ (by omega) (by omega) (by omega) (by omega)]; exact c8) (by rw [ro _ (by omega) (by omega) (by omega) (by omega)]; exact c2)
  rw [g1, pz_bd]
  have q5 : σ2 (15 + 9 * cx) 5 = nI n := by rw [g4, pk_un (by omega), ro _ (by omega) (by omega) (by omega) (by omega)]; exact c1
  simp (disch := omega) only [q5, nI_add]
  refine ⟨_, rfl, ?_, fun a ha => by rw [pz_su_r _ _ (by omega), g5 a (by omega) (by omega) (by omega) (by omega), ro a (by omega) (by omega) (by omega) (by omega)]⟩
  rw [show offD d p + (j + 1) = n + 1 by omega]
  unfold cirX
  refine ⟨pz_su_s _ _ _ _, ?_, ?_, ?_, ?_, ?_, ?_, ?_⟩
  · rw [pz_su_n _ _ (by omega), g4, pk_us]
  · intro i hi
    rw [pz_su_r _ _ (by omega), g5 _ (by omega) (by omega) (by omega) (by omega)]
    exact hpt1 i (by omega)
  · intro i hi
    rw [pz_su_r _ _ (by omega), g5 _ (by omega) (by omega) (by omega) (by omega), r3]
    by_cases e : i = n
    · subst e; rw [pk_us, ← hk8]
    · rw [pk_un e]; exact c4 i (by omega)
  · intro i hi
    rw [pz_su_r _ _ (by omega), g5 _ (by omega) (by omega) (by omega) (by omega), r4]
    by_cases e : i = n
    · subst e; rw [pk_us, ← hkj]
    · rw [pk_un e]; exact c5 i (by omega)
  · intro i hi
    rw [pz_su_r _ _ (by omega), g3, ro _ (by omega) (by omega) (by omega) (by omega)]
    by_cases e : i = n
    · subst e; exact pk_us
    · rw [pk_un e]; exact c6 i (by omega)
  · intro q hq
    rw [pz_su_r _ _ (by omega), g5 _ (by omega) (by omega) (by omega) (by omega), r6]
    have hst := nix_step hd hn hq
    by_cases e : q = kD d n
    · subst e
      rw [pk_us, if_pos (hst.mpr (Or.inr rfl)), hkn.2.2]
    · rw [pk_un e, c7 q hq]
      by_cases hb : isD d q = true ∧ nixD d q < n
      · rw [if_pos hb, if_pos (hst.mpr (Or.inl hb))]
      · rw [if_neg hb, if_neg (fun hh => (hst.mp hh).elim hb e)]
  · rw [pz_su_r _ _ (by omega), pz_su_r _ _ (by omega)]
    exact g2
theorem frC.trans {cx : Nat} {a b c : St} (h1 : frC cx a b) (h2 : frC cx b c) : frC cx a c := fun k hk => by rw [h2 k hk, h1 k hk]
theorem frC.refl {cx : Nat} (a : St) : frC cx a a := fun _ _ => rfl
theorem build_pier {cx h p : Nat} {σ : St} {d : HD} {K : St → Option St} (hd : dOk d) (hp : p < dP d) (hc : cirX cx σ d (offD d p)) :
    ∃ σ', fX0_build_L37 cx h (nI p) (nI (nptD d p)) K 1000 σ (nI 0) = K σ' ∧ cirX cx σ' d (offD d (p + 1)) ∧ frC cx σ σ' := by
  have h10 := nptD_le hd hp
  refine pz_loop (F := fun m τ j => fX0_build_L37 cx h (nI p) (nI (nptD d p)) K m τ (nI j)) (P := fun o => ∃ σ', o = K σ' ∧ cirX cx σ' d (offD d (p + 1)) ∧ frC cx σ σ') (fun j τ => cirX cx τ d (offD d p + j) ∧ frC cx σ τ) (nptD d p) ?_ ?_ (nptD d p) 0 σ 1000 (by omega) (by omega) ⟨hc, frC.refl σ⟩
  · intro n τ ⟨h1, h2⟩
    refine ⟨τ, ?_, h1, h2⟩
    show fX0_build_L37 cx h (nI p) (nI (nptD d p)) K (n + 1) τ (nI (nptD d p)) = K τ
    rw [fX0_build_L37, if_pos (nI_le (Nat.le_refl _) (by omega))]
  · intro n j τ hj ⟨h1, h2⟩
    obtain ⟨σ', e1, e2, e3⟩ := build_step (cx := cx) (h := h) (m := n) (K := K) hd hp hj h1
    exact Or.inr ⟨σ', ⟨e2, h2.trans e3⟩, e1⟩
theorem place_ok {cx : Nat} {σ : St} {d : HD} (hd : dOk d) (hc : cirX cx σ d (cntD d)) : ∃ σ', fX0_placeNodes cx σ = some σ' ∧ (∀ k, k < cntD d → σ' ((15 + 9 * cx) + 1) k = nI (nixD d (paD d k))) ∧ ∀ a, a ≠ (15 + 9 * cx) + 1 → σ' a = σ a := by
  have h80 := cntD_le hd
  obtain ⟨c1, c2, c3, c4, c5, c6, c7, c8⟩ := hc
  unfold fX0_placeNodes
  refine pz_loop (F := fun m τ q => fX0_placeNodes_L4 cx (fun σ => fX0_placeNodes_B50 cx σ) m τ (nI (rkD d q)) (nI q)) (P := fun o => ∃ σ', o = some σ' ∧ (∀ k, k < cntD d → σ' ((15 + 9 * cx) + 1) k = nI (nixD d (paD d k))) ∧ ∀ a, a ≠ (15 + 9 * cx) + 1 → σ' a = σ a) (fun q τ => (∀ k, k < rkD d q → τ ((15 + 9 * cx) + 1) k = nI (nixD d (paD d k))) ∧ ∀ a, a ≠ (15 + 9 * cx) + 1 → τ a = σ a) 360 ?_ ?_ 360 0 σ 1000 (by omega) (by omega) ⟨fun k hk => absurd hk (Nat.not_lt_zero _), fun _ _ => rfl⟩
  · intro n τ ⟨h1, h2⟩
    refine ⟨τ, ?_, fun k hk => h1 k (by rw [rkD_360 hd]; exact hk), h2⟩
    show fX0_placeNodes_L4 cx _ (n + 1) τ (nI (rkD d 360)) (nI 360) = some τ
    rw [fX0_placeNodes_L4, if_pos (by rw [pz_n360]; exact nI_le (Nat.le_refl _) (by omega))]
    rfl
  · intro n q τ hq ⟨h1, h2⟩
    have hr := rkD_mono d (a := q) (b := 360) (by omega)
    rw [rkD_360 hd] at hr
    have e5 : τ (15 + 9 * cx) 5 = nI (cntD d) := by rw [h2 _ (by omega)]; exact c1
    have e6 := c7 q hq
    rw [← h2 ((15 + 9 * cx) + 6) (by omega)] at e6
    by_cases hf : cntD d ≤ rkD d q
    · left
      refine ⟨τ, ?_, fun k hk => h1 k (by omega), h2⟩
      show fX0_placeNodes_L4 cx _ (n + 1) τ (nI (rkD d q)) (nI q) = some τ
      rw [fX0_placeNodes_L4, if_neg (by rw [pz_n360]; exact nI_ge hq (by omega)), e5, if_pos (nI_le hf (by omega))]
      rfl
    · right
      show ∃ b', _ ∧ fX0_placeNodes_L4 cx _ (n + 1) τ (nI (rkD d q)) (nI q) = fX0_placeNodes_L4 cx _ n b' (nI (rkD d (q + 1))) (nI (q + 1))
      rw [fX0_placeNodes_L4, if_neg (by rw [pz_n360]; exact nI_ge hq (by omega)), e5, if_neg (nI_ge (by omega) (by omega))]
      simp (disch := omega) only [pz_n1, pz_neg, pz_gd, pz_nm_, pz_cl, nI_add, e6]
      by_cases hi : isD d q = true
      · have hx := nix_facts hq hi
        simp (disch := omega) only [hi, hx.1, and_self, if_true, pz_nm, if_false]
        refine ⟨_, ⟨?_, ?_⟩, by rw [rkD_s, if_pos hi]⟩
        · intro k hk
          rw [rkD_s, if_pos hi] at hk
          rw [pz_su_w]
          by_cases e : k = rkD d q
          · subst e
            rw [pk_us, paD_rk hq hi]
          · rw [pk_un e]
            exact h1 k (by omega)
        · intro a ha
          rw [pz_su_r _ _ ha]
          exact h2 a ha
      · simp only [hi, false_and, if_false, if_true]
        refine ⟨τ, ⟨?_, h2⟩, by rw [rkD_s, if_neg hi]; rfl⟩
        intro k hk
        rw [rkD_s, if_neg hi] at hk
        exact h1 k hk
theorem build_ok {cx h : Nat} {σ : St} {d : HD} (hcx : cx < 2) (hd : dOk d) (H : XH h σ d) : ∃ σ', fX0_build cx h σ = some σ' ∧ cirOk cx σ' d ∧ frC cx σ σ' := by
  have h8 := hd.1
  unfold fX0_build
  simp only [pz_nm_, pz_n0, pz_n1, pz_neg]
  obtain ⟨σ1, e1⟩ : ∃ z, z = su (su (sr σ ((15 + 9 * cx) + 6) (fl 360 (mI 1) (σ ((15 + 9 * cx) + 6)))) (15 + 9 * cx) 5 (nI 0)) (15 + 9 * cx) 6 (nI 0) := ⟨_, rfl⟩
  rw [← e1]
  have hf1 : frC cx σ σ1 := fun a ha => by rw [e1, pz_su_r _ _ (by omega), pz_su_r _ _ (by omega), sr_ne _ _ (by omega)]
  have hc1 : cirX cx σ1 d 0 := by
    unfold cirX
    refine ⟨by rw [e1, pz_su_n _ _ (by omega), pz_su_s], by rw [e1, pz_su_s]; rfl, fun i hi => absurd hi (Nat.not_lt_zero _), fun i hi => absurd hi (Nat.not_lt_zero _), fun i hi => absurd hi (Nat.not_lt_zero _), fun i hi => absurd hi (Nat.not_lt_zero _), fun q hq => ?_, fun u hu => absurd hu (Nat.not_lt_zero _)⟩
    rw [e1, pz_su_r _ _ (by omega), pz_su_r _ _ (by omega), sr_self, if_neg (fun h => absurd h.2 (Nat.not_lt_zero _))]
    exact if_pos hq
  refine pz_loop (F := fun m τ p => fX0_build_L20 cx h (fun σ => fX0_build_B148 cx h σ) m τ (nI p)) (P := fun o => ∃ σ', o = some σ' ∧ cirOk cx σ' d ∧ frC cx σ σ') (fun p τ => cirX cx τ d (offD d p) ∧ frC cx σ τ) (dP d) ?_ ?_ (dP d) 0 σ1 1000 (by omega) (by omega) ⟨hc1, hf1⟩
  · intro n τ ⟨h1, h2⟩
    have hX : XH h τ d := H.congr (fun a a1 a2 => h2 a (by omega))
    show ∃ σ', fX0_build_L20 cx h _ (n + 1) τ (nI (dP d)) = some σ' ∧ _
    rw [fX0_build_L20, hX.1, if_pos (nI_le (Nat.le_refl _) (by omega))]
    unfold fX0_build_B148
    obtain ⟨σ', g1, g2, g3⟩ := place_ok (cx := cx) hd h1
    rw [g1, pz_bd]
    refine ⟨σ', rfl, ⟨?_, g2⟩, h2.trans (fun a ha => g3 a (by omega))⟩
    unfold cirX
    rw [g3 _ (by omega), g3 ((15 + 9 * cx) + 2) (by omega), g3 ((15 + 9 * cx) + 3) (by omega), g3 ((15 + 9 * cx) + 4) (by omega), g3 ((15 + 9 * cx) + 5) (by omega), g3 ((15 + 9 * cx) + 6) (by omega), g3 ((15 + 9 * cx) + 7) (by omega), g3 ((15 + 9 * cx) + 8) (by omega)]
    exact h1
  · intro n p τ hp ⟨h1, h2⟩
    have hX : XH h τ d := H.congr (fun a a1 a2 => h2 a (by omega))
    right
    show ∃ b', _ ∧ fX0_build_L20 cx h _ (n + 1) τ (nI p) = fX0_build_L20 cx h _ n b' (nI (p + 1))
    rw [fX0_build_L20, hX.1, if_neg (nI_ge hp (by omega)), pz_pointsOf hd hX hp, pz_bd, pz_n0]
    obtain ⟨σ', g1, g2, g3⟩ := build_pier (cx := cx) (h := h) (K := fun σ => fX0_build_B142 cx h (fX0_build_L20 cx h (fun σ => fX0_build_B148 cx h σ) n) (fun σ => fX0_build_B148 cx h σ) σ (nI p)) hd hp h1
    rw [g1]
    exact ⟨σ', ⟨g2, h2.trans g3⟩, by unfold fX0_build_B142; simp only [pz_nm_, pz_n1, nI_add]⟩
