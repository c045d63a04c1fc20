/-! Pure rows: the circle and homes hang on the piers alone; the relation of the two systems. -/
def sameR (d d' : HD) : Prop := dP d' = dP d ∧ dbe d' = dbe d ∧ dop d' = dop d
theorem sR_npt {d d' : HD} (h : sameR d d') : nptD d' = nptD d := by
  obtain ⟨h1, h2, h3⟩ := h
  funext p
  unfold nptD
  rw [h2, h3]
theorem sR_off {d d' : HD} (h : sameR d d') : offD d' = offD d := by
  funext p
  induction p with
  | zero => rfl
  | succ p ih =>
    show offD d' p + nptD d' p = offD d p + nptD d p
    rw [ih, sR_npt h]
theorem sR_Kp {d d' : HD} (h : sameR d d') : KpD d' = KpD d := by
  funext p
  induction p with
  | zero => rfl
  | succ p ih =>
    funext i
    show (if i < offD d' p then KpD d' p i else _) = (if i < offD d p then KpD d p i else _)
    rw [ih, sR_off h]
theorem sR_k {d d' : HD} (h : sameR d d') : kD d' = kD d := by
  funext i
  unfold kD
  rw [sR_Kp h, h.1]
theorem sR_cnt {d d' : HD} (h : sameR d d') : cntD d' = cntD d := by
  unfold cntD
  rw [sR_off h, h.1]
theorem sR_is {d d' : HD} (h : sameR d d') : isD d' = isD d := by
  funext q
  unfold isD
  rw [sR_npt h, h.1]
theorem sR_nix {d d' : HD} (h : sameR d d') : nixD d' = nixD d := by
  funext q
  unfold nixD
  rw [sR_off h]
theorem sR_pa {d d' : HD} (h : sameR d d') : paD d' = paD d := by
  funext i
  unfold paD psD
  rw [sR_is h]
theorem sR_home {d d' : HD} (h : sameR d d') : homeD d' = homeD d := by
  funext q
  unfold homeD hfD cP
  rw [sR_is h]
theorem sR_dp {d d' : HD} (h : sameR d d') : dpK d' = dpK d := by
  funext i
  unfold dpK
  rw [sR_k h]
theorem sR_hg {d d' : HD} (h : sameR d d') : hgK d' = hgK d := by
  funext n
  induction n with
  | zero => rfl
  | succ n ih =>
    show max (hgK d' n) (dpK d' n + 1) = max (hgK d n) (dpK d n + 1)
    rw [ih, sR_dp h]
theorem sR_cir {d d' : HD} (h : sameR d d') {cx : Nat} {σ : St} (hc : cirOk cx σ d) : cirOk cx σ d' := by
  unfold cirOk cirX at hc ⊢
  rw [sR_cnt h, sR_hg h, sR_k h, sR_dp h, sR_is h, sR_nix h, sR_pa h]
  exact hc
/-- a harbour of the class and a row of the model show the same -/
def hR (h : Nat) (σ : St) (r : Nat → Int32) (d : HD) : Prop := dOk d ∧ XH h σ d ∧ MH r d ∧ σ (33 + 5 * h) 7 = r 3
def coreR (σX σM : St) (d : HD) : Prop := hR 0 σX (σM 1) d ∧ cirOk 0 σX d ∧ moorX σX d (dB d)
def reasonR (σX σM : St) : Prop := (σM 0 3 = nI 0 ∧ σX 0 10 = mI 15 ∧ σX 0 11 = mI 15) ∨ (¬ σM 0 3 = nI 0 ∧ σX 0 10 = σM 0 3 ∧ σX 0 11 = σM 0 4)
def frX (σ σ' : St) : Prop := (∀ a, (0 < a ∧ a < 7) ∨ (24 ≤ a ∧ a < 33) ∨ 38 ≤ a → σ' a = σ a) ∧ ∀ j, j ≠ 10 → j ≠ 11 → σ' 0 j = σ 0 j
def frM (σ σ' : St) : Prop := (∀ a, 5 ≤ a → σ' a = σ a) ∧ (∀ j, 68 ≤ j → σ' 1 j = σ 1 j) ∧ ∀ j, j ≠ 3 → j ≠ 4 → σ' 0 j = σ 0 j
theorem frX.refl (σ : St) : frX σ σ := ⟨fun _ _ => rfl, fun _ _ _ => rfl⟩
theorem frM.refl (σ : St) : frM σ σ := ⟨fun _ _ => rfl, fun _ _ => rfl, fun _ _ _ => rfl⟩
theorem frX.trans {a b c : St} (h1 : frX a b) (h2 : frX b c) : frX a c := ⟨fun k hk => by rw [h2.1 k hk, h1.1 k hk], fun j a1 a2 => by rw [h2.2 j a1 a2, h1.2 j a1 a2]⟩
theorem frM.trans {a b c : St} (h1 : frM a b) (h2 : frM b c) : frM a c := ⟨fun k hk => by rw [h2.1 k hk, h1.1 k hk], fun j hj => by rw [h2.2.1 j hj, h1.2.1 j hj], fun j a1 a2 => by rw [h2.2.2 j a1 a2, h1.2.2 j a1 a2]⟩
/-- what a change does: told r -/
def opR (r : Int32) (σX σM σX' σM' : St) (d : HD) : Prop := frX σX σX' ∧ frM σM σM' ∧ reasonR σX' σM' ∧ ((∃ k, 11 ≤ k ∧ k ≤ 15 ∧ r = mI k ∧ coreR σX' σM' d ∧ σM' 1 = σM 1) ∨ ∃ n d', n < 2 ^ 31 ∧ r = nI n ∧ coreR σX' σM' d' ∧ dP d ≤ dP d')
theorem op_code {σX σM : St} {d : HD} (k : Nat) (h1 : 11 ≤ k) (h2 : k ≤ 15) (hc : coreR σX σM d) (hr : reasonR σX σM) : opR (mI k) σX σM σX σM d := ⟨frX.refl _, frM.refl _, hr, Or.inl ⟨k, h1, h2, rfl, hc, rfl⟩⟩
theorem op_refuse {σX σM : St} {d : HD} (hc : coreR σX σM d) {why : Nat} {det : Int32} (h0 : 0 < why) (h1 : why < 2 ^ 31) :
    ∃ σX' σM', fX6_refuse σX (nI why) det = some (mI 14, σX') ∧ fX7_refuses σM (nI why) det = some (mI 14, σM') ∧ opR (mI 14) σX σM σX' σM' d := by
  unfold fX6_refuse fX7_refuses
  simp only [pz_nm_, pz_n14, pz_neg]
  refine ⟨_, _, rfl, rfl, ⟨fun a ha => by rw [pz_su_r _ _ (by omega), pz_su_r _ _ (by omega)], fun j a1 a2 => by rw [pz_su_n _ _ (by omega), pz_su_n _ _ (by omega)]⟩, ⟨fun a ha => by rw [pz_su_r _ _ (by omega), pz_su_r _ _ (by omega)], fun j hj => by rw [pz_su_r _ _ (by omega), pz_su_r _ _ (by omega)], fun j a1 a2 => by rw [pz_su_n _ _ (by omega), pz_su_n _ _ (by omega)]⟩, Or.inr ⟨?_, ?_, ?_⟩, Or.inl ⟨14, by omega, by omega, rfl, ?_, by rw [pz_su_r _ _ (by omega), pz_su_r _ _ (by omega)]⟩⟩
  · rw [pz_su_n _ _ (by omega), pz_su_s]
    exact fun h => by rw [nI_eq h1 (by omega)] at h; omega
  · rw [pz_su_n _ _ (by omega), pz_su_s, pz_su_n _ _ (by omega), pz_su_s]
  · rw [pz_su_s, pz_su_s]
  · obtain ⟨⟨a1, a2, a3, a4⟩, a5, a6⟩ := hc
    have fx : ∀ a, a ≠ 0 → su (su σX 0 10 (nI why)) 0 11 det a = σX a := fun a ha => by rw [pz_su_r _ _ ha, pz_su_r _ _ ha]
    have fm : ∀ a, a ≠ 0 → su (su σM 0 3 (nI why)) 0 4 det a = σM a := fun a ha => by rw [pz_su_r _ _ ha, pz_su_r _ _ ha]
    refine ⟨⟨a1, a2.congr (fun a h1 h2 => fx a (by omega)), by rw [fm 1 (by omega)]; exact a3, by rw [fx _ (by omega), fm 1 (by omega)]; exact a4⟩, a5.congr (fun a h1 h2 => fx a (by omega)), a6.congr (fun a h1 h2 => fx a (by omega))⟩
/-- the class moves homes, behind a change of the piers -/
theorem moveHomes_ok {σ : St} {d d' : HD} (hd : dOk d) (hd' : dOk d') (H : XH 0 σ d') (hB : dB d' = dB d) (hpb : ∀ j, j < dB d → pbD d' j = pbD d j) (hm : moorX σ d (dB d)) :
    ∃ σ', fX6_moveHomes σ = some (nI (mvD d d' (dB d)), σ') ∧ XH 0 σ' d' ∧ cirOk 0 σ' d' ∧ moorX σ' d' (dB d') ∧ σ' 33 7 = σ 33 7 + nI (mvD d d' (dB d)) ∧ ∀ a, a < 7 ∨ (24 ≤ a ∧ a < 33) ∨ 34 ≤ a → σ' a = σ a := by
  unfold fX6_moveHomes
  obtain ⟨σ1, a1, a2, a3⟩ := build_ok (cx := 0) (by omega) hd' H
  rw [a1, pz_bd]
  have H1 : XH 0 σ1 d' := H.congr (fun a x1 x2 => a3 a (by omega))
  rw [pz_unlike (cx := 0) hd hd' hd' H1 hB hpb a2.1 (fun j hj => by rw [a3 8 (by omega)]; exact (hm.1 j hj).1), pz_bd, pz_nm_]
  obtain ⟨σ2, e2⟩ : ∃ z, z = su σ1 33 7 (σ1 33 7 + nI (mvD d d' (dB d))) := ⟨_, rfl⟩
  rw [← e2]
  have f2 : ∀ a, a ≠ 33 → σ2 a = σ1 a := fun a ha => by rw [e2, pz_su_r _ _ ha]
  have H2 : XH 0 σ2 d' := by
    unfold XH at H1 ⊢
    rw [e2, pz_su_r _ _ (show ¬ 33 + 5 * 0 + 1 = 33 by omega), pz_su_r _ _ (show ¬ 33 + 5 * 0 + 2 = 33 by omega), pz_su_r _ _ (show ¬ 33 + 5 * 0 + 3 = 33 by omega), pz_su_r _ _ (show ¬ 33 + 5 * 0 + 4 = 33 by omega), pz_su_n _ _ (show ¬ (33 + 5 * 0 = 33 ∧ 4 = 7) by omega), pz_su_n _ _ (show ¬ (33 + 5 * 0 = 33 ∧ 5 = 7) by omega), pz_su_n _ _ (show ¬ (33 + 5 * 0 = 33 ∧ 6 = 7) by omega)]
    exact H1
  have hc2 : cirOk 0 σ2 d' := a2.congr (fun a x1 x2 => f2 a (by omega))
  obtain ⟨σ3, b1, b2, b3⟩ := settle_ok (h := 0) (cx := 0) hd' (by omega) H2 hc2
  rw [b1, pz_bd]
  refine ⟨σ3, rfl, H2.congr (fun a x1 x2 => b3 a (by omega)), hc2.congr (fun a x1 x2 => b3 a (by omega)), b2, ?_, fun a ha => ?_⟩
  · rw [b3 33 (by omega), e2, pz_su_s, a3 33 (by omega)]
  · rw [b3 a (by omega), f2 a (by omega), a3 a (by omega)]
