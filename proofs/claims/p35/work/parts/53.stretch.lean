/-! Pure rows: stretches of the ring. -/
def stD (d : HD) (p : Nat) : Nat := sumTo (fun q => if homeD d q = some p then 1 else 0) 360
theorem pm_stretch {σ : St} {d : HD} (hd : dOk d) (hr : ringM σ d) {p : Nat} (hp : p < dP d) : fX7_stretch σ (nI p) = some (nI (stD d p)) := by
  have h8 := hd.1
  unfold fX7_stretch
  rw [pz_n0]
  refine sum_loop (F := fun m x i => fX7_stretch_L4 σ (nI p) (fun y2 => fX7_stretch_B35 σ y2) m x i) (f := fun q => if homeD d q = some p then 1 else 0) (N := 360) (K := fun y2 => fX7_stretch_B35 σ y2) (by omega) (fun n => ?_) (fun n i hi => ?_)
  · show fX7_stretch_L4 σ _ _ (n + 1) _ _ = _
    rw [fX7_stretch_L4, pz_n360, if_pos (nI_le (Nat.le_refl _) (by omega))]
  · show fX7_stretch_L4 σ _ _ (n + 1) _ _ = _
    rw [fX7_stretch_L4, pz_n360, if_neg (nI_ge hi (by omega))]
    simp (disch := omega) only [pz_gd, pz_cl, pz_nm_, pz_n0, pz_n1, nI_add, hr.2 i hi, oM_p hd]
    by_cases e : homeD d i = some p
    · rw [if_pos e, if_pos e]
    · rw [if_neg e, if_neg e]
theorem fm_pos : ∀ k, k < 360 → 0 ≤ (nI k ^^^ nI 360) ∧ jrem (nI k) (nI 360) = nI k := by decide +kernel
theorem fm_neg : ∀ k, k < 360 → 0 < k → ¬ 0 ≤ (mI k ^^^ nI 360) ∧ jrem (mI k) (nI 360) = mI k ∧ ¬ mI k = 0 ∧ mI k + nI 360 = nI (360 - k) := by decide +kernel
theorem pz_subm {a b : Nat} (hb : b < 2 ^ 30) (h : a < b) : nI a - nI b = mI (b - a) := by
  apply Int32.toInt_inj.mp
  rw [pk_sub_toInt (by omega) hb, pz_mT (by omega)]
  omega
theorem pz_floorMod {σ : St} {a b : Nat} (ha : a < 360) (hb : b < 360) : fJ9_floorMod_7cf53 σ (nI a - nI b) (nI 360) = some (nI ((a + 360 - b) % 360)) := by
  unfold fJ9_floorMod_7cf53
  rw [pz_gz (by omega) (by omega), pz_nm_]
  by_cases h : a < b
  · rw [pz_subm (by omega) h]
    obtain ⟨h1, h2, h3, h4⟩ := fm_neg (b - a) (by omega) (by omega)
    rw [if_neg h1, h2, if_neg h3, h4, show (a + 360 - b) % 360 = 360 - (b - a) by omega]
  · rw [pz_sub (by omega)]
    obtain ⟨h1, h2⟩ := fm_pos (a - b) (by omega)
    rw [if_pos h1, h2, show (a + 360 - b) % 360 = a - b by omega]
def gpD (d : HD) (i : Nat) : Nat := (paD d i + 360 - paD d (if i = 0 then cntD d - 1 else i - 1)) % 360
def sxD (d : HD) (p : Nat) (n : Nat) : Nat := sumTo (fun i => if paD d i % 8 = p then gpD d i else 0) n
theorem pz_stretchX {cx p : Nat} {σ : St} {d : HD} (hd : dOk d) (hc : cirOk cx σ d) (hp : p < dP d) : fX0_stretchOf cx σ (nI p) = some (nI (sxD d p (cntD d))) := by
  have h80 := cntD_le hd
  have h8 := hd.1
  obtain ⟨⟨c1, c2, c3, c4, c5, c6, c7, c8⟩, cp⟩ := hc
  unfold fX0_stretchOf
  rw [pz_n0]
  refine sum_loop (F := fun m x i => fX0_stretchOf_L4 cx σ (nI p) (fun y2 => fX0_stretchOf_B84 cx σ y2) m x i) (f := fun i => if paD d i % 8 = p then gpD d i else 0) (N := cntD d) (K := fun y2 => fX0_stretchOf_B84 cx σ y2) (by omega) (fun n => ?_) (fun n i hi => ?_)
  · show fX0_stretchOf_L4 cx σ _ _ (n + 1) _ _ = _
    rw [fX0_stretchOf_L4, c1, if_pos (nI_le (Nat.le_refl _) (by omega))]
  · show fX0_stretchOf_L4 cx σ _ _ (n + 1) _ _ = _
    have hq := paD_facts hd hi
    have hx := nix_facts hq.1 hq.2.1
    rw [fX0_stretchOf_L4, c1, if_neg (nI_ge hi (by omega))]
    simp (disch := omega) only [pz_gd, pz_cl, pz_nm_, pz_n0, pz_n1, nI_add, cp i hi, c4 _ hx.1, hx.2, nI_eq, pz_sub]
    by_cases e : paD d i % 8 = p
    · rw [if_pos e, if_pos e]
      unfold gpD
      have key : ∀ t, t < cntD d → fX0_stretchOf_B51 cx (fX0_stretchOf_L4 cx σ (nI p) (fun y2 => fX0_stretchOf_B84 cx σ y2) n) (fun y2 => fX0_stretchOf_B84 cx σ y2) σ (nI p) (nI (sumTo (fun i => if paD d i % 8 = p then (paD d i + 360 - paD d (if i = 0 then cntD d - 1 else i - 1)) % 360 else 0) i)) (nI i) (nI (nixD d (paD d i))) (nI t) = fX0_stretchOf_L4 cx σ (nI p) (fun y2 => fX0_stretchOf_B84 cx σ y2) n (nI (sumTo (fun i => if paD d i % 8 = p then (paD d i + 360 - paD d (if i = 0 then cntD d - 1 else i - 1)) % 360 else 0) i + (paD d i + 360 - paD d t) % 360)) (nI (i + 1)) := by
        intro t ht
        have hq2 := paD_facts hd ht
        have hx2 := nix_facts hq2.1 hq2.2.1
        unfold fX0_stretchOf_B51
        simp (disch := omega) only [pz_gd, pz_cl, pz_nm_, pz_n1, pz_n360, nI_add, cp t ht, c3 _ hx.1, hx.2, c3 _ hx2.1, hx2.2, pz_floorMod, pz_bd]
      by_cases e0 : i = 0
      · rw [if_pos e0, key (cntD d - 1) (by omega), if_pos e0]
      · rw [if_neg e0, key (i - 1) (by omega), if_neg e0]
    · rw [if_neg e, if_neg e]
      rfl
theorem hf_seg {d : HD} (hd : dOk d) {q i : Nat} (hi : i < cntD d) (h1 : q ≤ paD d i) (h2 : i = 0 ∨ paD d (i - 1) < q) : hfD d q = some (paD d i) := by
  have hp := paD_facts hd hi
  unfold hfD
  rw [fh_some]
  refine ⟨h1, by omega, by rw [cP_lt d hp.1]; exact hp.2.1, fun j a b => ?_⟩
  rw [cP_lt d (by omega)]
  cases e : isD d j with
  | false => rfl
  | true =>
    have h3 := paD_rk (d := d) (q := j) (by omega) e
    have h4 := rkD_s d j
    rw [if_pos e] at h4
    have h5 := rkD_mono d (a := j + 1) (b := paD d i) (by omega)
    rcases h2 with h2 | h2
    · omega
    · have h6 : paD d (rkD d j) ≤ paD d (i - 1) := by
        by_cases e2 : rkD d j = i - 1
        · rw [e2]; exact Nat.le_refl _
        · exact Nat.le_of_lt (paD_mono hd (by omega) (by omega))
      omega
theorem hf_last {d : HD} (hd : dOk d) {q : Nat} (hq : q < 360) (h0 : 0 < cntD d) (h1 : paD d (cntD d - 1) < q) : hfD d q = some (paD d 0 + 360) := by
  have hp := paD_facts hd h0
  have hl := paD_facts hd (i := cntD d - 1) (by omega)
  have hle : paD d 0 ≤ paD d (cntD d - 1) := by
    by_cases e : cntD d - 1 = 0
    · rw [e]; exact Nat.le_refl _
    · exact Nat.le_of_lt (paD_mono hd (by omega) (by omega))
  unfold hfD
  rw [fh_some]
  refine ⟨by omega, by omega, by rw [cP_per, cP_lt d hp.1]; exact hp.2.1, fun j a b => ?_⟩
  by_cases hj : j < 360
  · rw [cP_lt d hj]
    cases e : isD d j with
    | false => rfl
    | true =>
      have h3 := paD_rk hj e
      have h4 := rkD_lt hd hj e
      have h6 : paD d (rkD d j) ≤ paD d (cntD d - 1) := by
        by_cases e2 : rkD d j = cntD d - 1
        · rw [e2]; exact Nat.le_refl _
        · exact Nat.le_of_lt (paD_mono hd (by omega) (by omega))
      omega
  · have hpe : cP d j = isD d (j - 360) := by
      rw [← cP_lt d (by omega), ← cP_per d (j - 360), show j - 360 + 360 = j by omega]
    rw [hpe]
    cases e : isD d (j - 360) with
    | false => rfl
    | true =>
      have h3 := paD_rk (d := d) (q := j - 360) (by omega) e
      have h4 := rkD_lt hd (q := j - 360) (by omega) e
      have h6 : paD d 0 ≤ paD d (rkD d (j - 360)) := by
        by_cases e2 : rkD d (j - 360) = 0
        · rw [e2]; exact Nat.le_refl _
        · exact Nat.le_of_lt (paD_mono hd (by omega) h4)
      omega
theorem sumTo_const {f : Nat → Nat} {c a : Nat} : ∀ b, a ≤ b → (∀ j, a ≤ j → j < b → f j = c) → sumTo f b = sumTo f a + c * (b - a) := by
  intro b
  induction b with
  | zero => intro h _; rw [Nat.le_zero.mp h]; simp
  | succ b ih =>
    intro h1 h2
    by_cases e : a = b + 1
    · rw [e]; simp
    · show sumTo f b + f b = _
      rw [ih (by omega) (fun j x y => h2 j x (by omega)), h2 b (by omega) (by omega), show b + 1 - a = (b - a) + 1 by omega, Nat.mul_succ]
      omega
theorem off_even (d : HD) : ∀ p, offD d p % 2 = 0 := by
  intro p
  induction p with
  | zero => rfl
  | succ p ih =>
    show (offD d p + nptD d p) % 2 = 0
    unfold nptD
    split <;> omega
theorem stretch_eq {d : HD} (hd : dOk d) (p : Nat) : sxD d p (cntD d) = stD d p := by
  by_cases h0 : cntD d = 0
  · rw [h0]
    show 0 = _
    unfold stD
    rw [sumTo_const (c := 0) (a := 0) 360 (by omega) (fun j _ _ => by
      unfold homeD
      rw [hf_empty h0]
      rfl)]
    rfl
  have h2 : 2 ≤ cntD d := by
    have := off_even d (dP d)
    unfold cntD at h0 ⊢
    omega
  have hp0 := paD_facts hd (i := 0) (by omega)
  have hpl := paD_facts hd (i := cntD d - 1) (by omega)
  have hlt := paD_mono hd (i := 0) (j := cntD d - 1) (by omega) (by omega)
  have hseg : ∀ i, i < cntD d → ∀ q, q ≤ paD d i → (i = 0 ∨ paD d (i - 1) < q) → (if homeD d q = some p then 1 else 0) = if paD d i % 8 = p then 1 else 0 := by
    intro i hi q a b
    have : homeD d q = some (paD d i % 8) := by unfold homeD; rw [hf_seg hd hi a b]; rfl
    rw [this]
    by_cases e : paD d i % 8 = p
    · rw [if_pos (by rw [e]), if_pos e]
    · rw [if_neg (fun h => e (Option.some.inj h)), if_neg e]
  obtain ⟨S, hS⟩ : ∃ S : Nat → Nat, S = sumTo (fun q => if homeD d q = some p then 1 else 0) := ⟨_, rfl⟩
  have key : ∀ i, i < cntD d → sxD d p (i + 1) = S (paD d i + 1) + (if paD d 0 % 8 = p then 359 - paD d (cntD d - 1) else 0) := by
    intro i
    induction i with
    | zero =>
      intro hi
      show 0 + (if paD d 0 % 8 = p then gpD d 0 else 0) = _
      rw [hS, sumTo_const (c := if paD d 0 % 8 = p then 1 else 0) (a := 0) (paD d 0 + 1) (by omega) (fun j _ hj => hseg 0 (by omega) j (by omega) (Or.inl rfl))]
      show _ = 0 + _ + _
      unfold gpD
      rw [if_pos rfl]
      by_cases e : paD d 0 % 8 = p
      · rw [if_pos e, if_pos e, if_pos e]; omega
      · rw [if_neg e, if_neg e, if_neg e]; omega
    | succ i ih =>
      intro hi
      have h1 := ih (by omega)
      have h3 := paD_mono hd (i := i) (j := i + 1) (by omega) hi
      have h4 := (paD_facts hd hi).1
      show sxD d p (i + 1) + (if paD d (i + 1) % 8 = p then gpD d (i + 1) else 0) = _
      have h5 : S (paD d (i + 1) + 1) = S (paD d i + 1) + (if paD d (i + 1) % 8 = p then 1 else 0) * (paD d (i + 1) + 1 - (paD d i + 1)) := by
        rw [hS]
        exact sumTo_const _ (by omega) (fun j a b => hseg (i + 1) hi j (by omega) (Or.inr (by rw [Nat.add_sub_cancel]; omega)))
      rw [h1, h5]
      unfold gpD
      rw [if_neg (show ¬ i + 1 = 0 by omega), Nat.add_sub_cancel]
      by_cases e : paD d (i + 1) % 8 = p
      · rw [if_pos e, if_pos e]; omega
      · rw [if_neg e, if_neg e]; omega
  have hfin := key (cntD d - 1) (by omega)
  rw [show cntD d - 1 + 1 = cntD d by omega] at hfin
  rw [hfin]
  unfold stD
  rw [sumTo_const (c := if paD d 0 % 8 = p then 1 else 0) (a := paD d (cntD d - 1) + 1) 360 (by omega) (fun j a b => by
    have : homeD d j = some ((paD d 0 + 360) % 8) := by unfold homeD; rw [hf_last hd b (by omega) (by omega)]; rfl
    rw [this, show (paD d 0 + 360) % 8 = paD d 0 % 8 by omega]
    by_cases e : paD d 0 % 8 = p
    · rw [if_pos (by rw [e]), if_pos e]
    · rw [if_neg (fun h => e (Option.some.inj h)), if_neg e]), hS]
  by_cases e : paD d 0 % 8 = p
  · rw [if_pos e, if_pos e]; omega
  · rw [if_neg e, if_neg e]; omega
theorem pz_stretch {cx p : Nat} {σ : St} {d : HD} (hd : dOk d) (hc : cirOk cx σ d) (hp : p < dP d) : fX0_stretchOf cx σ (nI p) = some (nI (stD d p)) := by
  rw [pz_stretchX hd hc hp, stretch_eq hd]
theorem sm_pierOf {σX σM : St} (hR : allR σX σM) (a w : Int32) : ∃ r σM', fX6_pierOf σX a w = some r ∧ fX7_pierOf σM a w = some (r, σM') ∧ allR σX σM' := by
  have hR0 := hR
  obtain ⟨⟨d, ⟨hd, c2, c3, c4⟩, c5, c6⟩, -⟩ := hR
  have h8 := hd.1
  have m0 : σM 1 0 = nI (dP d) := c3.1
  have e66 : (6 : Int32) = nI 6 := by decide
  unfold fX6_pierOf fX7_pierOf
  simp only [pz_n0, pz_n1, pz_n2, pz_n3, pz_n4, pz_n5, e66, pz_n7, pz_n8, pz_n9, pz_n11, pz_n12, pz_neg]
  rcases pz_ask a (n := dP d) (by omega) with ⟨h1, h2⟩ | ⟨p, hp, rfl⟩
  · rw [pz_hasPier0 (h := 0) c2.1 h1, pm_isPier0 m0 h2, pz_bd, pz_bd, if_pos rfl, if_pos rfl]
    exact ⟨_, _, rfl, rfl, hR0⟩
  obtain ⟨τ, y1, y2, y3⟩ := lays_ok hd c3
  have H1 : MH (τ 1) d := by rw [y3 1 (by omega) (by omega) (by omega) (by omega) (by omega)]; exact c3
  have hfin : allR σX τ := hR0.ringed y3
  have e34 : σX 34 p = nI (dbe d p) := c2.2.2.2.2.1 p hp
  have e35 : σX 35 p = bI (dop d p) := c2.2.2.2.2.2.1 p hp
  have i4 : nI 4 - nI 4 = nI 0 := by decide
  have i5 : nI 5 - nI 4 = nI 1 := by decide
  obtain ⟨u1, u2, u3, u4⟩ := c6.2.1 p (by omega)
  rw [pz_hasPier1 (h := 0) c2.1 (by omega) hp, pm_isPier1 m0 (by omega) hp, pz_bd, pz_bd, if_neg pz_10, if_neg pz_10, y1, pz_bd]
  by_cases g : w = nI 0
  · subst g
    rw [if_pos rfl, if_pos rfl, pz_gd (by omega) (by omega), pz_cl (by omega), e34, pm_p0 hd H1 hp, pz_bd]
    exact ⟨_, _, rfl, rfl, hfin⟩
  rw [if_neg g, if_neg g]; clear g
  by_cases g : w = nI 1
  · subst g
    rw [if_pos rfl, if_pos rfl, pz_gd (by omega) (by omega), pz_cl (by omega), e35, pm_p1 hd H1 hp, pz_bd]
    cases dop d p with
    | true => rw [if_neg (show ¬ bI true = nI 0 from pz_10)]; exact ⟨_, _, rfl, rfl, hfin⟩
    | false => rw [if_pos (show bI false = nI 0 from rfl)]; exact ⟨_, _, rfl, rfl, hfin⟩
  rw [if_neg g, if_neg g]; clear g
  by_cases g : w = nI 2
  · rw [if_pos g, if_pos g, pz_pointsOf hd c2 hp, pz_bd, pm_points hd H1 hp, pz_bd]
    exact ⟨_, _, rfl, rfl, hfin⟩
  rw [if_neg g, if_neg g]; clear g
  by_cases g : w = nI 3
  · rw [if_pos g, if_pos g, pz_stretch hd c5 hp, pz_bd, pm_stretch hd y2.1 hp, pz_bd]
    exact ⟨_, _, rfl, rfl, hfin⟩
  rw [if_neg g, if_neg g]; clear g
  by_cases g : w = nI 4
  · rw [if_pos g, if_pos g, g, i4, pz_gd (by omega) (by omega), pz_cl (by omega), u1, pm_ofHome0 hd H1 y2.1 hp, pz_bd]
    exact ⟨_, _, rfl, rfl, hfin⟩
  rw [if_neg g, if_neg g]; clear g
  by_cases g : w = nI 5
  · rw [if_pos g, if_pos g, g, i5, pz_gd (by omega) (by omega), pz_cl (by omega), u2, pm_ofHome1 hd H1 y2.1 hp, pz_bd]
    exact ⟨_, _, rfl, rfl, hfin⟩
  rw [if_neg g, if_neg g]; clear g
  by_cases g : w = nI 6
  · rw [if_pos g, if_pos g, pz_gd (by omega) (by omega), pz_cl (by omega), u3, pm_lyingAt hd H1 y2 hp, pz_bd]
    exact ⟨_, _, rfl, rfl, hfin⟩
  rw [if_neg g, if_neg g]; clear g
  by_cases g : w = nI 7
  · rw [if_pos g, if_pos g, pz_gd (by omega) (by omega), pz_cl (by omega), pz_gd (by omega) (by omega), u4, y2.2.2 p (by omega)]
    exact ⟨_, _, rfl, rfl, hfin⟩
  rw [if_neg g, if_neg g]; clear g
  by_cases g : w = nI 8
  · rw [if_pos g, if_pos g, pz_roomOf hd c2 hp, pz_bd, pm_room hd H1 hp, pz_bd]
    exact ⟨_, _, rfl, rfl, hfin⟩
  rw [if_neg g, if_neg g]; clear g
  by_cases g : w = nI 9
  · rw [if_pos g, if_pos g, pz_isHot hd c2 c6 hp, pz_bd, pm_isHot hd H1 y2.1 hp, pz_bd]
    cases hotD d p with
    | true => rw [if_neg (show ¬ bI true = nI 0 from pz_10), if_neg (show ¬ bI true = nI 0 from pz_10)]; exact ⟨_, _, rfl, rfl, hfin⟩
    | false => rw [if_pos (show bI false = nI 0 from rfl), if_pos (show bI false = nI 0 from rfl)]; exact ⟨_, _, rfl, rfl, hfin⟩
  rw [if_neg g, if_neg g]
  exact ⟨_, _, rfl, rfl, hfin⟩
