/-! Pure rows: the changes of tons and barges, in both systems. -/
theorem op_settle {σX σM τX τM : St} {d d' : HD} (hc : coreR σX σM d) (hr : reasonR σX σM) (hd' : dOk d') (hs : sameR d d') (HX : XH 0 τX d') (hmo : ∀ a, a < 33 ∨ 38 ≤ a → τX a = σX a) (hX7 : τX 33 7 = σX 33 7)
    (HM : MH (τM 1) d') (h68 : ∀ j, 68 ≤ j → τM 1 j = σM 1 j) (h3 : τM 1 3 = σM 1 3) (hfm : ∀ a, a ≠ 1 → τM a = σM a) :
    ∃ σX', fX4_settle 0 0 τX = some σX' ∧ frX σX σX' ∧ frM σM τM ∧ reasonR σX' τM ∧ coreR σX' τM d' := by
  obtain ⟨⟨hd, c2, c3, c4⟩, c5, c6⟩ := hc
  have hc1 : cirOk 0 τX d' := sR_cir hs (c5.congr (fun a x1 x2 => hmo a (by omega)))
  obtain ⟨σX', a1, a2, a3⟩ := settle_ok (h := 0) (cx := 0) hd' (by omega) HX hc1
  have x0 : σX' 0 = σX 0 := by rw [a3 0 (by omega), hmo 0 (by omega)]
  refine ⟨σX', a1, ⟨fun a ha => by rw [a3 a (by omega), hmo a (by omega)], fun j _ _ => by rw [x0]⟩, ⟨fun a ha => hfm a (by omega), h68, fun j _ _ => by rw [hfm 0 (by omega)]⟩, ?_, ⟨hd', HX.congr (fun a x1 x2 => a3 a (by omega)), HM, ?_⟩, hc1.congr (fun a x1 x2 => a3 a (by omega)), a2⟩
  · unfold reasonR
    rw [x0, hfm 0 (by omega)]
    exact hr
  · show σX' 33 7 = τM 1 3
    rw [a3 33 (by omega), hX7, h3]
    exact c4
def dSetT (d : HD) (t : Nat) : HD := (dP d, dB d, t, 0, dbe d, dop d, dna d, dto d)
theorem op_bears {σX σM : St} {d : HD} (hc : coreR σX σM d) (hr : reasonR σX σM) (w : Int32) : ∃ r σX' σM', fX6_setBerthTons σX w = some (r, σX') ∧ fX7_bears σM w = some (r, σM') ∧ opR r σX σM σX' σM' d := by
  have hc0 := hc
  obtain ⟨⟨hd, c2, c3, c4⟩, c5, c6⟩ := hc
  have h8 := hd.1
  have h24 := hd.2.1
  have hT := hd.2.2.1
  have m2 : σM 1 2 = nI (dT d) := c3.2.2.1
  have x6 : σX 33 6 = nI (dT d) := c2.2.2.1
  unfold fX6_setBerthTons fX7_bears
  simp only [pz_n10, pz_n200, pz_n12, pz_n0, pz_neg]
  by_cases hbad : w < nI 10 ∨ (¬ w < nI 10 ∧ nI 200 < w)
  · rw [pm_in0 hbad, pz_bd, if_pos rfl]
    refine ⟨mI 12, σX, σM, ?_, rfl, op_code 12 (by omega) (by omega) hc0 hr⟩
    rcases hbad with h | ⟨h1, h2⟩
    · rw [if_pos h]
    · rw [if_neg h1, if_neg (pz_le_of h2)]
  · obtain ⟨t, ht1, ht2, rfl⟩ : ∃ b, 10 ≤ b ∧ b ≤ 200 ∧ w = nI b := by
      rcases pz_rng w 10 200 (by omega) (by omega) with h | h | h
      · exact absurd (Or.inl h) hbad
      · exact absurd (Or.inr h) hbad
      · exact h
    rw [pm_in1 (by omega) (by omega) (by omega) ht1 ht2, pz_bd, if_neg pz_10, if_neg (nI_nlt ht1 (by omega)), if_pos (nI_le ht2 (by omega))]
    simp (disch := omega) only [pz_n2, pz_n3, pz_nm_, pz_cl, x6, m2, nI_eq]
    by_cases e : dT d = t
    · rw [if_pos e, if_pos e]
      obtain ⟨σX', σM', e1, e2, e3⟩ := op_refuse hc0 (why := 3) (det := nI t) (by omega) (by omega)
      rw [e1, e2, pz_bd, pz_bd]
      exact ⟨_, _, _, rfl, rfl, e3⟩
    · rw [if_neg e, if_neg e]
      have hd' : dOk (dSetT d t) := ⟨hd.1, hd.2.1, ⟨ht1, ht2⟩, hd.2.2.2.1, hd.2.2.2.2⟩
      obtain ⟨k1, k2, k3, k4, k5, k6, k7, k8, k9⟩ := c2
      obtain ⟨l1, l2, l3, l4, l5, l6, l7, l8⟩ := c3
      obtain ⟨σX', z1, z2, z3, z4, z5⟩ := op_settle (τX := su σX 33 6 (nI t)) (τM := su σM 1 2 (nI t)) (d' := dSetT d t) hc0 hr hd' ⟨rfl, rfl, rfl⟩
        ⟨by rw [pz_su_n _ _ (by omega)]; exact k1, by rw [pz_su_n _ _ (by omega)]; exact k2, by rw [pz_su_s]; rfl, trivial, fun q hq => by rw [pz_su_r _ _ (by omega)]; exact k5 q hq, fun q hq => by rw [pz_su_r _ _ (by omega)]; exact k6 q hq, fun i hi => by rw [pz_su_r _ _ (by omega)]; exact k7 i hi, fun i hi => by rw [pz_su_r _ _ (by omega)]; exact k8 i hi, fun q hq => by rw [pz_su_r _ _ (by omega)]; exact k9 q hq⟩
        (fun a ha => by rw [pz_su_r _ _ (by omega)]) (by rw [pz_su_n _ _ (by omega)])
        (by
          rw [pz_su_w]
          exact ⟨by rw [pk_un (by omega)]; exact l1, by rw [pk_un (by omega)]; exact l2, pk_us, trivial, fun p hp => by rw [pk_un (by omega)]; exact l5 p hp, fun p hp => by rw [pk_un (by omega)]; exact l6 p hp, fun i hi => by rw [pk_un (by omega)]; exact l7 i hi, fun i hi => by rw [pk_un (by omega)]; exact l8 i hi⟩)
        (fun j hj => by rw [pz_su_n _ _ (by omega)]) (by rw [pz_su_n _ _ (by omega)]) (fun a ha => by rw [pz_su_r _ _ ha])
      rw [z1, pz_bd]
      exact ⟨_, _, _, rfl, rfl, z2, z3, z4, Or.inr ⟨dT d, _, by omega, rfl, z5, by first | exact Nat.le_refl _ | exact Nat.le_succ _⟩⟩
def fnD (d : HD) (n : Nat) : Option Nat := fh (fun i => decide (dna d i = n)) (dB d) 0
theorem pz_named {h n : Nat} {σ : St} {d : HD} (hd : dOk d) (H : XH h σ d) (hn : n ≤ 9999) : fX1_bargeNamed h σ (nI n) = some (oM (fnD d n)) := by
  have h24 := hd.2.1
  unfold fX1_bargeNamed
  rw [pz_n0]
  refine pz_loop (F := fun m (_ : Unit) s => fX1_bargeNamed_L2 h σ (nI n) (fX1_bargeNamed_B28 h σ) m (nI s)) (P := fun o => o = some (oM (fnD d n))) (fun s _ => ∀ j, j < s → ¬ dna d j = n) (dB d) ?_ ?_ (dB d) 0 () 1000 (by omega) (by omega) (fun j h => absurd h (Nat.not_lt_zero _))
  · intro m _ h1
    show fX1_bargeNamed_L2 h σ (nI n) _ (m + 1) (nI (dB d)) = _
    rw [fX1_bargeNamed_L2, H.2.1, if_pos (nI_le (Nat.le_refl _) (by omega))]
    unfold fnD
    rw [fh_none.mpr (fun j _ hj => by simpa using h1 j (by omega))]
    rfl
  · intro m s _ hs h1
    have e1 := H.2.2.2.2.2.2.1 s hs
    have e2 := (hd.2.2.2.2 s hs).1
    show fX1_bargeNamed_L2 h σ (nI n) _ (m + 1) (nI s) = _ ∨ ∃ b', _ ∧ fX1_bargeNamed_L2 h σ (nI n) _ (m + 1) (nI s) = fX1_bargeNamed_L2 h σ (nI n) _ m (nI (s + 1))
    rw [fX1_bargeNamed_L2, H.2.1, if_neg (nI_ge hs (by omega))]
    simp (disch := omega) only [pz_n1, pz_gd, pz_nm_, pz_cl, nI_add, e1, nI_eq]
    by_cases e : dna d s = n
    · left
      rw [if_pos e]
      have : fnD d n = some s := by
        unfold fnD
        rw [fh_some]
        exact ⟨Nat.zero_le _, by omega, by simpa using e, fun j _ hj => by simpa using h1 j hj⟩
      rw [this]
      rfl
    · right
      rw [if_neg e]
      refine ⟨(), fun j hj => ?_, rfl⟩
      by_cases e3 : j = s
      · rw [e3]; exact e
      · exact h1 j (by omega)
theorem pm_named {n : Nat} {σ : St} {d : HD} (hd : dOk d) (H : MH (σ 1) d) (hn : n ≤ 9999) : fX7_bargeWith σ (nI n) = some (oM (fnD d n)) := by
  have h24 := hd.2.1
  unfold fX7_bargeWith
  rw [pz_n0]
  refine pz_loop (F := fun m (_ : Unit) s => fX7_bargeWith_L2 σ (nI n) (fX7_bargeWith_B30 σ) m (nI s)) (P := fun o => o = some (oM (fnD d n))) (fun s _ => ∀ j, j < s → ¬ dna d j = n) (dB d) ?_ ?_ (dB d) 0 () 1000 (by omega) (by omega) (fun j h => absurd h (Nat.not_lt_zero _))
  · intro m _ h1
    show fX7_bargeWith_L2 σ (nI n) _ (m + 1) (nI (dB d)) = _
    rw [fX7_bargeWith_L2, pz_n1, pz_cl (by omega), H.2.1, if_pos (nI_le (Nat.le_refl _) (by omega))]
    unfold fnD
    rw [fh_none.mpr (fun j _ hj => by simpa using h1 j (by omega))]
    rfl
  · intro m s _ hs h1
    have e2 := (hd.2.2.2.2 s hs).1
    show fX7_bargeWith_L2 σ (nI n) _ (m + 1) (nI s) = _ ∨ ∃ b', _ ∧ fX7_bargeWith_L2 σ (nI n) _ (m + 1) (nI s) = fX7_bargeWith_L2 σ (nI n) _ m (nI (s + 1))
    rw [fX7_bargeWith_L2, pz_n1, pz_cl (by omega), H.2.1, if_neg (nI_ge hs (by omega)), pz_n0, pm_b0 hd H hs, pz_bd]
    simp (disch := omega) only [pz_nm_, nI_add, nI_eq]
    by_cases e : dna d s = n
    · left
      rw [if_pos e]
      have : fnD d n = some s := by
        unfold fnD
        rw [fh_some]
        exact ⟨Nat.zero_le _, by omega, by simpa using e, fun j _ hj => by simpa using h1 j hj⟩
      rw [this]
      rfl
    · right
      rw [if_neg e]
      refine ⟨(), fun j hj => ?_, rfl⟩
      by_cases e3 : j = s
      · rw [e3]; exact e
      · exact h1 j (by omega)
def dAddB (d : HD) (n t : Nat) : HD := (dP d, dB d + 1, dT d, 0, dbe d, dop d, fun i => if i = dB d then n else dna d i, fun i => if i = dB d then t else dto d i)
theorem dAddB_ok {d : HD} (hd : dOk d) (hB : dB d < 24) {n t : Nat} (h0 : n ≤ 9999) (h1 : 1 ≤ t) (h2 : t ≤ 99) : dOk (dAddB d n t) := by
  obtain ⟨a1, a2, a3, a4, a5⟩ := hd
  refine ⟨a1, by show dB d + 1 ≤ 24; omega, a3, a4, fun i hi => ?_⟩
  have hi2 : i < dB d + 1 := hi
  show (if i = dB d then n else dna d i) ≤ 9999 ∧ 1 ≤ (if i = dB d then t else dto d i) ∧ (if i = dB d then t else dto d i) ≤ 99
  by_cases e : i = dB d
  · rw [if_pos e, if_pos e]; exact ⟨h0, h1, h2⟩
  · rw [if_neg e, if_neg e]; exact a5 i (by omega)
theorem addBarge_ok {h n t : Nat} {σ : St} {d : HD} (H : XH h σ d) (hB : dB d < 24) : ∃ σ', fX1_addBarge h σ (nI n) (nI t) = some σ' ∧ XH h σ' (dAddB d n t) ∧ (∀ a, a < 33 + 5 * h ∨ 38 + 5 * h ≤ a → σ' a = σ a) ∧ σ' (33 + 5 * h) 7 = σ (33 + 5 * h) 7 := by
  obtain ⟨k1, k2, k3, k4, k5, k6, k7, k8, k9⟩ := H
  unfold fX1_addBarge
  rw [k2, pz_n24, if_neg (nI_ge hB (by omega))]
  simp (disch := omega) only [pz_n1, pz_gd, pz_nm_, pz_cl, pz_su_n, k2, nI_add]
  refine ⟨_, rfl, ⟨?_, pz_su_s _ _ _ _, ?_, trivial, fun p hp => ?_, fun p hp => ?_, fun i hi => ?_, fun i hi => ?_, fun p hp => ?_⟩, fun a ha => ?_, ?_⟩
  · rw [pz_su_n _ _ (by omega), pz_su_n _ _ (by omega), pz_su_n _ _ (by omega)]; exact k1
  · rw [pz_su_n _ _ (by omega), pz_su_n _ _ (by omega), pz_su_n _ _ (by omega)]; exact k3
  · rw [pz_su_r _ _ (by omega), pz_su_r _ _ (by omega), pz_su_r _ _ (by omega)]; exact k5 p hp
  · rw [pz_su_r _ _ (by omega), pz_su_r _ _ (by omega), pz_su_r _ _ (by omega)]; exact k6 p hp
  · have hi2 : i < dB d + 1 := hi
    rw [pz_su_r _ _ (by omega), pz_su_r _ _ (by omega), pz_su_w]
    show _ = nI (if i = dB d then n else dna d i)
    by_cases e : i = dB d
    · rw [if_pos e, e, pk_us]
    · rw [if_neg e, pk_un e]; exact k7 i (by omega)
  · have hi2 : i < dB d + 1 := hi
    rw [pz_su_r _ _ (by omega), pz_su_w, pz_su_r _ _ (by omega)]
    show _ = nI (if i = dB d then t else dto d i)
    by_cases e : i = dB d
    · rw [if_pos e, e, pk_us]
    · rw [if_neg e, pk_un e]; exact k8 i (by omega)
  · rw [pz_su_r _ _ (by omega), pz_su_r _ _ (by omega), pz_su_r _ _ (by omega)]; exact k9 p hp
  · rw [pz_su_r _ _ (by omega), pz_su_r _ _ (by omega), pz_su_r _ _ (by omega)]
  · rw [pz_su_n _ _ (by omega), pz_su_n _ _ (by omega), pz_su_n _ _ (by omega)]
theorem op_come {σX σM : St} {d : HD} (hc : coreR σX σM d) (hr : reasonR σX σM) (a w : Int32) : ∃ r σX' σM', fX6_letCome σX a w = some (r, σX') ∧ fX7_comes σM a w = some (r, σM') ∧ opR r σX σM σX' σM' d := by
  have hc0 := hc
  obtain ⟨⟨hd, c2, c3, c4⟩, c5, c6⟩ := hc
  have h8 := hd.1
  have h24 := hd.2.1
  have m1 : σM 1 1 = nI (dB d) := c3.2.1
  have x5 : σX 33 5 = nI (dB d) := c2.2.1
  unfold fX6_letCome fX7_comes
  simp only [pz_n0, pz_n9999, pz_n1, pz_n99, pz_n12, pz_neg]
  by_cases hbad : a < nI 0 ∨ (¬ a < nI 0 ∧ nI 9999 < a)
  · rw [pm_in0 hbad, pz_bd, if_pos rfl]
    refine ⟨mI 12, σX, σM, ?_, rfl, op_code 12 (by omega) (by omega) hc0 hr⟩
    rcases hbad with h | ⟨h1, h2⟩
    · rw [if_pos h]
    · rw [if_neg h1, if_pos h2]
  obtain ⟨n, hn1, hn2, rfl⟩ : ∃ b, 0 ≤ b ∧ b ≤ 9999 ∧ a = nI b := by
    rcases pz_rng a 0 9999 (by omega) (by omega) with h | h | h
    · exact absurd (Or.inl h) hbad
    · exact absurd (Or.inr h) hbad
    · exact h
  rw [pm_in1 (by omega) (by omega) (by omega) hn1 hn2, pz_bd, if_neg pz_10, if_neg (nI_nlt hn1 (by omega)), if_neg (nI_nlt hn2 (by omega))]
  by_cases hbad : w < nI 1 ∨ (¬ w < nI 1 ∧ nI 99 < w)
  · rw [pm_in0 hbad, pz_bd, if_pos rfl]
    refine ⟨mI 12, σX, σM, ?_, rfl, op_code 12 (by omega) (by omega) hc0 hr⟩
    rcases hbad with h | ⟨h1, h2⟩
    · rw [if_pos h]
    · rw [if_neg h1, if_neg (pz_le_of h2)]
  obtain ⟨t, ht1, ht2, rfl⟩ : ∃ b, 1 ≤ b ∧ b ≤ 99 ∧ w = nI b := by
    rcases pz_rng w 1 99 (by omega) (by omega) with h | h | h
    · exact absurd (Or.inl h) hbad
    · exact absurd (Or.inr h) hbad
    · exact h
  rw [pm_in1 (by omega) (by omega) (by omega) ht1 ht2, pz_bd, if_neg pz_10, if_neg (nI_nlt ht1 (by omega)), if_pos (nI_le ht2 (by omega)), pz_named hd c2 hn2, pm_named hd c3 hn2, pz_bd, pz_bd]
  simp (disch := omega) only [pz_n2, pz_n20, pz_n24, pk_mul, nI_add, pz_gd, pz_nm_, pz_cl, x5, m1, nI_eq, Nat.add_zero]
  cases hf : fnD d n with
  | some i =>
    have hi : i < dB d := by
      unfold fnD at hf
      have := (fh_some.mp hf).2.1
      omega
    have hne : ¬ oM (some i) = mI 1 := pz_nm (by omega) (by omega) (by omega)
    rw [if_neg hne, if_neg hne]
    obtain ⟨σX', σM', e1, e2, e3⟩ := op_refuse hc0 (why := 2) (det := oM (some i)) (by omega) (by omega)
    rw [e1, e2, pz_bd, pz_bd]
    exact ⟨_, _, _, rfl, rfl, e3⟩
  | none =>
    rw [if_pos (show oM none = mI 1 from rfl), if_pos (show oM none = mI 1 from rfl)]
    by_cases e : dB d = 24
    · rw [if_pos e, if_pos e]
      obtain ⟨σX', σM', e1, e2, e3⟩ := op_refuse hc0 (why := 1) (det := nI 24) (by omega) (by omega)
      rw [e1, e2, pz_bd, pz_bd]
      exact ⟨_, _, _, rfl, rfl, e3⟩
    · rw [if_neg e, if_neg e]
      obtain ⟨τX, x1, x2, x3, x4⟩ := addBarge_ok (h := 0) (n := n) (t := t) c2 (by omega)
      rw [x1, pz_bd]
      simp (disch := omega) only [pz_su_n, m1, nI_add]
      obtain ⟨τM, e2⟩ : ∃ z, z = su (su (su σM 1 (20 + 2 * dB d) (nI n)) 1 (20 + 2 * dB d + 1) (nI t)) 1 1 (nI (dB d + 1)) := ⟨_, rfl⟩
      rw [← e2]
      have r1 : τM 1 = upd (upd (upd (σM 1) (20 + 2 * dB d) (nI n)) (20 + 2 * dB d + 1) (nI t)) 1 (nI (dB d + 1)) := by rw [e2, pz_su_w, pz_su_w, pz_su_w]
      have HM : MH (τM 1) (dAddB d n t) := by
        obtain ⟨k1, k2, k3, k4, k5, k6, k7, k8⟩ := c3
        rw [r1]
        refine ⟨?_, pk_us, ?_, trivial, fun p hp => ?_, fun p hp => ?_, fun i hi => ?_, fun i hi => ?_⟩
        · rw [pk_un (by omega), pk_un (by omega), pk_un (by omega)]; exact k1
        · rw [pk_un (by omega), pk_un (by omega), pk_un (by omega)]; exact k3
        · have hp2 : p < dP d := hp
          rw [pk_un (by omega), pk_un (by omega), pk_un (by omega)]; exact k5 p hp
        · have hp2 : p < dP d := hp
          rw [pk_un (by omega), pk_un (by omega), pk_un (by omega)]; exact k6 p hp
        · have hi2 : i < dB d + 1 := hi
          rw [pk_un (by omega), pk_un (by omega)]
          show _ = nI (if i = dB d then n else dna d i)
          by_cases e : i = dB d
          · rw [if_pos e, e, pk_us]
          · rw [if_neg e, pk_un (by omega)]; exact k7 i (by omega)
        · have hi2 : i < dB d + 1 := hi
          rw [pk_un (by omega)]
          show _ = nI (if i = dB d then t else dto d i)
          by_cases e : i = dB d
          · rw [if_pos e, e, pk_us]
          · rw [if_neg e, pk_un (by omega), pk_un (by omega)]; exact k8 i (by omega)
      obtain ⟨σX', z1, z2, z3, z4, z5⟩ := op_settle (τX := τX) (τM := τM) (d' := dAddB d n t) hc0 hr (dAddB_ok hd (by omega) hn2 ht1 ht2) ⟨rfl, rfl, rfl⟩ x2 (fun a ha => x3 a (by omega)) x4 HM (fun j hj => by rw [r1, pk_un (by omega), pk_un (by omega), pk_un (by omega)]) (by rw [r1, pk_un (by omega), pk_un (by omega), pk_un (by omega)]) (fun a ha => by rw [e2, pz_su_r _ _ ha, pz_su_r _ _ ha, pz_su_r _ _ ha])
      rw [z1, pz_bd]
      have e7 : σX' 33 5 = nI (dB d + 1) := z5.1.2.1.2.1
      rw [e7, pz_sub (by omega), Nat.add_sub_cancel]
      exact ⟨_, _, _, rfl, rfl, z2, z3, z4, Or.inr ⟨dB d, _, by omega, rfl, z5, by first | exact Nat.le_refl _ | exact Nat.le_succ _⟩⟩
