/-! Pure rows: the changes of piers, in both systems. -/
theorem pz_rng (a : Int32) (lo hi : Nat) (h1 : lo < 2 ^ 31) (h2 : hi < 2 ^ 31) : a < nI lo ∨ (¬ a < nI lo ∧ nI hi < a) ∨ ∃ b, lo ≤ b ∧ b ≤ hi ∧ a = nI b := by
  by_cases c1 : a < nI lo
  · exact Or.inl c1
  by_cases c2 : nI hi < a
  · exact Or.inr (Or.inl ⟨c1, c2⟩)
  · right; right
    have c3 : ¬ a < 0 := fun h => by
      rw [Int32.lt_iff_toInt_lt] at h c1
      rw [nI_toInt h1] at c1
      have : (0 : Int32).toInt = 0 := rfl
      omega
    obtain ⟨b, hb, rfl⟩ := nI_of c3
    refine ⟨b, ?_, ?_, rfl⟩
    · exact Nat.le_of_not_lt (fun h => c1 (nI_lt h h1))
    · exact Nat.le_of_not_lt (fun h => c2 (nI_lt h hb))
theorem pm_in0 {σ : St} {a : Int32} {lo hi : Nat} (h : a < nI lo ∨ (¬ a < nI lo ∧ nI hi < a)) : fX7_in σ a (nI lo) (nI hi) = some (nI 0) := by
  unfold fX7_in
  rcases h with h | ⟨h1, h2⟩
  · rw [if_pos h]; rfl
  · rw [if_neg h1, if_pos h2]; rfl
theorem pz_le_of {a b : Int32} (h : a < b) : ¬ b ≤ a := by
  rw [Int32.lt_iff_toInt_lt] at h
  rw [Int32.le_iff_toInt_le]
  omega
theorem pz_10 : ¬ nI 1 = nI 0 := by decide
theorem pm_in1 {σ : St} {a b c : Nat} (ha : a < 2 ^ 31) (hb : b < 2 ^ 31) (hc : c < 2 ^ 31) (h1 : b ≤ a) (h2 : a ≤ c) : fX7_in σ (nI a) (nI b) (nI c) = some (nI 1) := by
  rw [pm_in ha hb hc, if_pos ⟨h1, h2⟩]
/-- the number of a pier or barge that a call names -/
theorem pz_ask (a : Int32) {n : Nat} (hn : n < 2 ^ 30) : ((a < nI 0 ∨ (¬ a < nI 0 ∧ nI n ≤ a)) ∧ (a < nI 0 ∨ (¬ a < nI 0 ∧ nI n - nI 1 < a))) ∨ ∃ p, p < n ∧ a = nI p := by
  rcases pz_arg a with h | ⟨p, hp, rfl⟩
  · exact Or.inl ⟨Or.inl h, Or.inl h⟩
  · by_cases h : p < n
    · exact Or.inr ⟨p, h, rfl⟩
    · left
      have h0 : ¬ nI p < nI 0 := nI_nlt (Nat.zero_le _) hp
      refine ⟨Or.inr ⟨h0, nI_le (by omega) hp⟩, Or.inr ⟨h0, ?_⟩⟩
      rw [Int32.lt_iff_toInt_lt, pk_sub_toInt (by omega) (by omega), nI_toInt hp]
      omega
theorem pz_hasPier0 {h : Nat} {σ : St} {a : Int32} {n : Nat} (e : σ (33 + 5 * h) 4 = nI n) (ha : a < nI 0 ∨ (¬ a < nI 0 ∧ nI n ≤ a)) : fX1_hasPier h σ a = some (nI 0) := by
  unfold fX1_hasPier
  rw [pz_n0, e]
  rcases ha with ha | ⟨h1, h2⟩
  · rw [if_pos ha]
  · rw [if_neg h1, if_pos h2]
theorem pz_hasPier1 {h : Nat} {σ : St} {p n : Nat} (e : σ (33 + 5 * h) 4 = nI n) (hn : n < 2 ^ 30) (hp : p < n) : fX1_hasPier h σ (nI p) = some (nI 1) := by
  unfold fX1_hasPier
  rw [pz_n0, e, if_neg (nI_nlt (Nat.zero_le _) (by omega)), if_neg (nI_ge hp (by omega))]
  rfl
theorem pz_hasBarge0 {h : Nat} {σ : St} {a : Int32} {n : Nat} (e : σ (33 + 5 * h) 5 = nI n) (ha : a < nI 0 ∨ (¬ a < nI 0 ∧ nI n ≤ a)) : fX1_hasBarge h σ a = some (nI 0) := by
  unfold fX1_hasBarge
  rw [pz_n0, e]
  rcases ha with ha | ⟨h1, h2⟩
  · rw [if_pos ha]
  · rw [if_neg h1, if_pos h2]
theorem pz_hasBarge1 {h : Nat} {σ : St} {p n : Nat} (e : σ (33 + 5 * h) 5 = nI n) (hn : n < 2 ^ 30) (hp : p < n) : fX1_hasBarge h σ (nI p) = some (nI 1) := by
  unfold fX1_hasBarge
  rw [pz_n0, e, if_neg (nI_nlt (Nat.zero_le _) (by omega)), if_neg (nI_ge hp (by omega))]
  rfl
theorem pm_isPier0 {σ : St} {a : Int32} {n : Nat} (e : σ 1 0 = nI n) (ha : a < nI 0 ∨ (¬ a < nI 0 ∧ nI n - nI 1 < a)) : fX7_isPier σ a = some (nI 0) := by
  unfold fX7_isPier fX7_in
  rw [pz_n0, pz_cl (by omega), e, pz_n1]
  rcases ha with ha | ⟨h1, h2⟩
  · rw [if_pos ha, pz_bd, pz_gB0]
  · rw [if_neg h1, if_pos h2, pz_bd, pz_gB0]
theorem pz_subl {p n : Nat} (hn : n < 2 ^ 30) (hp : p < n) : ¬ nI n - nI 1 < nI p := by
  rw [Int32.lt_iff_toInt_lt, pk_sub_toInt hn (by omega), nI_toInt (by omega)]
  omega
theorem pm_isPier1 {σ : St} {p n : Nat} (e : σ 1 0 = nI n) (hn : n < 2 ^ 30) (hp : p < n) : fX7_isPier σ (nI p) = some (nI 1) := by
  unfold fX7_isPier fX7_in
  rw [pz_n0, pz_cl (by omega), e, pz_n1, if_neg (nI_nlt (Nat.zero_le _) (by omega)), if_neg (pz_subl hn hp), pz_bd, pz_gB1]
theorem pm_isBarge0 {σ : St} {a : Int32} {n : Nat} (e : σ 1 1 = nI n) (ha : a < nI 0 ∨ (¬ a < nI 0 ∧ nI n - nI 1 < a)) : fX7_isBarge σ a = some (nI 0) := by
  unfold fX7_isBarge fX7_in
  rw [pz_n1, pz_cl (by omega), e, pz_n0]
  rcases ha with ha | ⟨h1, h2⟩
  · rw [if_pos ha, pz_bd, pz_gB0]
  · rw [if_neg h1, if_pos h2, pz_bd, pz_gB0]
theorem pm_isBarge1 {σ : St} {p n : Nat} (e : σ 1 1 = nI n) (hn : n < 2 ^ 30) (hp : p < n) : fX7_isBarge σ (nI p) = some (nI 1) := by
  unfold fX7_isBarge fX7_in
  rw [pz_n1, pz_cl (by omega), e, pz_n0, if_neg (nI_nlt (Nat.zero_le _) (by omega)), if_neg (pz_subl hn hp), pz_bd, pz_gB1]
/-- both systems move homes behind a change of the piers -/
theorem op_moves {σX σM τX τM : St} {d d' : HD} (hc : coreR σX σM d) (hr : reasonR σX σM) (hd' : dOk d') (hB : dB d' = dB d) (hna : dna d' = dna d)
    (HX : XH 0 τX d') (hmo : ∀ a, a < 33 ∨ 38 ≤ a → τX a = σX a) (hX7 : τX 33 7 = σX 33 7)
    (HM : MH (τM 1) d') (h4 : ∀ i, i < dB d → τM 4 i = oM (homeD d (pbD d i))) (h68 : ∀ j, 68 ≤ j → τM 1 j = σM 1 j) (h3 : τM 1 3 = σM 1 3) (hfm : ∀ a, a ≠ 1 → a ≠ 2 → a ≠ 3 → a ≠ 4 → τM a = σM a) :
    ∃ n σX' σM', n ≤ 24 ∧ fX6_moveHomes τX = some (nI n, σX') ∧ fX7_moves τM = some (nI n, σM') ∧ frX σX σX' ∧ frM σM σM' ∧ reasonR σX' σM' ∧ coreR σX' σM' d' := by
  obtain ⟨⟨hd, c2, c3, c4⟩, c5, c6⟩ := hc
  have hpb : ∀ j, j < dB d → pbD d' j = pbD d j := fun j _ => by unfold pbD; rw [hna]
  obtain ⟨σX', a1, a2, a3, a4, a5, a6⟩ := moveHomes_ok hd hd' HX hB hpb (c6.congr (fun a x1 x2 => hmo a (by omega)))
  obtain ⟨σM', b1, b2, b3, b4, b5⟩ := moves_ok hd hd' HM hB hpb h4
  have hle := mvD_le d d' (dB d)
  have h24 := hd.2.1
  have x0 : σX' 0 = σX 0 := by rw [a6 0 (by omega), hmo 0 (by omega)]
  have m0 : σM' 0 = σM 0 := by rw [b5 0 (by omega) (by omega) (by omega), hfm 0 (by omega) (by omega) (by omega) (by omega)]
  refine ⟨mvD d d' (dB d), σX', σM', by omega, a1, b1, ⟨fun a ha => by rw [a6 a (by omega), hmo a (by omega)], fun j _ _ => by rw [x0]⟩, ⟨fun a ha => by rw [b5 a (by omega) (by omega) (by omega), hfm a (by omega) (by omega) (by omega) (by omega)], fun j hj => by rw [b4 j hj, h68 j hj], fun j _ _ => by rw [m0]⟩, ?_, ⟨hd', a2, b2, ?_⟩, a3, a4⟩
  · unfold reasonR
    rw [x0, m0]
    exact hr
  · show σX' 33 7 = σM' 1 3
    rw [a5, b3, hX7, h3, show σX 33 7 = σM 1 3 from c4]
def dAddP (d : HD) (b : Nat) : HD := (dP d + 1, dB d, dT d, 0, fun p => if p = dP d then b else dbe d p, fun p => if p = dP d then true else dop d p, dna d, dto d)
theorem dAddP_ok {d : HD} (hd : dOk d) (hp : dP d < 8) {b : Nat} (h1 : 1 ≤ b) (h2 : b ≤ 5) : dOk (dAddP d b) := by
  obtain ⟨a1, a2, a3, a4, a5⟩ := hd
  refine ⟨by show dP d + 1 ≤ 8; omega, a2, a3, fun p hp' => ?_, a5⟩
  show 1 ≤ (if p = dP d then b else dbe d p) ∧ (if p = dP d then b else dbe d p) ≤ 5
  have hp'' : p < dP d + 1 := hp'
  by_cases e : p = dP d
  · rw [if_pos e]; exact ⟨h1, h2⟩
  · rw [if_neg e]; exact a4 p (by omega)
theorem addPier_ok {h b : Nat} {σ : St} {d : HD} (H : XH h σ d) (hp : dP d < 8) : ∃ σ', fX1_addPier h σ (nI b) = some σ' ∧ XH h σ' (dAddP d b) ∧ (∀ a, a < 33 + 5 * h ∨ 36 + 5 * h ≤ a → σ' a = σ a) ∧ σ' (33 + 5 * h) 7 = σ (33 + 5 * h) 7 := by
  obtain ⟨k1, k2, k3, k4, k5, k6, k7, k8, k9⟩ := H
  unfold fX1_addPier
  rw [k1, pz_n8, if_neg (nI_ge hp (by omega))]
  simp (disch := omega) only [pz_n1, pz_gd, pz_nm_, pz_cl, pz_su_n, k1, nI_add, pz_narB1]
  refine ⟨_, rfl, ⟨pz_su_s _ _ _ _, ?_, ?_, trivial, fun p hp' => ?_, fun p hp' => ?_, fun i hi => ?_, fun i hi => ?_, fun p hp' => ?_⟩, fun a ha => ?_, ?_⟩
  · rw [pz_su_n _ _ (by omega), pz_su_n _ _ (by omega), pz_su_n _ _ (by omega)]; exact k2
  · rw [pz_su_n _ _ (by omega), pz_su_n _ _ (by omega), pz_su_n _ _ (by omega)]; exact k3
  · have hp2 : p < dP d + 1 := hp'
    rw [pz_su_r _ _ (by omega), pz_su_r _ _ (by omega), pz_su_w]
    show _ = nI (if p = dP d then b else dbe d p)
    by_cases e : p = dP d
    · rw [if_pos e, e, pk_us]
    · rw [if_neg e, pk_un e]; exact k5 p (by omega)
  · have hp2 : p < dP d + 1 := hp'
    rw [pz_su_r _ _ (by omega), pz_su_w, pz_su_r _ _ (by omega)]
    show _ = bI (if p = dP d then true else dop d p)
    by_cases e : p = dP d
    · rw [if_pos e, e, pk_us]; rfl
    · rw [if_neg e, pk_un e]; exact k6 p (by omega)
  · rw [pz_su_r _ _ (by omega), pz_su_r _ _ (by omega), pz_su_r _ _ (by omega)]; exact k7 i hi
  · rw [pz_su_r _ _ (by omega), pz_su_r _ _ (by omega), pz_su_r _ _ (by omega)]; exact k8 i hi
  · rw [pz_su_r _ _ (by omega), pz_su_w, pz_su_r _ _ (by omega)]
    by_cases e : p = dP d
    · rw [e, pk_us]; exact Or.inr rfl
    · rw [pk_un e]; exact k9 p hp'
  · rw [pz_su_r _ _ (by omega), pz_su_r _ _ (by omega), pz_su_r _ _ (by omega)]
  · rw [pz_su_n _ _ (by omega), pz_su_n _ _ (by omega), pz_su_n _ _ (by omega)]
theorem op_join {σX σM : St} {d : HD} (hc : coreR σX σM d) (hr : reasonR σX σM) (a : Int32) : ∃ r σX' σM', fX6_joinPier σX a = some (r, σX') ∧ fX7_joins σM a = some (r, σM') ∧ opR r σX σM σX' σM' d ∧ (∀ b, 1 ≤ b → b ≤ 5 → a = nI b → dP d < 8 → ∃ d', coreR σX' σM' d' ∧ dP d' = dP d + 1) := by
  have hc0 := hc
  obtain ⟨⟨hd, c2, c3, c4⟩, c5, c6⟩ := hc
  have h8 := hd.1
  have x4 : σX 33 4 = nI (dP d) := c2.1
  have m0 : σM 1 0 = nI (dP d) := c3.1
  have hcase := pz_rng a 1 5 (by omega) (by omega)
  by_cases hbad : a < nI 1 ∨ (¬ a < nI 1 ∧ nI 5 < a)
  · refine ⟨mI 12, σX, σM, ?_, ?_, op_code 12 (by omega) (by omega) hc0 hr, fun b q1 q2 q3 _ => ?_⟩
    · unfold fX6_joinPier
      simp only [pz_n1, pz_n5, pz_n12, pz_neg]
      rcases hbad with h | ⟨h1, h2⟩
      · rw [if_pos h]
      · rw [if_neg h1, if_neg (pz_le_of h2)]
    · unfold fX7_joins
      simp only [pz_n0, pz_n1, pz_n5, pz_n12, pz_neg]
      rw [pm_in0 hbad, pz_bd, if_pos rfl]
    · subst q3
      rcases hbad with h | ⟨_, h⟩
      · exact absurd ((nI_ltI (by omega) (by omega)).mp h) (by omega)
      · exact absurd ((nI_ltI (by omega) (by omega)).mp h) (by omega)
  · obtain ⟨b, hb1, hb2, rfl⟩ : ∃ b, 1 ≤ b ∧ b ≤ 5 ∧ a = nI b := by
      rcases hcase with h | h | h
      · exact absurd (Or.inl h) hbad
      · exact absurd (Or.inr h) hbad
      · exact h
    unfold fX6_joinPier fX7_joins
    simp (disch := omega) only [pz_n1, pz_n5, pz_n8, pz_n0, pm_in, pz_bd, pz_nm_, pz_cl, x4, m0, nI_nlt, nI_le, if_true, if_false, hb1, hb2, and_self, nI_eq]
    rw [if_neg (show ¬ (1 : Nat) = 0 by omega)]
    by_cases hf : dP d = 8
    · rw [if_pos hf, if_pos hf]
      obtain ⟨σX', σM', e1, e2, e3⟩ := op_refuse hc0 (why := 1) (det := nI 8) (by omega) (by omega)
      rw [e1, e2, pz_bd, pz_bd]
      exact ⟨_, _, _, rfl, rfl, e3, fun _ _ _ _ q => absurd hf (by omega)⟩
    · rw [if_neg hf, if_neg hf]
      obtain ⟨τX, x1, x2, x3, x5⟩ := addPier_ok (h := 0) (b := b) c2 (by omega)
      rw [x1, pz_bd]
      obtain ⟨τ0, y1, y2, y3, y4⟩ := looks_ok hd c3
      rw [y1, pz_bd]
      have e1 : τ0 1 = σM 1 := y4 1 (by omega) (by omega) (by omega)
      simp (disch := omega) only [pz_n4, pz_n2, pk_mul, nI_add, pz_gd, pz_nm_, pz_cl, pz_su_n, e1, m0, Nat.add_zero]
      obtain ⟨τM, e2⟩ : ∃ z, z = su (su (su τ0 1 (4 + 2 * dP d) (nI b)) 1 (4 + 2 * dP d + 1) (nI 1)) 1 0 (nI (dP d + 1)) := ⟨_, rfl⟩
      rw [← e2]
      have r1 : τM 1 = upd (upd (upd (σM 1) (4 + 2 * dP d) (nI b)) (4 + 2 * dP d + 1) (nI 1)) 0 (nI (dP d + 1)) := by rw [e2, pz_su_w, pz_su_w, pz_su_w, e1]
      have fr : ∀ a, a ≠ 1 → τM a = τ0 a := fun a ha => by rw [e2, pz_su_r _ _ ha, pz_su_r _ _ ha, pz_su_r _ _ ha]
      have HM : MH (τM 1) (dAddP d b) := by
        obtain ⟨k1, k2, k3, k4, k5, k6, k7, k8⟩ := c3
        rw [r1]
        refine ⟨pk_us, ?_, ?_, trivial, fun p hp => ?_, fun p hp => ?_, fun i hi => ?_, fun i hi => ?_⟩
        · rw [pk_un (by omega), pk_un (by omega), pk_un (by omega)]; exact k2
        · rw [pk_un (by omega), pk_un (by omega), pk_un (by omega)]; exact k3
        · have hp2 : p < dP d + 1 := hp
          rw [pk_un (by omega), pk_un (by omega)]
          show _ = nI (if p = dP d then b else dbe d p)
          by_cases e : p = dP d
          · rw [if_pos e, e, pk_us]
          · rw [if_neg e, pk_un (by omega)]; exact k5 p (by omega)
        · have hp2 : p < dP d + 1 := hp
          rw [pk_un (by omega)]
          show _ = bI (if p = dP d then true else dop d p)
          by_cases e : p = dP d
          · rw [if_pos e, e, pk_us]; rfl
          · rw [if_neg e, pk_un (by omega), pk_un (by omega)]; exact k6 p (by omega)
        · rw [pk_un (by omega), pk_un (by omega), pk_un (by omega)]; exact k7 i hi
        · rw [pk_un (by omega), pk_un (by omega), pk_un (by omega)]; exact k8 i hi
      obtain ⟨n, σX', σM', z0, z1, z2, z3, z4, z5, z6⟩ := op_moves hc0 hr (dAddP_ok hd (by omega) hb1 hb2) rfl rfl x2 (fun a ha => x3 a (by omega)) x5 HM (fun i hi => by rw [fr 4 (by omega)]; exact y3 i hi) (fun j hj => by rw [r1, pk_un (by omega), pk_un (by omega), pk_un (by omega)]) (by rw [r1, pk_un (by omega), pk_un (by omega), pk_un (by omega)]) (fun a h1 h2 h3 h4 => by rw [fr a h1, y4 a h2 h3 h4])
      rw [z1, z2, pz_bd, pz_bd]
      have e7 : σX' 33 4 = nI (dP d + 1) := z6.1.2.1.1
      dsimp only
      rw [e7, pz_sub (by omega), Nat.add_sub_cancel]
      exact ⟨_, _, _, rfl, rfl, ⟨z3, z4, z5, Or.inr ⟨dP d, _, by omega, rfl, z6, Nat.le_succ _⟩⟩, fun _ _ _ _ _ => ⟨_, z6, rfl⟩⟩
theorem bI_inj (x y : Bool) : bI x = bI y ↔ x = y := by
  cases x <;> cases y <;> simp [bI, nI_eq]
def dSetO (d : HD) (p : Nat) (v : Bool) : HD := (dP d, dB d, dT d, 0, dbe d, fun q => if q = p then v else dop d q, dna d, dto d)
theorem XH_setO {h p : Nat} {σ : St} {d : HD} (H : XH h σ d) (v : Bool) : XH h (su σ ((33 + 5 * h) + 2) p (bI v)) (dSetO d p v) := by
  obtain ⟨k1, k2, k3, k4, k5, k6, k7, k8, k9⟩ := H
  refine ⟨by rw [pz_su_r _ _ (by omega)]; exact k1, by rw [pz_su_r _ _ (by omega)]; exact k2, by rw [pz_su_r _ _ (by omega)]; exact k3, trivial, fun q hq => by rw [pz_su_r _ _ (by omega)]; exact k5 q hq, fun q hq => ?_, fun i hi => by rw [pz_su_r _ _ (by omega)]; exact k7 i hi, fun i hi => by rw [pz_su_r _ _ (by omega)]; exact k8 i hi, fun q hq => ?_⟩
  · rw [pz_su_w]
    show _ = bI (if q = p then v else dop d q)
    by_cases e : q = p
    · rw [if_pos e, e, pk_us]
    · rw [if_neg e, pk_un e]; exact k6 q hq
  · rw [pz_su_w]
    by_cases e : q = p
    · rw [e, pk_us]; exact pz_or v
    · rw [pk_un e]; exact k9 q hq
theorem MH_setO {p : Nat} {r : Nat → Int32} {d : HD} (H : MH r d) (hd : dOk d) (hp : p < dP d) (v : Bool) : MH (upd r (4 + 2 * p + 1) (bI v)) (dSetO d p v) := by
  have h8 := hd.1
  have h24 := hd.2.1
  obtain ⟨k1, k2, k3, k4, k5, k6, k7, k8⟩ := H
  refine ⟨by rw [pk_un (by omega)]; exact k1, by rw [pk_un (by omega)]; exact k2, by rw [pk_un (by omega)]; exact k3, trivial, fun q hq => by rw [pk_un (by omega)]; exact k5 q hq, fun q hq => ?_, fun i hi => by rw [pk_un (by omega)]; exact k7 i hi, fun i hi => by rw [pk_un (by omega)]; exact k8 i hi⟩
  show _ = bI (if q = p then v else dop d q)
  by_cases e : q = p
  · rw [if_pos e, e, pk_us]
  · rw [if_neg e, pk_un (by omega)]; exact k6 q hq
theorem op_turn {σX σM : St} {d : HD} (hc : coreR σX σM d) (hr : reasonR σX σM) (a : Int32) (v : Bool) : ∃ r σX' σM', fX6_setOpened σX a (bI v) = some (r, σX') ∧ fX7_turns σM a (bI v) = some (r, σM') ∧ opR r σX σM σX' σM' d := by
  have hc0 := hc
  obtain ⟨⟨hd, c2, c3, c4⟩, c5, c6⟩ := hc
  have h8 := hd.1
  have m0 : σM 1 0 = nI (dP d) := c3.1
  unfold fX6_setOpened fX7_turns
  simp only [pz_n11, pz_n0, pz_neg]
  rcases pz_ask a (n := dP d) (by omega) with ⟨h1, h2⟩ | ⟨p, hp, rfl⟩
  · rw [pz_hasPier0 (h := 0) c2.1 h1, pm_isPier0 m0 h2, pz_bd, pz_bd, if_pos rfl, if_pos rfl]
    exact ⟨_, _, _, rfl, rfl, op_code 11 (by omega) (by omega) hc0 hr⟩
  · have x35 : σX 35 p = bI (dop d p) := c2.2.2.2.2.2.1 p hp
    rw [pz_hasPier1 (h := 0) c2.1 (by omega) hp, pm_isPier1 m0 (by omega) hp, pz_bd, pz_bd, if_neg pz_10, if_neg pz_10, pz_n1, pm_p1 hd c3 hp, pz_bd]
    simp (disch := omega) only [pz_n3, pz_n4, pz_n2, pk_mul, nI_add, pz_gd, pz_nm_, pz_cl, x35, pz_narB _ (pz_or v), bI_inj]
    by_cases e : dop d p = v
    · rw [if_pos e, if_pos e]
      obtain ⟨σX', σM', e1, e2, e3⟩ := op_refuse hc0 (why := 3) (det := nI p) (by omega) (by omega)
      rw [e1, e2, pz_bd, pz_bd]
      exact ⟨_, _, _, rfl, rfl, e3⟩
    · rw [if_neg e, if_neg e]
      obtain ⟨τ0, y1, y2, y3, y4⟩ := looks_ok hd c3
      rw [y1, pz_bd]
      have e1 : τ0 1 = σM 1 := y4 1 (by omega) (by omega) (by omega)
      have hd' : dOk (dSetO d p v) := ⟨hd.1, hd.2.1, hd.2.2.1, hd.2.2.2.1, hd.2.2.2.2⟩
      obtain ⟨n, σX', σM', z0, z1, z2, z3, z4, z5, z6⟩ := op_moves (τX := su σX 35 p (bI v)) (τM := su τ0 1 (4 + 2 * p + 1) (bI v)) hc0 hr hd' rfl rfl (XH_setO (h := 0) c2 v) (fun a ha => by rw [pz_su_r _ _ (by omega)]) (by rw [pz_su_r _ _ (by omega)]) (by rw [pz_su_w, e1]; exact MH_setO c3 hd hp v) (fun i hi => by rw [pz_su_r _ _ (by omega)]; exact y3 i hi) (fun j hj => by rw [pz_su_n _ _ (by omega), e1]) (by rw [pz_su_n _ _ (by omega), e1]) (fun a h1 h2 h3 h4 => by rw [pz_su_r _ _ h1, y4 a h2 h3 h4])
      rw [z1, z2, pz_bd, pz_bd]
      exact ⟨_, _, _, rfl, rfl, z3, z4, z5, Or.inr ⟨n, _, by omega, rfl, z6, by first | exact Nat.le_refl _ | exact Nat.le_succ _⟩⟩
def dSetB (d : HD) (p b : Nat) : HD := (dP d, dB d, dT d, 0, fun q => if q = p then b else dbe d q, dop d, dna d, dto d)
theorem XH_setB {h p : Nat} {σ : St} {d : HD} (H : XH h σ d) (b : Nat) : XH h (su σ ((33 + 5 * h) + 1) p (nI b)) (dSetB d p b) := by
  obtain ⟨k1, k2, k3, k4, k5, k6, k7, k8, k9⟩ := H
  refine ⟨by rw [pz_su_r _ _ (by omega)]; exact k1, by rw [pz_su_r _ _ (by omega)]; exact k2, by rw [pz_su_r _ _ (by omega)]; exact k3, trivial, fun q hq => ?_, fun q hq => by rw [pz_su_r _ _ (by omega)]; exact k6 q hq, fun i hi => by rw [pz_su_r _ _ (by omega)]; exact k7 i hi, fun i hi => by rw [pz_su_r _ _ (by omega)]; exact k8 i hi, fun q hq => by rw [pz_su_r _ _ (by omega)]; exact k9 q hq⟩
  rw [pz_su_w]
  show _ = nI (if q = p then b else dbe d q)
  by_cases e : q = p
  · rw [if_pos e, e, pk_us]
  · rw [if_neg e, pk_un e]; exact k5 q hq
theorem MH_setB {p : Nat} {r : Nat → Int32} {d : HD} (H : MH r d) (hd : dOk d) (hp : p < dP d) (b : Nat) : MH (upd r (4 + 2 * p) (nI b)) (dSetB d p b) := by
  have h8 := hd.1
  have h24 := hd.2.1
  obtain ⟨k1, k2, k3, k4, k5, k6, k7, k8⟩ := H
  refine ⟨by rw [pk_un (by omega)]; exact k1, by rw [pk_un (by omega)]; exact k2, by rw [pk_un (by omega)]; exact k3, trivial, fun q hq => ?_, fun q hq => by rw [pk_un (by omega)]; exact k6 q hq, fun i hi => by rw [pk_un (by omega)]; exact k7 i hi, fun i hi => by rw [pk_un (by omega)]; exact k8 i hi⟩
  show _ = nI (if q = p then b else dbe d q)
  by_cases e : q = p
  · rw [if_pos e, e, pk_us]
  · rw [if_neg e, pk_un (by omega)]; exact k5 q hq
theorem dSetB_ok {d : HD} (hd : dOk d) {p b : Nat} (h1 : 1 ≤ b) (h2 : b ≤ 5) : dOk (dSetB d p b) := by
  obtain ⟨a1, a2, a3, a4, a5⟩ := hd
  refine ⟨a1, a2, a3, fun q hq => ?_, a5⟩
  show 1 ≤ (if q = p then b else dbe d q) ∧ (if q = p then b else dbe d q) ≤ 5
  by_cases e : q = p
  · rw [if_pos e]; exact ⟨h1, h2⟩
  · rw [if_neg e]; exact a4 q hq
theorem op_weigh {σX σM : St} {d : HD} (hc : coreR σX σM d) (hr : reasonR σX σM) (a w : Int32) : ∃ r σX' σM', fX6_setBerths σX a w = some (r, σX') ∧ fX7_weighs σM a w = some (r, σM') ∧ opR r σX σM σX' σM' d := by
  have hc0 := hc
  obtain ⟨⟨hd, c2, c3, c4⟩, c5, c6⟩ := hc
  have h8 := hd.1
  have m0 : σM 1 0 = nI (dP d) := c3.1
  unfold fX6_setBerths fX7_weighs
  simp only [pz_n11, pz_n0, pz_n1, pz_n5, pz_n12, pz_neg]
  rcases pz_ask a (n := dP d) (by omega) with ⟨h1, h2⟩ | ⟨p, hp, rfl⟩
  · rw [pz_hasPier0 (h := 0) c2.1 h1, pm_isPier0 m0 h2, pz_bd, pz_bd, if_pos rfl, if_pos rfl]
    exact ⟨_, _, _, rfl, rfl, op_code 11 (by omega) (by omega) hc0 hr⟩
  · have x34 : σX 34 p = nI (dbe d p) := c2.2.2.2.2.1 p hp
    have hbe := hd.2.2.2.1 p hp
    rw [pz_hasPier1 (h := 0) c2.1 (by omega) hp, pm_isPier1 m0 (by omega) hp, pz_bd, pz_bd, if_neg pz_10, if_neg pz_10]
    by_cases hbad : w < nI 1 ∨ (¬ w < nI 1 ∧ nI 5 < w)
    · rw [pm_in0 hbad, pz_bd, if_pos rfl]
      refine ⟨mI 12, σX, σM, ?_, rfl, op_code 12 (by omega) (by omega) hc0 hr⟩
      rcases hbad with h | ⟨h1, h2⟩
      · rw [if_pos h]
      · rw [if_neg h1, if_neg (pz_le_of h2)]
    · obtain ⟨b, hb1, hb2, rfl⟩ : ∃ b, 1 ≤ b ∧ b ≤ 5 ∧ w = nI b := by
        rcases pz_rng w 1 5 (by omega) (by omega) with h | h | h
        · exact absurd (Or.inl h) hbad
        · exact absurd (Or.inr h) hbad
        · exact h
      rw [pm_in1 (by omega) (by omega) (by omega) hb1 hb2, pz_bd, if_neg pz_10, if_neg (nI_nlt hb1 (by omega)), if_pos (nI_le hb2 (by omega)), pm_p0 hd c3 hp, pz_bd]
      simp (disch := omega) only [pz_n3, pz_n4, pz_n2, pk_mul, nI_add, pz_gd, pz_nm_, pz_cl, x34, nI_eq, Nat.add_zero]
      by_cases e : dbe d p = b
      · rw [if_pos e, if_pos e]
        obtain ⟨σX', σM', e1, e2, e3⟩ := op_refuse hc0 (why := 3) (det := nI b) (by omega) (by omega)
        rw [e1, e2, pz_bd, pz_bd]
        exact ⟨_, _, _, rfl, rfl, e3⟩
      · rw [if_neg e, if_neg e]
        obtain ⟨τ0, y1, y2, y3, y4⟩ := looks_ok hd c3
        rw [y1, pz_bd]
        have e1 : τ0 1 = σM 1 := y4 1 (by omega) (by omega) (by omega)
        obtain ⟨n, σX', σM', z0, z1, z2, z3, z4, z5, z6⟩ := op_moves (τX := su σX 34 p (nI b)) (τM := su τ0 1 (4 + 2 * p) (nI b)) hc0 hr (dSetB_ok (p := p) hd hb1 hb2) rfl rfl (XH_setB (h := 0) c2 b) (fun a ha => by rw [pz_su_r _ _ (by omega)]) (by rw [pz_su_r _ _ (by omega)]) (by rw [pz_su_w, e1]; exact MH_setB c3 hd hp b) (fun i hi => by rw [pz_su_r _ _ (by omega)]; exact y3 i hi) (fun j hj => by rw [pz_su_n _ _ (by omega), e1]) (by rw [pz_su_n _ _ (by omega), e1]) (fun a h1 h2 h3 h4 => by rw [pz_su_r _ _ h1, y4 a h2 h3 h4])
        rw [z1, z2, pz_bd, pz_bd]
        exact ⟨_, _, _, rfl, rfl, z3, z4, z5, Or.inr ⟨n, _, by omega, rfl, z6, by first | exact Nat.le_refl _ | exact Nat.le_succ _⟩⟩
