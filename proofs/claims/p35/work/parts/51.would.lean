/-! Pure rows: what would be; hot piers. -/
theorem sm_wouldMove {σX σM : St} (hR : allR σX σM) (a : Int32) : ∃ r σX' σM', fX6_wouldMove σX a = some (r, σX') ∧ fX7_wouldMove σM a = some (r, σM') ∧ allR σX' σM' := by
  have hR0 := hR
  obtain ⟨⟨d, ⟨hd, c2, c3, c4⟩, c5, c6⟩, -⟩ := hR
  have h8 := hd.1
  have h24 := hd.2.1
  have x4 : σX 33 4 = nI (dP d) := c2.1
  have m0 : σM 1 0 = nI (dP d) := c3.1
  unfold fX6_wouldMove fX7_wouldMove
  simp only [pz_n1, pz_n5, pz_n0, pz_n8, pz_n12, pz_n13, pz_neg]
  by_cases hbad : a < nI 1 ∨ (¬ a < nI 1 ∧ nI 5 < a)
  · rw [pm_in0 hbad, pz_bd, if_pos rfl]
    refine ⟨mI 12, σX, σM, ?_, rfl, hR0⟩
    rcases hbad with h | ⟨h1, h2⟩
    · rw [if_pos h]
    · rw [if_neg h1, if_neg (pz_le_of h2)]
  obtain ⟨b, hb1, hb2, rfl⟩ : ∃ b, 1 ≤ b ∧ b ≤ 5 ∧ a = nI b := by
    rcases pz_rng a 1 5 (by omega) (by omega) with h | h | h
    · exact absurd (Or.inl h) hbad
    · exact absurd (Or.inr h) hbad
    · exact h
  rw [pm_in1 (by omega) (by omega) (by omega) hb1 hb2, pz_bd, if_neg pz_10, if_neg (nI_nlt hb1 (by omega)), if_pos (nI_le hb2 (by omega))]
  simp (disch := omega) only [pz_nm_, pz_cl, x4, m0, nI_eq]
  by_cases hf : dP d = 8
  · rw [if_pos hf, if_pos hf]
    exact ⟨_, _, _, rfl, rfl, hR0⟩
  rw [if_neg hf, if_neg hf]
  have hd' := dAddP_ok hd (by omega) hb1 hb2
  obtain ⟨τ1, p1, p2, p3, p4⟩ := takeFrom_ok (h := 1) (h2 := 0) hd (by omega) c2
  obtain ⟨τ2, p5, p6, p7, p8⟩ := addPier_ok (h := 1) (b := b) p2 (by omega)
  obtain ⟨τ3, p9, p10, p11⟩ := build_ok (cx := 1) (by omega) hd' p6
  rw [p1, pz_bd, p5, pz_bd, p9, pz_bd]
  have fr : ∀ k, k < 24 ∨ (33 ≤ k ∧ k < 38) ∨ 43 ≤ k → τ3 k = σX k := fun k hk => by rw [p11 k (by omega), p7 k (by omega), p4 k (by omega)]
  have H3 : XH 0 τ3 d := c2.congr (fun k x1 x2 => fr k (by omega))
  rw [pz_unlike (h := 0) (cx := 1) hd hd hd' H3 rfl (fun _ _ => rfl) p10.1 (fun j hj => by rw [fr 8 (by omega)]; exact (c6.1 j hj).1), pz_bd]
  obtain ⟨s1, q1, q2, q3, q4⟩ := copies_ok (a := 0) (b := 11) (σ := σM) (by omega) (by omega) (by omega)
  have s1r : ∀ j, j < 748 → s1 1 j = σM 1 j := fun j hj => q3 j (by omega)
  have s1row : ∀ j, j < 68 → s1 1 (68 * 11 + j) = σM 1 j := fun j hj => by rw [q2 j hj, Nat.mul_zero, Nat.zero_add]
  have M1 : MH (s1 1) d := c3.congr (fun j hj _ => s1r j (by omega)) hd
  obtain ⟨s2, q5, q6, q7, q8⟩ := looks_ok hd M1
  have e21 : s2 1 = s1 1 := q8 1 (by omega) (by omega) (by omega)
  rw [pz_n11, q1, pz_bd, q5, pz_bd]
  have m02 : s2 1 0 = nI (dP d) := by rw [e21]; exact M1.1
  simp (disch := omega) only [pz_n4, pz_n2, pk_mul, nI_add, pz_gd, pz_cl, pz_su_n, m02, Nat.add_zero]
  obtain ⟨s3, e3⟩ : ∃ z, z = su (su (su s2 1 (4 + 2 * dP d) (nI b)) 1 (4 + 2 * dP d + 1) (nI 1)) 1 0 (nI (dP d + 1)) := ⟨_, rfl⟩
  rw [← e3]
  have r1 : s3 1 = upd (upd (upd (s1 1) (4 + 2 * dP d) (nI b)) (4 + 2 * dP d + 1) (nI 1)) 0 (nI (dP d + 1)) := by rw [e3, pz_su_w, pz_su_w, pz_su_w, e21]
  have frs : ∀ k, k ≠ 1 → s3 k = s2 k := fun k hk => by rw [e3, pz_su_r _ _ hk, pz_su_r _ _ hk, pz_su_r _ _ hk]
  have HM : MH (s3 1) (dAddP d b) := by
    obtain ⟨k1, k2, k3, k4, k5, k6, k7, k8⟩ := M1
    rw [r1]
    refine ⟨pk_us, ?_, ?_, trivial, fun p hp => ?_, fun p hp => ?_, fun i hi => ?_, fun i hi => ?_⟩
    · rw [pk_un (by omega), pk_un (by omega), pk_un (by omega)]; exact k2
    · rw [pk_un (by omega), pk_un (by omega), pk_un (by omega)]; exact k3
    · have hp2 : p < dP d + 1 := hp
      rw [pk_un (by omega), pk_un (by omega)]
      show _ = nI (if p = dP d then b else dbe d p)
      by_cases e : p = dP d
      · rw [if_pos e, e, pk_us]
      · rw [if_neg e, pk_un (by omega)]; exact k5 p (by omega)
    · have hp2 : p < dP d + 1 := hp
      rw [pk_un (by omega)]
      show _ = bI (if p = dP d then true else dop d p)
      by_cases e : p = dP d
      · rw [if_pos e, e, pk_us]; rfl
      · rw [if_neg e, pk_un (by omega), pk_un (by omega)]; exact k6 p (by omega)
    · rw [pk_un (by omega), pk_un (by omega), pk_un (by omega)]; exact k7 i hi
    · rw [pk_un (by omega), pk_un (by omega), pk_un (by omega)]; exact k8 i hi
  obtain ⟨s4, q9, q10, q11⟩ := moved_ok hd hd' HM rfl (fun _ _ => rfl) (fun i hi => by rw [frs 4 (by omega)]; exact q7 i hi)
  rw [q9, pz_bd]
  obtain ⟨s5, q12, q13, q14, q15⟩ := copies_ok (a := 11) (b := 0) (σ := s4) (by omega) (by omega) (by omega)
  dsimp only
  rw [q12, pz_bd]
  refine ⟨_, _, _, rfl, rfl, hR0.scratch fr (fun j hj => ?_) ?_ ?_ (fun j _ _ _ _ => ?_)⟩
  · have e41 : s4 1 = s3 1 := q11 1 (by omega) (by omega)
    have hbig : ∀ i, 68 ≤ i → s4 1 i = s1 1 i := fun i hi => by rw [e41, r1, pk_un (by omega), pk_un (by omega), pk_un (by omega)]
    by_cases e : j < 68
    · have := q13 j e
      rw [Nat.mul_zero, Nat.zero_add] at this
      rw [this, hbig _ (by omega), s1row j e]
    · rw [q14 j (by omega), hbig j (by omega), s1r j (by omega)]
  · rw [q15 13 (by omega), q11 13 (by omega) (by omega), frs 13 (by omega), q8 13 (by omega) (by omega) (by omega), q4 13 (by omega)]
  · rw [q15 15 (by omega), q11 15 (by omega) (by omega), frs 15 (by omega), q8 15 (by omega) (by omega) (by omega), q4 15 (by omega)]
  · rw [q15 0 (by omega), q11 0 (by omega) (by omega), frs 0 (by omega), q8 0 (by omega) (by omega) (by omega), q4 0 (by omega)]
/-- a pier is supposed closed -/
theorem suppose_ok {σ : St} {d : HD} {p : Nat} (hd : dOk d) (H : XH 0 σ d) (hp : p < dP d) : ∃ σ', fX6_supposeClosed σ (nI p) = some σ' ∧ cirOk 1 σ' (dSetO d p false) ∧ ∀ k, k < 24 ∨ (33 ≤ k ∧ k < 38) ∨ 43 ≤ k → σ' k = σ k := by
  have h8 := hd.1
  unfold fX6_supposeClosed
  obtain ⟨τ1, p1, p2, p3, p4⟩ := takeFrom_ok (h := 1) (h2 := 0) hd (by omega) H
  rw [p1, pz_bd]
  simp (disch := omega) only [pz_gd, pz_cl, pz_nm_, pz_n0, pz_narB0]
  have hd' : dOk (dSetO d p false) := ⟨hd.1, hd.2.1, hd.2.2.1, hd.2.2.2.1, hd.2.2.2.2⟩
  have H2 : XH 1 (su τ1 40 p (nI 0)) (dSetO d p false) := XH_setO (h := 1) p2 false
  obtain ⟨τ3, p9, p10, p11⟩ := build_ok (cx := 1) (by omega) hd' H2
  rw [p9, pz_bd]
  exact ⟨τ3, rfl, p10, fun k hk => by rw [p11 k (by omega), pz_su_r _ _ (by omega), p4 k (by omega)]⟩
theorem sm_wouldClose {σX σM : St} (hR : allR σX σM) (a : Int32) : ∃ r σX' σM', fX6_wouldClose σX a = some (r, σX') ∧ fX7_wouldClose σM a = some (r, σM') ∧ allR σX' σM' := by
  have hR0 := hR
  obtain ⟨⟨d, ⟨hd, c2, c3, c4⟩, c5, c6⟩, -⟩ := hR
  have h8 := hd.1
  have h24 := hd.2.1
  have m0 : σM 1 0 = nI (dP d) := c3.1
  unfold fX6_wouldClose fX7_wouldClose
  simp only [pz_n11, pz_n15, pz_n0, pz_n1, pz_neg]
  rcases pz_ask a (n := dP d) (by omega) with ⟨h1, h2⟩ | ⟨p, hp, rfl⟩
  · rw [pz_hasPier0 (h := 0) c2.1 h1, pm_isPier0 m0 h2, pz_bd, pz_bd, if_pos rfl, if_pos rfl]
    exact ⟨_, _, _, rfl, rfl, hR0⟩
  have x35 : σX 35 p = bI (dop d p) := c2.2.2.2.2.2.1 p hp
  rw [pz_hasPier1 (h := 0) c2.1 (by omega) hp, pm_isPier1 m0 (by omega) hp, pz_bd, pz_bd, if_neg pz_10, if_neg pz_10, pm_isOpen hd c3 hp, pz_bd, pz_gd (by omega) (by omega), pz_cl (by omega), x35]
  cases hop : dop d p with
  | false =>
    rw [if_pos (show bI false = nI 0 from rfl), if_pos (show bI false = nI 0 from rfl)]
    exact ⟨_, _, _, rfl, rfl, hR0⟩
  | true =>
    rw [if_neg (show ¬ bI true = nI 0 from pz_10), if_neg (show ¬ bI true = nI 0 from pz_10)]
    have hd' : dOk (dSetO d p false) := ⟨hd.1, hd.2.1, hd.2.2.1, hd.2.2.2.1, hd.2.2.2.2⟩
    obtain ⟨τ, s1, s2, s3⟩ := suppose_ok hd c2 hp
    rw [s1, pz_bd, pz_unlike (h := 0) (cx := 1) hd hd hd' (c2.congr (fun k x1 x2 => s3 k (by omega))) rfl (fun _ _ => rfl) s2.1 (fun j hj => by rw [s3 8 (by omega)]; exact (c6.1 j hj).1), pz_bd]
    obtain ⟨t2, q5, q6, q7, q8⟩ := looks_ok hd c3
    have e21 : t2 1 = σM 1 := q8 1 (by omega) (by omega) (by omega)
    rw [q5, pz_bd]
    simp (disch := omega) only [pz_n4, pz_n2, pk_mul, nI_add, pz_gd, pz_cl, pz_nm_]
    have HM : MH ((su t2 1 (4 + 2 * p + 1) (nI 0)) 1) (dSetO d p false) := by
      rw [pz_su_w, e21]
      exact MH_setO c3 hd hp false
    obtain ⟨t4, q9, q10, q11⟩ := moved_ok (σ := su t2 1 (4 + 2 * p + 1) (nI 0)) hd hd' HM rfl (fun _ _ => rfl) (fun i hi => by rw [pz_su_r _ _ (by omega)]; exact q7 i hi)
    rw [q9, pz_bd]
    dsimp only
    refine ⟨_, _, _, rfl, rfl, hR0.scratch s3 (fun j hj => ?_) ?_ ?_ (fun j _ _ _ _ => ?_)⟩
    · have e41 : t4 1 = upd (σM 1) (4 + 2 * p + 1) (nI 0) := by rw [q11 1 (by omega) (by omega), pz_su_w, e21]
      rw [pz_su_w, e41]
      by_cases e : j = 4 + 2 * p + 1
      · rw [e, pk_us]
        have := c3.2.2.2.2.2.1 p hp
        rw [hop] at this
        exact this.symm
      · rw [pk_un e, pk_un e]
    · rw [pz_su_r _ _ (by omega), q11 13 (by omega) (by omega), pz_su_r _ _ (by omega), q8 13 (by omega) (by omega) (by omega)]
    · rw [pz_su_r _ _ (by omega), q11 15 (by omega) (by omega), pz_su_r _ _ (by omega), q8 15 (by omega) (by omega) (by omega)]
    · rw [pz_su_r _ _ (by omega), q11 0 (by omega) (by omega), pz_su_r _ _ (by omega), q8 0 (by omega) (by omega) (by omega)]
def byD (d : HD) (p : Nat) : Int32 := nI (htD d (dB d) p) - nI (roomD d p)
def ahB (d : HD) (p o : Nat) : Bool := if byD d p = byD d o then (if dbe d p = dbe d o then decide (p < o) else decide (dbe d p < dbe d o)) else !decide (byD d p ≤ byD d o)
theorem pz_isHotter {σ : St} {d : HD} (hd : dOk d) (H : XH 0 σ d) (hm : moorX σ d (dB d)) {p o : Nat} (hp : p < dP d) (ho : o < dP d) : fX6_isHotter σ (nI p) (nI o) = some (bI (ahB d p o)) := by
  have h8 := hd.1
  have b1 := hd.2.2.2.1 p hp
  have b2 := hd.2.2.2.1 o ho
  have e1 : σ 34 p = nI (dbe d p) := H.2.2.2.2.1 p hp
  have e2 : σ 34 o = nI (dbe d o) := H.2.2.2.2.1 o ho
  unfold fX6_isHotter ahB
  rw [pz_beyond hd H hm hp, pz_bd, pz_beyond hd H hm ho, pz_bd, pz_bd, pz_bd]
  simp (disch := omega) only [pz_gd, pz_cl, e1, e2, nI_eq]
  show (if byD d p = byD d o then _ else if byD d p ≤ byD d o then _ else _) = _
  by_cases h1 : byD d p = byD d o
  · rw [if_pos h1, if_pos h1]
    by_cases h2 : dbe d p = dbe d o
    · rw [if_pos h2, if_pos h2]
      by_cases h3 : o ≤ p
      · rw [if_pos (nI_le h3 (by omega)), decide_eq_false (by omega)]; rfl
      · rw [if_neg (nI_ge (by omega) (by omega)), decide_eq_true (by omega)]; rfl
    · rw [if_neg h2, if_neg h2]
      by_cases h3 : dbe d o ≤ dbe d p
      · rw [if_pos (nI_le h3 (by omega)), decide_eq_false (by omega)]; rfl
      · rw [if_neg (nI_ge (by omega) (by omega)), decide_eq_true (by omega)]; rfl
  · rw [if_neg h1, if_neg h1]
    by_cases h3 : byD d p ≤ byD d o
    · rw [if_pos h3, decide_eq_true h3]; rfl
    · rw [if_neg h3, decide_eq_false h3]; rfl
theorem pm_beyond {σ : St} {d : HD} (hd : dOk d) (H : MH (σ 1) d) (hr : ringM σ d) {p : Nat} (hp : p < dP d) : fX7_beyond σ (nI p) = some (byD d p) := by
  unfold fX7_beyond byD
  rw [pz_n1, pm_ofHome1 hd H hr hp, pz_bd, pm_room hd H hp, pz_bd]
theorem pm_isAhead {σ : St} {d : HD} (hd : dOk d) (H : MH (σ 1) d) (hr : ringM σ d) {p o : Nat} (hp : p < dP d) (ho : o < dP d) : fX7_isAhead σ (nI p) (nI o) = some (bI (ahB d p o)) := by
  have h8 := hd.1
  have b1 := hd.2.2.2.1 p hp
  have b2 := hd.2.2.2.1 o ho
  unfold fX7_isAhead ahB
  rw [pm_beyond hd H hr hp, pz_bd, pm_beyond hd H hr ho, pz_bd, pz_bd, pz_bd, pz_n0, pm_p0 hd H hp, pz_bd, pm_p0 hd H ho, pz_bd, pz_bd, pz_bd]
  simp (disch := omega) only [nI_eq]
  by_cases h1 : byD d p = byD d o
  · rw [if_pos h1, if_pos h1]
    by_cases h2 : dbe d p = dbe d o
    · rw [if_neg (by rw [h2]; exact nI_nlt (Nat.le_refl _) (by omega)), if_pos h2, if_pos h2]
      by_cases h3 : o ≤ p
      · rw [if_pos (nI_le h3 (by omega)), decide_eq_false (by omega)]; rfl
      · rw [if_neg (nI_ge (by omega) (by omega)), decide_eq_true (by omega)]; rfl
    · rw [if_neg h2, if_neg h2]
      by_cases h3 : dbe d p < dbe d o
      · rw [if_pos (nI_lt h3 (by omega)), decide_eq_true h3]; rfl
      · rw [if_neg (nI_nlt (by omega) (by omega)), decide_eq_false h3]; rfl
  · rw [if_neg h1, if_neg h1]
    by_cases h3 : byD d p ≤ byD d o
    · rw [if_pos h3, decide_eq_true h3]; rfl
    · rw [if_neg h3, decide_eq_false h3]; rfl
def naD (d : HD) (k : Nat) : Nat := sumTo (fun j => if ahB d j k = true then 1 else 0) (dP d)
def hotR (d : HD) (a : Int32) : Int32 := match fh (fun k => decide (nI (naD d k) = a)) (dP d) 0 with
  | none => mI 11
  | some k => nI k
theorem hotR_none {d : HD} {a : Int32} (h : ∀ j, j < dP d → ¬ nI (naD d j) = a) : hotR d a = mI 11 := by
  unfold hotR
  rw [fh_none.mpr (fun j _ hj => by simpa using h j (by omega))]
theorem hotR_some {d : HD} {a : Int32} {k : Nat} (hk : k < dP d) (h1 : nI (naD d k) = a) (h : ∀ j, j < k → ¬ nI (naD d j) = a) : hotR d a = nI k := by
  unfold hotR
  have : fh (fun k => decide (nI (naD d k) = a)) (dP d) 0 = some k := by
    rw [fh_some]
    exact ⟨Nat.zero_le _, by omega, by simpa using h1, fun j _ hj => by simpa using h j hj⟩
  rw [this]
theorem pz_hottest {σ : St} {d : HD} (hd : dOk d) (H : XH 0 σ d) (hm : moorX σ d (dB d)) (a : Int32) : fX6_hottest σ a = some (hotR d a) := by
  have h8 := hd.1
  have x4 : σ 33 4 = nI (dP d) := H.1
  unfold fX6_hottest
  rw [pz_n0]
  refine pz_loop (F := fun m (_ : Unit) k => fX6_hottest_L2 σ a (fX6_hottest_B62 σ) m (nI k)) (P := fun o => o = some (hotR d a)) (fun k _ => ∀ j, j < k → ¬ nI (naD d j) = a) (dP d) ?_ ?_ (dP d) 0 () 1000 (by omega) (by omega) (fun j h => absurd h (Nat.not_lt_zero _))
  · intro n _ h1
    show fX6_hottest_L2 σ a _ (n + 1) (nI (dP d)) = _
    rw [fX6_hottest_L2, x4, if_pos (nI_le (Nat.le_refl _) (by omega)), hotR_none h1]
    unfold fX6_hottest_B62
    rw [pz_n11, pz_neg]
  · intro n k _ hk h1
    show fX6_hottest_L2 σ a _ (n + 1) (nI k) = _ ∨ ∃ b', _ ∧ fX6_hottest_L2 σ a _ (n + 1) (nI k) = fX6_hottest_L2 σ a _ n (nI (k + 1))
    rw [fX6_hottest_L2, x4, if_neg (nI_ge hk (by omega)), pz_n0]
    have hL := sum_loop (F := fun m x i => fX6_hottest_L18 σ (nI k) (fun y3 => fX6_hottest_B49 (fX6_hottest_L2 σ a (fX6_hottest_B62 σ) n) (fX6_hottest_B62 σ) σ a (nI k) y3) m x i) (f := fun j => if ahB d j k = true then 1 else 0) (N := dP d) (K := fun y3 => fX6_hottest_B49 (fX6_hottest_L2 σ a (fX6_hottest_B62 σ) n) (fX6_hottest_B62 σ) σ a (nI k) y3) (by omega) (fun n' => by
        show fX6_hottest_L18 σ (nI k) _ (n' + 1) _ _ = _
        rw [fX6_hottest_L18, x4, if_pos (nI_le (Nat.le_refl _) (by omega))]) (fun n' i hi => by
        show fX6_hottest_L18 σ (nI k) _ (n' + 1) _ _ = _
        rw [fX6_hottest_L18, x4, if_neg (nI_ge hi (by omega)), pz_isHotter hd H hm hi hk, pz_bd]
        simp only [pz_nm_, pz_n0, pz_n1, nI_add]
        cases ahB d i k with
        | true => rw [if_neg (show ¬ bI true = nI 0 from pz_10)]; rfl
        | false => rw [if_pos (show bI false = nI 0 from rfl)]; rfl)
    have hL2 : fX6_hottest_L18 σ (nI k) (fun y3 => fX6_hottest_B49 (fX6_hottest_L2 σ a (fX6_hottest_B62 σ) n) (fX6_hottest_B62 σ) σ a (nI k) y3) 1000 (nI 0) (nI 0) = fX6_hottest_B49 (fX6_hottest_L2 σ a (fX6_hottest_B62 σ) n) (fX6_hottest_B62 σ) σ a (nI k) (nI (naD d k)) := hL
    rw [hL2]
    unfold fX6_hottest_B49
    by_cases e : nI (naD d k) = a
    · left
      rw [if_pos e, hotR_some hk e h1]
    · right
      rw [if_neg e, pz_nm_, pz_n1, nI_add]
      refine ⟨(), fun j hj => ?_, rfl⟩
      by_cases e3 : j = k
      · rw [e3]; exact e
      · exact h1 j (by omega)
theorem pm_hottest {σ : St} {d : HD} (hd : dOk d) (H : MH (σ 1) d) (hr : ringM σ d) (a : Int32) : fX7_hottest_L6 a (fun σ => fX7_hottest_B69 σ) 1000 σ (nI 0) = some (hotR d a, σ) := by
  have h8 := hd.1
  refine pz_loop (F := fun m (_ : Unit) k => fX7_hottest_L6 a (fun σ => fX7_hottest_B69 σ) m σ (nI k)) (P := fun o => o = some (hotR d a, σ)) (fun k _ => ∀ j, j < k → ¬ nI (naD d j) = a) (dP d) ?_ ?_ (dP d) 0 () 1000 (by omega) (by omega) (fun j h => absurd h (Nat.not_lt_zero _))
  · intro n _ h1
    show fX7_hottest_L6 a _ (n + 1) σ (nI (dP d)) = _
    rw [fX7_hottest_L6, pz_n0, pz_cl (by omega), H.1, if_pos (nI_le (Nat.le_refl _) (by omega)), hotR_none h1]
    show fX7_hottest_B69 σ = _
    unfold fX7_hottest_B69
    rw [pz_n11, pz_neg]
  · intro n k _ hk h1
    show fX7_hottest_L6 a _ (n + 1) σ (nI k) = _ ∨ ∃ b', _ ∧ fX7_hottest_L6 a _ (n + 1) σ (nI k) = fX7_hottest_L6 a _ n σ (nI (k + 1))
    rw [fX7_hottest_L6, pz_n0, pz_cl (by omega), H.1, if_neg (nI_ge hk (by omega))]
    have hL2 : fX7_hottest_L21 (nI k) (fun σ y3 => fX7_hottest_B56 (fX7_hottest_L6 a (fun σ => fX7_hottest_B69 σ) n) (fun σ => fX7_hottest_B69 σ) σ a (nI k) y3) 1000 σ (nI 0) (nI 0) = fX7_hottest_B56 (fX7_hottest_L6 a (fun σ => fX7_hottest_B69 σ) n) (fun σ => fX7_hottest_B69 σ) σ a (nI k) (nI (naD d k)) := by
      show fX7_hottest_L21 (nI k) _ 1000 σ (nI (sumTo (fun j => if ahB d j k = true then 1 else 0) 0)) (nI 0) = _
      refine pz_loop (F := fun m (_ : Unit) i => fX7_hottest_L21 (nI k) (fun σ y3 => fX7_hottest_B56 (fX7_hottest_L6 a (fun σ => fX7_hottest_B69 σ) n) (fun σ => fX7_hottest_B69 σ) σ a (nI k) y3) m σ (nI (sumTo (fun j => if ahB d j k = true then 1 else 0) i)) (nI i)) (P := fun o => o = fX7_hottest_B56 (fX7_hottest_L6 a (fun σ => fX7_hottest_B69 σ) n) (fun σ => fX7_hottest_B69 σ) σ a (nI k) (nI (naD d k))) (fun _ _ => True) (dP d) ?_ ?_ (dP d) 0 () 1000 (by omega) (by omega) trivial
      · intro n' _ _
        show fX7_hottest_L21 (nI k) _ (n' + 1) σ (nI (naD d k)) (nI (dP d)) = _
        rw [fX7_hottest_L21, pz_n0, pz_cl (by omega), H.1, if_pos (nI_le (Nat.le_refl _) (by omega))]
      · intro n' i _ hi _
        right
        refine ⟨(), trivial, ?_⟩
        show fX7_hottest_L21 (nI k) _ (n' + 1) σ (nI (sumTo (fun j => if ahB d j k = true then 1 else 0) i)) (nI i) = fX7_hottest_L21 (nI k) _ n' σ (nI (sumTo (fun j => if ahB d j k = true then 1 else 0) i + if ahB d i k = true then 1 else 0)) (nI (i + 1))
        rw [fX7_hottest_L21, pz_n0, pz_cl (by omega), H.1, if_neg (nI_ge hi (by omega)), pm_isAhead hd H hr hi hk, pz_bd]
        simp only [pz_nm_, pz_n1, nI_add]
        cases ahB d i k with
        | true => rw [if_neg (show ¬ bI true = nI 0 from pz_10)]; rfl
        | false => rw [if_pos (show bI false = nI 0 from rfl)]; rfl
    rw [hL2]
    unfold fX7_hottest_B56
    by_cases e : nI (naD d k) = a
    · left
      rw [if_pos e, hotR_some hk e h1]
    · right
      rw [if_neg e, pz_nm_, pz_n1, nI_add]
      refine ⟨(), fun j hj => ?_, rfl⟩
      by_cases e3 : j = k
      · rw [e3]; exact e
      · exact h1 j (by omega)
theorem sm_hottest {σX σM : St} (hR : allR σX σM) (a : Int32) : ∃ r σM', fX6_hottest σX a = some r ∧ fX7_hottest σM a = some (r, σM') ∧ allR σX σM' := by
  have hR0 := hR
  obtain ⟨⟨d, ⟨hd, c2, c3, c4⟩, c5, c6⟩, -⟩ := hR
  obtain ⟨τ, y1, y2, y3⟩ := laysRing_ok hd c3
  refine ⟨hotR d a, τ, pz_hottest hd c2 c6 a, ?_, hR0.ringed (fun k h1 h2 _ _ _ => y3 k h1 h2)⟩
  unfold fX7_hottest
  rw [y1, pz_bd, pz_n0]
  exact pm_hottest hd (by rw [y3 1 (by omega) (by omega)]; exact c3) y2 a
