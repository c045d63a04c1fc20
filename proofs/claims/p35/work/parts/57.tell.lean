/-! Pure rows: tell and tellBarge. -/
theorem allR.lined {σX σM σX' σM' : St} {l : List Nat} (H : allR σX σM) (hx : frP σX σX') (hm : ∀ a, a ≠ 0 → a ≠ 2 → a ≠ 3 → a ≠ 5 → a ≠ 6 → a ≠ 7 → a ≠ 15 → σM' a = σM a) (h0 : ∀ j, j ≠ 24 → σM' 0 j = σM 0 j) (l1 : lnX σX' l) (l2 : lnM σM' l) (l3 : l.length ≤ 80) (l4 : ∀ c ∈ l, c < 128) : allR σX' σM' := by
  obtain ⟨⟨d, a1⟩, a2, ⟨k, nx, a3⟩, a4, a5, a6⟩ := H
  have x0 : σX' 0 = σX 0 := hx 0 (by omega) (by omega)
  have m1 : σM' 1 = σM 1 := hm 1 (by omega) (by omega) (by omega) (by omega) (by omega) (by omega) (by omega)
  refine ⟨⟨d, a1.congr (fun a _ _ => hx a (by omega) (by omega)) (fun a _ _ => hx a (by omega) (by omega)) (fun j _ => by rw [m1])⟩, a2.congr (by rw [x0]) (by rw [x0]) (h0 3 (by omega)) (h0 4 (by omega)), ⟨k, nx, a3.congr (hx 1 (by omega) (by omega)) (h0 1 (by omega)) (fun a ha => hx a (by omega) (by omega)) (fun j _ _ => by rw [m1])⟩, a4.congr (by rw [x0]) (h0 2 (by omega)) (fun a _ _ => hx a (by omega) (by omega)) (fun j _ _ => by rw [m1]), a5.congr (by rw [hx 3 (by omega) (by omega)]) (h0 18 (by omega)) (hx 4 (by omega) (by omega)) (hm 13 (by omega) (by omega) (by omega) (by omega) (by omega) (by omega) (by omega)), ⟨l.length, l3, l1.1, l2.1, fun i hi => ⟨l.getD i 0, ?_, l1.2 i hi, l2.2 i hi⟩⟩⟩
  rw [List.getD_eq_getElem?_getD, List.getElem?_eq_getElem hi]
  exact l4 _ (List.getElem_mem hi)
theorem empty_ok (σ : St) : ∃ σ', fX3_empty σ = some σ' ∧ lnX σ' [] ∧ frP σ σ' := by
  unfold fX3_empty
  rw [pz_nm_, pz_n0]
  exact ⟨_, rfl, ⟨pz_su_s _ _ _ _, fun i hi => absurd hi (Nat.not_lt_zero _)⟩, fun a h1 h2 => pz_su_r _ _ h1⟩
def tlD (d : HD) (p : Nat) : Nat → List Nat
  | 0 => []
  | i + 1 => tlD d p i ++ (if lieD d i = some p then (if tlD d p i = [] then [] else [44]) ++ dg i else [])
theorem tlD_len (d : HD) (p : Nat) : ∀ i, i ≤ 24 → (tlD d p i).length ≤ 3 * i := by
  intro i
  induction i with
  | zero => intro _; exact Nat.le_refl _
  | succ i ih =>
    intro hi
    have h1 := ih (by omega)
    have h2 := dg_len2 (n := i) (by omega)
    show (tlD d p i ++ (if lieD d i = some p then (if tlD d p i = [] then [] else [44]) ++ dg i else [])).length ≤ _
    rw [List.length_append]
    by_cases e : lieD d i = some p
    · rw [if_pos e, List.length_append]
      by_cases e2 : tlD d p i = []
      · rw [if_pos e2]
        have : ([] : List Nat).length = 0 := rfl
        omega
      · rw [if_neg e2]
        have : [44].length = 1 := rfl
        omega
    · rw [if_neg e]
      have : ([] : List Nat).length = 0 := rfl
      omega
theorem tlD_lt (d : HD) (p : Nat) : ∀ i, i ≤ 24 → ∀ c ∈ tlD d p i, c < 128 := by
  intro i
  induction i with
  | zero => intro _ c hc; cases hc
  | succ i ih =>
    intro hi c hc
    have hc2 : c ∈ tlD d p i ++ (if lieD d i = some p then (if tlD d p i = [] then [] else [44]) ++ dg i else []) := hc
    rw [List.mem_append] at hc2
    rcases hc2 with hc2 | hc2
    · exact ih (by omega) c hc2
    · by_cases e : lieD d i = some p
      · rw [if_pos e, List.mem_append] at hc2
        rcases hc2 with hc2 | hc2
        · by_cases e2 : tlD d p i = []
          · rw [if_pos e2] at hc2; cases hc2
          · rw [if_neg e2] at hc2
            simp at hc2
            omega
        · exact dg_lt (by omega) c hc2
      · rw [if_neg e] at hc2; cases hc2
def flD (d : HD) (p i : Nat) : Int32 := if tlD d p i = [] then nI 1 else nI 0
theorem oX_l {d : HD} (hd : dOk d) {b p : Nat} (hp : p < 2 ^ 31) : oX (lieD d b) = nI p ↔ lieD d b = some p := by
  have h8 := hd.1
  cases e : lieD d b with
  | none => exact ⟨fun h => absurd h (pz_mn hp (by omega) (by omega)), fun h => by cases h⟩
  | some p' =>
    have := lieD_lt e
    show nI p' = nI p ↔ _
    rw [nI_eq (by omega) hp]
    exact ⟨fun h => by rw [h], fun h => Option.some.inj h⟩
theorem dg_ne (n : Nat) : dg n ≠ [] := by
  unfold dg
  split
  · simp
  · split
    · simp
    · split <;> simp
theorem e44 : (44 : Int32) = nI 44 := by decide
theorem e58 : (58 : Int32) = nI 58 := by decide
theorem e42 : (42 : Int32) = nI 42 := by decide
theorem e120 : (120 : Int32) = nI 120 := by decide
theorem flD_s {d : HD} {p i : Nat} : flD d p (i + 1) = if lieD d i = some p then nI 0 else flD d p i := by
  unfold flD
  have h : tlD d p (i + 1) = tlD d p i ++ (if lieD d i = some p then (if tlD d p i = [] then [] else [44]) ++ dg i else []) := rfl
  rw [h]
  by_cases e : lieD d i = some p
  · rw [if_pos e, if_pos e, if_neg]
    intro h2
    have := dg_ne i
    simp at h2
    exact this h2.2
  · rw [if_neg e, if_neg e, List.append_nil]
theorem tellX_loop {σ : St} {d : HD} {p : Nat} {hl : List Nat} (hd : dOk d) (H : XH 0 σ d) (hm : moorX σ d (dB d)) (hp : p < dP d) (hh : hl.length ≤ 5) (h0 : lnX σ hl) :
    ∃ σ', fX6_tell_L88 (nI p) (fun σ => fX6_tell_B141 σ) 1000 σ (nI 1) (nI 0) = some (nI (hl ++ tlD d p (dB d)).length, σ') ∧ lnX σ' (hl ++ tlD d p (dB d)) ∧ frP σ σ' := by
  have h24 := hd.2.1
  have h8 := hd.1
  show ∃ σ', fX6_tell_L88 (nI p) (fun σ => fX6_tell_B141 σ) 1000 σ (flD d p 0) (nI 0) = _ ∧ _
  refine pz_loop (F := fun m τ i => fX6_tell_L88 (nI p) (fun σ => fX6_tell_B141 σ) m τ (flD d p i) (nI i)) (P := fun o => ∃ σ', o = some (nI (hl ++ tlD d p (dB d)).length, σ') ∧ lnX σ' (hl ++ tlD d p (dB d)) ∧ frP σ σ') (fun i τ => lnX τ (hl ++ tlD d p i) ∧ frP σ τ) (dB d) ?_ ?_ (dB d) 0 σ 1000 (by omega) (by omega) ⟨by rw [show tlD d p 0 = [] from rfl, List.append_nil]; exact h0, fun _ _ _ => rfl⟩
  · intro n τ ⟨a1, a2⟩
    refine ⟨τ, ?_, a1, a2⟩
    show fX6_tell_L88 (nI p) _ (n + 1) τ _ (nI (dB d)) = _
    rw [fX6_tell_L88, a2 33 (by omega) (by omega), show σ 33 5 = nI (dB d) from H.2.1, if_pos (nI_le (Nat.le_refl _) (by omega))]
    unfold fX6_tell_B141
    rw [a1.1]
  · intro n i τ hi ⟨a1, a2⟩
    right
    show ∃ b', _ ∧ fX6_tell_L88 (nI p) _ (n + 1) τ (flD d p i) (nI i) = fX6_tell_L88 (nI p) _ n b' (flD d p (i + 1)) (nI (i + 1))
    have e9 : τ 9 i = oX (lieD d i) := by rw [a2 9 (by omega) (by omega)]; exact (hm.1 i hi).2.1
    have hlen := tlD_len d p i (by omega)
    have hts : tlD d p (i + 1) = tlD d p i ++ (if lieD d i = some p then (if tlD d p i = [] then [] else [44]) ++ dg i else []) := rfl
    rw [fX6_tell_L88, a2 33 (by omega) (by omega), show σ 33 5 = nI (dB d) from H.2.1, if_neg (nI_ge hi (by omega)), pz_gd (by omega) (by omega), pz_cl (by omega), e9, flD_s, hts]
    by_cases e : lieD d i = some p
    · rw [if_pos ((oX_l hd (by omega)).mpr e), if_pos e, if_pos e]
      unfold flD
      by_cases e2 : tlD d p i = []
      · rw [if_pos e2, if_pos e2, pz_n0, if_neg pz_10]
        obtain ⟨τ1, b1, b2, b3⟩ := putNumber_ok (n := i) (by omega) a1 (by rw [List.length_append]; omega)
        rw [b1, pz_bd, pz_nm_, pz_n1, nI_add]
        exact ⟨τ1, ⟨by rw [List.nil_append, ← List.append_assoc]; exact b2, a2.trans b3⟩, rfl⟩
      · rw [if_neg e2, if_neg e2, pz_n0, if_pos rfl, e44]
        obtain ⟨τ1, b1, b2, b3⟩ := put_ok (c := 44) a1 (by rw [List.length_append]; omega) (by omega)
        obtain ⟨τ2, c1, c2, c3⟩ := putNumber_ok (n := i) (by omega) b2 (by rw [List.length_append, List.length_append]; have : [44].length = 1 := rfl; omega)
        rw [b1, pz_bd, c1, pz_bd, pz_nm_, pz_n1, nI_add]
        refine ⟨τ2, ⟨?_, (a2.trans b3).trans c3⟩, rfl⟩
        rw [← List.append_assoc, ← List.append_assoc]
        exact c2
    · rw [if_neg (fun h => e ((oX_l hd (by omega)).mp h)), if_neg e, if_neg e, pz_nm_, pz_n1, nI_add, List.append_nil]
      exact ⟨τ, ⟨a1, a2⟩, rfl⟩
theorem tellM_loop {σ : St} {d : HD} {p : Nat} {hl : List Nat} (hd : dOk d) (H : MH (σ 1) d) (hm : laidM σ d) (hp : p < dP d) (hh : hl.length ≤ 5) (h0 : lnM σ hl) :
    ∃ σ', fX7_tell_L65 (nI p) (fun σ => fX7_tell_B111 σ) 1000 σ (nI 1) (nI 0) = some (nI (hl ++ tlD d p (dB d)).length, σ') ∧ lnM σ' (hl ++ tlD d p (dB d)) ∧ frL σ σ' := by
  have h24 := hd.2.1
  have h8 := hd.1
  show ∃ σ', fX7_tell_L65 (nI p) (fun σ => fX7_tell_B111 σ) 1000 σ (flD d p 0) (nI 0) = _ ∧ _
  refine pz_loop (F := fun m τ i => fX7_tell_L65 (nI p) (fun σ => fX7_tell_B111 σ) m τ (flD d p i) (nI i)) (P := fun o => ∃ σ', o = some (nI (hl ++ tlD d p (dB d)).length, σ') ∧ lnM σ' (hl ++ tlD d p (dB d)) ∧ frL σ σ') (fun i τ => lnM τ (hl ++ tlD d p i) ∧ frL σ τ) (dB d) ?_ ?_ (dB d) 0 σ 1000 (by omega) (by omega) ⟨by rw [show tlD d p 0 = [] from rfl, List.append_nil]; exact h0, frL.refl _⟩
  · intro n τ ⟨a1, a2⟩
    refine ⟨τ, ?_, a1, a2⟩
    show fX7_tell_L65 (nI p) _ (n + 1) τ _ (nI (dB d)) = _
    rw [fX7_tell_L65, pz_n1, pz_cl (by omega), a2.1 1 (by omega) (by omega), H.2.1, if_pos (nI_le (Nat.le_refl _) (by omega))]
    unfold fX7_tell_B111
    rw [a1.1]
  · intro n i τ hi ⟨a1, a2⟩
    right
    show ∃ b', _ ∧ fX7_tell_L65 (nI p) _ (n + 1) τ (flD d p i) (nI i) = fX7_tell_L65 (nI p) _ n b' (flD d p (i + 1)) (nI (i + 1))
    have e9 : τ 5 i = oM (lieD d i) := by rw [a2.1 5 (by omega) (by omega)]; exact (hm.2.1 i hi).1
    have hlen := tlD_len d p i (by omega)
    have hts : tlD d p (i + 1) = tlD d p i ++ (if lieD d i = some p then (if tlD d p i = [] then [] else [44]) ++ dg i else []) := rfl
    rw [fX7_tell_L65, pz_n1, pz_cl (by omega), a2.1 1 (by omega) (by omega), H.2.1, if_neg (nI_ge hi (by omega)), pz_gd (by omega) (by omega), pz_cl (by omega), e9, flD_s, hts]
    by_cases e : lieD d i = some p
    · rw [if_pos ((oM_l hd (by omega)).mpr e), if_pos e, if_pos e]
      unfold flD
      by_cases e2 : tlD d p i = []
      · rw [if_pos e2, if_pos e2, pz_n0, if_neg pz_10]
        obtain ⟨τ1, b1, b2, b3⟩ := writesNumber_ok (n := i) (by omega) a1 (by rw [List.length_append]; omega)
        rw [b1, pz_bd, pz_nm_, nI_add]
        exact ⟨τ1, ⟨by rw [List.nil_append, ← List.append_assoc]; exact b2, a2.trans b3⟩, rfl⟩
      · rw [if_neg e2, if_neg e2, pz_n0, if_pos rfl, e44]
        obtain ⟨τ1, b1, b2, b3⟩ := writes_ok (c := 44) a1 (by rw [List.length_append]; omega)
        obtain ⟨τ2, c1, c2, c3⟩ := writesNumber_ok (n := i) (by omega) b2 (by rw [List.length_append, List.length_append]; have : [44].length = 1 := rfl; omega)
        rw [b1, pz_bd, c1, pz_bd, pz_nm_, nI_add]
        refine ⟨τ2, ⟨?_, (a2.trans b3).trans c3⟩, rfl⟩
        rw [← List.append_assoc, ← List.append_assoc]
        exact c2
    · rw [if_neg (fun h => e ((oM_l hd (by omega)).mp h)), if_neg e, if_neg e, pz_nm_, nI_add, List.append_nil]
      exact ⟨τ, ⟨a1, a2⟩, rfl⟩
theorem sm_tell {σX σM : St} (hR : allR σX σM) (a : Int32) : ∃ r σX' σM', fX6_tell σX a = some (r, σX') ∧ fX7_tell σM a = some (r, σM') ∧ allR σX' σM' := by
  have hR0 := hR
  obtain ⟨⟨d, ⟨hd, c2, c3, c4⟩, c5, c6⟩, -⟩ := hR
  have h8 := hd.1
  have h24 := hd.2.1
  have m0 : σM 1 0 = nI (dP d) := c3.1
  unfold fX6_tell fX7_tell
  simp only [pz_n11, pz_n0, pz_n1, pz_neg, e42, e120]
  rcases pz_ask a (n := dP d) (by omega) with ⟨h1, h2⟩ | ⟨p, hp, rfl⟩
  · rw [pz_hasPier0 (h := 0) c2.1 h1, pm_isPier0 m0 h2, pz_bd, pz_bd, if_pos rfl, if_pos rfl]
    exact ⟨_, _, _, rfl, rfl, hR0⟩
  have hbe := hd.2.2.2.1 p hp
  rw [pz_hasPier1 (h := 0) c2.1 (by omega) hp, pm_isPier1 m0 (by omega) hp, pz_bd, pz_bd, if_neg pz_10, if_neg pz_10]
  -- the class
  obtain ⟨x1, p1, p2, p3⟩ := empty_ok σX
  obtain ⟨x2, p4, p5, p6⟩ := putNumber_ok (n := p) (by omega) p2 (by simp)
  have L1 := dg_len1 (n := p) (by omega)
  have L2 := dg_len1 (n := dbe d p) (by omega)
  obtain ⟨x3, p7, p8, p9⟩ := put_ok (c := 42) p5 (by simp [L1]) (by omega)
  have f3 : frP σX x3 := (p3.trans p6).trans p9
  have e34 : x3 34 p = nI (dbe d p) := by rw [f3 34 (by omega) (by omega)]; exact c2.2.2.2.2.1 p hp
  obtain ⟨x4, p10, p11, p12⟩ := putNumber_ok (n := dbe d p) (by omega) p8 (by simp [L1])
  have f4 : frP σX x4 := f3.trans p12
  have e35 : x4 35 p = bI (dop d p) := by rw [f4 35 (by omega) (by omega)]; exact c2.2.2.2.2.2.1 p hp
  rw [p1, pz_bd, p4, pz_bd, p7, pz_bd, pz_gd (by omega) (by omega), pz_cl (by omega), e34, p10, pz_bd, pz_gd (by omega) (by omega), e35]
  -- the model
  obtain ⟨y0, q1, q2, q3⟩ := lays_ok hd c3
  have l0 : lnM (su y0 0 24 (nI 0)) [] := ⟨pz_su_s _ _ _ _, fun i hi => absurd hi (Nat.not_lt_zero _)⟩
  have g0 : frL y0 (su y0 0 24 (nI 0)) := ⟨fun a h _ => pz_su_r _ _ h, fun j hj => pz_su_n _ _ (by omega)⟩
  obtain ⟨y1, r1, r2, r3⟩ := writesNumber_ok (n := p) (by omega) l0 (by simp)
  obtain ⟨y2, r4, r5, r6⟩ := writes_ok (c := 42) r2 (by simp [L1])
  have g2 : frL y0 y2 := (g0.trans r3).trans r6
  have HM2 : MH (y2 1) d := by rw [g2.1 1 (by omega) (by omega), q3 1 (by omega) (by omega) (by omega) (by omega) (by omega)]; exact c3
  obtain ⟨y3, r7, r8, r9⟩ := writesNumber_ok (n := dbe d p) (by omega) r5 (by simp [L1])
  have g3 : frL y0 y3 := g2.trans r9
  have HM3 : MH (y3 1) d := by rw [g3.1 1 (by omega) (by omega), q3 1 (by omega) (by omega) (by omega) (by omega) (by omega)]; exact c3
  rw [q1, pz_bd, pz_nm_, r1, pz_bd, r4, pz_bd, pm_p0 hd HM2 hp, pz_bd, r7, pz_bd, pm_isOpen hd HM3 hp, pz_bd]
  have fin_ : ∀ (xh yh : St) (hl : List Nat), lnX xh hl → lnM yh hl → hl.length ≤ 4 → (∀ c ∈ hl, c < 128) → frP σX xh → frL y0 yh → ∃ r σX' σM', fX6_tell_B75 xh (nI p) = some (r, σX') ∧ fX7_tell_B55 yh (nI p) = some (r, σM') ∧ allR σX' σM' := by
    intro xh yh hl u1 u2 u3 u4 u5 u6
    unfold fX6_tell_B75 fX7_tell_B55
    obtain ⟨x5, v1, v2, v3⟩ := put_ok (c := 58) u1 (by omega) (by omega)
    obtain ⟨y5, w1, w2, w3⟩ := writes_ok (c := 58) u2 (by omega)
    have f5 : frP σX x5 := u5.trans v3
    have g5 : frL y0 y5 := u6.trans w3
    rw [e58, v1, w1, pz_bd, pz_bd, pz_n1, pz_n0]
    have hlen5 : (hl ++ [58]).length ≤ 5 := by rw [List.length_append]; have : [58].length = 1 := rfl; omega
    obtain ⟨x6, v4, v5, v6⟩ := tellX_loop hd (c2.congr (fun a x1 x2 => f5 a (by omega) (by omega))) (c6.congr (fun a x1 x2 => f5 a (by omega) (by omega))) hp hlen5 v2
    have HM5 : MH (y5 1) d := by rw [g5.1 1 (by omega) (by omega), q3 1 (by omega) (by omega) (by omega) (by omega) (by omega)]; exact c3
    have hlm5 : laidM y5 d := by
      unfold laidM ringM
      rw [g5.1 2 (by omega) (by omega), g5.1 3 (by omega) (by omega), g5.1 5 (by omega) (by omega), g5.1 6 (by omega) (by omega), g5.1 7 (by omega) (by omega)]
      exact q2
    obtain ⟨y6, w4, w5, w6⟩ := tellM_loop hd HM5 hlm5 hp hlen5 w2
    have g6 : frL y0 y6 := g5.trans w6
    have hlt := tlD_len d p (dB d) h24
    refine ⟨_, x6, y6, v4, w4, hR0.lined (f5.trans v6) (fun a h0 h2 h3 h5 h6 h7 h15 => by rw [g6.1 a h0 h15, q3 a h2 h3 h5 h6 h7]) (fun j hj => by rw [g6.2 j hj, q3 0 (by omega) (by omega) (by omega) (by omega) (by omega)]) v5 w5 (by rw [List.length_append]; omega) (fun c hc => ?_)⟩
    rw [List.mem_append, List.mem_append] at hc
    rcases hc with (hc | hc) | hc
    · exact u4 c hc
    · simp at hc; omega
    · exact tlD_lt d p (dB d) h24 c hc
  have hcodes : ∀ c ∈ (([] ++ dg p) ++ [42]) ++ dg (dbe d p), c < 128 := by
    intro c hc
    simp only [List.nil_append, List.mem_append] at hc
    rcases hc with (hc | hc) | hc
    · exact dg_lt (by omega) c hc
    · simp at hc; omega
    · exact dg_lt (by omega) c hc
  cases hop : dop d p with
  | false =>
    rw [if_pos (show bI false = nI 0 from rfl), if_pos (show bI false = nI 0 from rfl)]
    obtain ⟨x5, v1, v2, v3⟩ := put_ok (c := 120) p11 (by simp [L1, L2]) (by omega)
    obtain ⟨y5, w1, w2, w3⟩ := writes_ok (c := 120) r8 (by simp [L1, L2])
    rw [v1, w1, pz_bd, pz_bd]
    exact fin_ x5 y5 _ v2 w2 (by simp [L1, L2]) (fun c hc => by
      rw [List.mem_append] at hc
      rcases hc with hc | hc
      · exact hcodes c hc
      · simp at hc; omega) (f4.trans v3) (g3.trans w3)
  | true =>
    rw [if_neg (show ¬ bI true = nI 0 from pz_10), if_neg (show ¬ bI true = nI 0 from pz_10)]
    exact fin_ x4 y3 _ p11 r8 (by simp [L1, L2]) hcodes f4 g3
theorem sm_tellBarge {σX σM : St} (hR : allR σX σM) (a : Int32) : ∃ r σX' σM', fX6_tellBarge σX a = some (r, σX') ∧ fX7_tellBarge σM a = some (r, σM') ∧ allR σX' σM' := by
  have hR0 := hR
  obtain ⟨⟨d, ⟨hd, c2, c3, c4⟩, c5, c6⟩, -⟩ := hR
  have h8 := hd.1
  have h24 := hd.2.1
  have m1 : σM 1 1 = nI (dB d) := c3.2.1
  have e61 : (61 : Int32) = nI 61 := by decide
  have e64 : (64 : Int32) = nI 64 := by decide
  have e43 : (43 : Int32) = nI 43 := by decide
  have e62 : (62 : Int32) = nI 62 := by decide
  have e45 : (45 : Int32) = nI 45 := by decide
  unfold fX6_tellBarge fX7_tellBarge
  simp only [pz_n11, pz_n15, pz_n0, pz_n1, pz_neg, e61, e64, e43, e62, e45]
  rcases pz_ask a (n := dB d) (by omega) with ⟨h1, h2⟩ | ⟨b, hb, rfl⟩
  · rw [pz_hasBarge0 (h := 0) c2.2.1 h1, pm_isBarge0 m1 h2, pz_bd, pz_bd, if_pos rfl, if_pos rfl]
    exact ⟨_, _, _, rfl, rfl, hR0⟩
  have hna := (hd.2.2.2.2 b hb).1
  have hto := (hd.2.2.2.2 b hb).2
  have hpb := pbD_lt d b
  have K1 := dg_len b
  have K2 := dg_len (dna d b)
  have K3 := dg_len (pbD d b)
  have K4 := dg_len (dto d b)
  rw [pz_hasBarge1 (h := 0) c2.2.1 (by omega) hb, pm_isBarge1 m1 (by omega) hb, pz_bd, pz_bd, if_neg pz_10, if_neg pz_10]
  have one : ∀ c : Nat, [c].length = 1 := fun _ => rfl
  have nil0 : ([] : List Nat).length = 0 := rfl
  -- the class
  obtain ⟨x0, a1, a2, a3⟩ := empty_ok σX
  obtain ⟨x1, b1, b2, b3⟩ := putNumber_ok (n := b) (by omega) a2 (by rw [nil0]; omega)
  obtain ⟨x2, d1, d2, d3⟩ := put_ok (c := 61) b2 (by rw [List.length_append, nil0]; omega) (by omega)
  have f2 : frP σX x2 := (a3.trans b3).trans d3
  have e36 : x2 36 b = nI (dna d b) := by rw [f2 36 (by omega) (by omega)]; exact c2.2.2.2.2.2.2.1 b hb
  obtain ⟨x3, i1, i2, i3⟩ := putNumber_ok (n := dna d b) hna d2 (by rw [List.length_append, List.length_append, nil0, one]; omega)
  obtain ⟨x4, j1, j2, j3⟩ := put_ok (c := 64) i2 (by rw [List.length_append, List.length_append, List.length_append, nil0, one]; omega) (by omega)
  have f4 : frP σX x4 := (f2.trans i3).trans j3
  have H4 : XH 0 x4 d := c2.congr (fun k z1 z2 => f4 k (by omega) (by omega))
  obtain ⟨x5, k1, k2, k3⟩ := putNumber_ok (n := pbD d b) (by omega) j2 (by rw [List.length_append, List.length_append, List.length_append, List.length_append, nil0, one, one]; omega)
  obtain ⟨x6, l1, l2, l3⟩ := put_ok (c := 43) k2 (by rw [List.length_append, List.length_append, List.length_append, List.length_append, List.length_append, nil0, one, one]; omega) (by omega)
  have f6 : frP σX x6 := (f4.trans k3).trans l3
  have e37 : x6 37 b = nI (dto d b) := by rw [f6 37 (by omega) (by omega)]; exact c2.2.2.2.2.2.2.2.1 b hb
  obtain ⟨x7, n1, n2, n3⟩ := putNumber_ok (n := dto d b) (by omega) l2 (by rw [List.length_append, List.length_append, List.length_append, List.length_append, List.length_append, List.length_append, nil0, one, one, one]; omega)
  obtain ⟨x8, o1, o2, o3⟩ := put_ok (c := 62) n2 (by rw [List.length_append, List.length_append, List.length_append, List.length_append, List.length_append, List.length_append, List.length_append, nil0, one, one, one]; omega) (by omega)
  have f8 : frP σX x8 := (f6.trans n3).trans o3
  have e9 : x8 9 b = oX (lieD d b) := by rw [f8 9 (by omega) (by omega)]; exact (c6.1 b hb).2.1
  rw [a1, pz_bd, b1, pz_bd, d1, pz_bd, pz_gd (by omega) (by omega), pz_cl (by omega), e36, i1, pz_bd, j1, pz_bd, pz_pointOf hd H4 hb, pz_bd, k1, pz_bd, l1, pz_bd, pz_gd (by omega) (by omega), e37, n1, pz_bd, o1, pz_bd, pz_gd (by omega) (by omega), e9]
  -- the model
  obtain ⟨y, q1, q2, q3⟩ := lays_ok hd c3
  have ly : lnM (su y 0 24 (nI 0)) [] := ⟨pz_su_s _ _ _ _, fun i hi => absurd hi (Nat.not_lt_zero _)⟩
  have g0 : frL y (su y 0 24 (nI 0)) := ⟨fun a h _ => pz_su_r _ _ h, fun j hj => pz_su_n _ _ (by omega)⟩
  have HMf : ∀ z, frL y z → MH (z 1) d := fun z hz => by rw [hz.1 1 (by omega) (by omega), q3 1 (by omega) (by omega) (by omega) (by omega) (by omega)]; exact c3
  obtain ⟨y1, r1, r2, r3⟩ := writesNumber_ok (n := b) (by omega) ly (by rw [nil0]; omega)
  obtain ⟨y2, s1, s2, s3⟩ := writes_ok (c := 61) r2 (by rw [List.length_append, nil0]; omega)
  have g2 : frL y y2 := (g0.trans r3).trans s3
  obtain ⟨y3, t1, t2, t3⟩ := writesNumber_ok (n := dna d b) hna s2 (by rw [List.length_append, List.length_append, nil0, one]; omega)
  obtain ⟨y4, u1, u2, u3⟩ := writes_ok (c := 64) t2 (by rw [List.length_append, List.length_append, List.length_append, nil0, one]; omega)
  have g4 : frL y y4 := (g2.trans t3).trans u3
  obtain ⟨y5, v1, v2, v3⟩ := writesNumber_ok (n := pbD d b) (by omega) u2 (by rw [List.length_append, List.length_append, List.length_append, List.length_append, nil0, one, one]; omega)
  obtain ⟨y6, w1, w2, w3⟩ := writes_ok (c := 43) v2 (by rw [List.length_append, List.length_append, List.length_append, List.length_append, List.length_append, nil0, one, one]; omega)
  have g6 : frL y y6 := (g4.trans v3).trans w3
  obtain ⟨y7, z1, z2, z3⟩ := writesNumber_ok (n := dto d b) (by omega) w2 (by rw [List.length_append, List.length_append, List.length_append, List.length_append, List.length_append, List.length_append, nil0, one, one, one]; omega)
  obtain ⟨y8, aa1, aa2, aa3⟩ := writes_ok (c := 62) z2 (by rw [List.length_append, List.length_append, List.length_append, List.length_append, List.length_append, List.length_append, List.length_append, nil0, one, one, one]; omega)
  have g8 : frL y y8 := (g6.trans z3).trans aa3
  have o5 : y8 5 b = oM (lieD d b) := by rw [g8.1 5 (by omega) (by omega)]; exact (q2.2.1 b hb).1
  rw [q1, pz_bd, pz_nm_, r1, pz_bd, s1, pz_bd, pm_b0 hd (HMf y2 g2) hb, pz_bd, t1, pz_bd, u1, pz_bd, pm_b0 hd (HMf y4 g4) hb, pz_bd, pm_placeOf hd hb, pz_bd, v1, pz_bd, w1, pz_bd, pm_b1 hd (HMf y6 g6) hb, pz_bd, z1, pz_bd, aa1, pz_bd, o5]
  obtain ⟨hl, ehl⟩ : ∃ hl, hl = [] ++ dg b ++ [61] ++ dg (dna d b) ++ [64] ++ dg (pbD d b) ++ [43] ++ dg (dto d b) ++ [62] := ⟨_, rfl⟩
  rw [← ehl] at o2 aa2
  have hlen : hl.length ≤ 20 := by
    rw [ehl]
    simp only [List.length_append, nil0, one]
    omega
  have hcod : ∀ c ∈ hl, c < 128 := by
    intro c hc
    rw [ehl] at hc
    simp only [List.nil_append, List.mem_append] at hc
    rcases hc with ((((((hc | hc) | hc) | hc) | hc) | hc) | hc) | hc
    · exact dg_lt (by omega) c hc
    · simp at hc; omega
    · exact dg_lt hna c hc
    · simp at hc; omega
    · exact dg_lt (by omega) c hc
    · simp at hc; omega
    · exact dg_lt (by omega) c hc
    · simp at hc; omega
  have fin_ : ∀ (xh yh : St) (l : List Nat), lnX xh l → lnM yh l → l.length ≤ 80 → (∀ c ∈ l, c < 128) → frP σX xh → frL y yh → allR xh yh := by
    intro xh yh l ua ub uc ud ue uf
    exact hR0.lined ue (fun a h0 h2 h3 h5 h6 h7 h15 => by rw [uf.1 a h0 h15, q3 a h2 h3 h5 h6 h7]) (fun j hj => by rw [uf.2 j hj, q3 0 (by omega) (by omega) (by omega) (by omega) (by omega)]) ua ub uc ud
  cases hli : lieD d b with
  | none =>
    rw [if_pos (show oX none = mI 15 from rfl), if_pos (show oM none = mI 1 from rfl)]
    obtain ⟨x9, ab1, ab2, ab3⟩ := put_ok (c := 45) o2 (by omega) (by omega)
    obtain ⟨y9, ac1, ac2, ac3⟩ := writes_ok (c := 45) aa2 (by omega)
    rw [ab1, ac1, pz_bd, pz_bd, ab2.1, ac2.1, pz_gd (by omega) (by omega)]
    refine ⟨_, _, _, rfl, rfl, fin_ x9 y9 _ ab2 ac2 (by rw [List.length_append, one]; omega) (fun c hc => ?_) (f8.trans ab3) (g8.trans ac3)⟩
    rw [List.mem_append] at hc
    rcases hc with hc | hc
    · exact hcod c hc
    · simp at hc; omega
  | some p =>
    have hp := lieD_lt hli
    have K5 := dg_len p
    rw [if_neg (show ¬ oX (some p) = mI 15 from pz_nm (by omega) (by omega) (by omega)), if_neg (show ¬ oM (some p) = mI 1 from pz_nm (by omega) (by omega) (by omega))]
    obtain ⟨x9, ab1, ab2, ab3⟩ := putNumber_ok (n := p) (by omega) o2 (by omega)
    obtain ⟨y9, ac1, ac2, ac3⟩ := writesNumber_ok (n := p) (by omega) aa2 (by omega)
    rw [pz_gd (by omega) (by omega), pz_gd (by omega) (by omega), pz_gd (by omega) (by omega)]
    show ∃ r σX' σM', (bd (fX3_putNumber x8 (nI p)) fun r18 => some (r18 5 1, r18)) = some (r, σX') ∧ (bd (fX7_writesNumber 5 y8 (nI p)) fun r20 => some (r20 0 24, r20)) = some (r, σM') ∧ _
    rw [ab1, ac1, pz_bd, pz_bd, ab2.1, ac2.1]
    refine ⟨_, _, _, rfl, rfl, fin_ x9 y9 _ ab2 ac2 (by rw [List.length_append]; omega) (fun c hc => ?_) (f8.trans ab3) (g8.trans ac3)⟩
    rw [List.mem_append] at hc
    rcases hc with hc | hc
    · exact hcod c hc
    · exact dg_lt (by omega) c hc
