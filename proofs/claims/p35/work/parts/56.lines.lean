/-! Pure rows: lines are written, in both systems. -/
def lnX (σ : St) (l : List Nat) : Prop := σ 5 1 = nI l.length ∧ ∀ i, i < l.length → σ 6 i = nI (l.getD i 0)
def lnM (σ : St) (l : List Nat) : Prop := σ 0 24 = nI l.length ∧ ∀ i, i < l.length → σ 15 i = nI (l.getD i 0)
theorem getD_app {l : List Nat} {c i : Nat} (h : i < l.length + 1) : (l ++ [c]).getD i 0 = if i = l.length then c else l.getD i 0 := by
  rw [List.getD_eq_getElem?_getD, List.getD_eq_getElem?_getD]
  by_cases e : i = l.length
  · rw [if_pos e, List.getElem?_append_right (by omega), e, Nat.sub_self]
    rfl
  · rw [if_neg e, List.getElem?_append_left (by omega)]
theorem put_ok {σ : St} {l : List Nat} {c : Nat} (h : lnX σ l) (hl : l.length < 80) (hc : c < 128) : ∃ σ', fX3_put σ (nI c) = some σ' ∧ lnX σ' (l ++ [c]) ∧ ∀ a, a ≠ 5 → a ≠ 6 → σ' a = σ a := by
  obtain ⟨h1, h2⟩ := h
  unfold fX3_put
  rw [h1, pz_n80, if_neg (nI_ge hl (by omega))]
  simp (disch := omega) only [pz_gd, pz_cl, pz_nm_, pz_narC, pz_su_n, h1, pz_n1, nI_add]
  refine ⟨_, rfl, ⟨?_, fun i hi => ?_⟩, fun a x1 x2 => by rw [pz_su_r _ _ x1, pz_su_r _ _ x2]⟩
  · rw [pz_su_s, List.length_append]
    rfl
  · rw [List.length_append] at hi
    have hi2 : i < l.length + 1 := hi
    rw [pz_su_r _ _ (by omega), pz_su_w, getD_app hi2]
    by_cases e : i = l.length
    · rw [if_pos e, e, pk_us]
    · rw [if_neg e, pk_un e]; exact h2 i (by omega)
theorem writes_ok {σ : St} {l : List Nat} {c : Nat} (h : lnM σ l) (hl : l.length < 80) : ∃ σ', fX7_writes σ (nI c) = some σ' ∧ lnM σ' (l ++ [c]) ∧ (∀ a, a ≠ 0 → a ≠ 15 → σ' a = σ a) ∧ ∀ j, j ≠ 24 → σ' 0 j = σ 0 j := by
  obtain ⟨h1, h2⟩ := h
  unfold fX7_writes
  rw [h1]
  simp (disch := omega) only [pz_gd, pz_cl, pz_nm_, pz_su_n, h1, pz_n1, nI_add]
  refine ⟨_, rfl, ⟨?_, fun i hi => ?_⟩, fun a x1 x2 => by rw [pz_su_r _ _ x1, pz_su_r _ _ x2], fun j hj => by rw [pz_su_n _ _ (by omega), pz_su_n _ _ (by omega)]⟩
  · rw [pz_su_s, List.length_append]
    rfl
  · rw [List.length_append] at hi
    have hi2 : i < l.length + 1 := hi
    rw [pz_su_r _ _ (by omega), pz_su_w, getD_app hi2]
    by_cases e : i = l.length
    · rw [if_pos e, e, pk_us]
    · rw [if_neg e, pk_un e]; exact h2 i (by omega)
def frL (σ σ' : St) : Prop := (∀ a, a ≠ 0 → a ≠ 15 → σ' a = σ a) ∧ ∀ j, j ≠ 24 → σ' 0 j = σ 0 j
theorem frL.refl (σ : St) : frL σ σ := ⟨fun _ _ _ => rfl, fun _ _ => rfl⟩
theorem frL.trans {a b c : St} (h1 : frL a b) (h2 : frL b c) : frL a c := ⟨fun k x y => by rw [h2.1 k x y, h1.1 k x y], fun j hj => by rw [h2.2 j hj, h1.2 j hj]⟩
theorem wn_ok : ∀ k n, n < 10 ^ (k + 1) → n ≤ 9999 → ∀ (σ : St) (l : List Nat), lnM σ l → l.length + 4 ≤ 80 → ∃ σ', fX7_writesNumber (k + 1) σ (nI n) = some σ' ∧ lnM σ' (l ++ dg n) ∧ frL σ σ' := by
  intro k
  induction k with
  | zero =>
    intro n h1 h2 σ l hl hn
    have h3 : n < 10 := h1
    obtain ⟨σ', a1, a2, a3, a4⟩ := writes_ok (c := 48 + n % 10) hl (by omega)
    rw [fX7_writesNumber]
    have e48 : (48 : Int32) = nI 48 := by decide
    rw [pz_n9, if_pos (nI_le (by omega) (by omega)), pz_n10, pz_rem (by omega) (by omega) (by omega), e48, nI_add, a1, pz_bd]
    refine ⟨σ', rfl, ?_, a3, a4⟩
    unfold dg
    rw [if_pos h3]
    rw [show n % 10 = n by omega] at a2
    exact a2
  | succ k ih =>
    intro n h1 h2 σ l hl hn
    have e48 : (48 : Int32) = nI 48 := by decide
    by_cases h3 : n < 10
    · obtain ⟨σ', a1, a2, a3, a4⟩ := writes_ok (c := 48 + n % 10) hl (by omega)
      rw [fX7_writesNumber]
      rw [pz_n9, if_pos (nI_le (by omega) (by omega)), pz_n10, pz_rem (by omega) (by omega) (by omega), e48, nI_add, a1, pz_bd]
      refine ⟨σ', rfl, ?_, a3, a4⟩
      unfold dg
      rw [if_pos h3]
      rw [show n % 10 = n by omega] at a2
      exact a2
    · have h4 : n / 10 < 10 ^ (k + 1) := by
        rw [Nat.pow_succ] at h1
        omega
      obtain ⟨σ1, b1, b2, b3⟩ := ih (n / 10) h4 (by omega) σ l hl hn
      have hd3 : (dg (n / 10)).length ≤ 3 := by
        unfold dg
        split
        · simp
        · split
          · simp
          · rw [if_pos (by omega)]; simp
      obtain ⟨σ2, a1, a2, a3, a4⟩ := writes_ok (c := 48 + n % 10) b2 (by rw [List.length_append]; omega)
      rw [fX7_writesNumber]
      rw [pz_n9, if_neg (nI_ge (by omega) (by omega)), pz_n10, pk_div (by omega) (by omega) (by omega), b1, pz_bd, pz_rem (by omega) (by omega) (by omega), e48, nI_add, a1, pz_bd]
      refine ⟨σ2, rfl, ?_, b3.trans ⟨a3, a4⟩⟩
      rw [dg_step (by omega) h2, ← List.append_assoc]
      exact a2
theorem writesNumber_ok {n : Nat} {σ : St} {l : List Nat} (hn : n ≤ 9999) (h : lnM σ l) (hl : l.length + 4 ≤ 80) : ∃ σ', fX7_writesNumber 5 σ (nI n) = some σ' ∧ lnM σ' (l ++ dg n) ∧ frL σ σ' := wn_ok 4 n (by omega) hn σ l h hl
def frP (σ σ' : St) : Prop := ∀ a, a ≠ 5 → a ≠ 6 → σ' a = σ a
theorem frP.trans {a b c : St} (h1 : frP a b) (h2 : frP b c) : frP a c := fun k x y => by rw [h2 k x y, h1 k x y]
theorem pn_no {n u m : Nat} {σ : St} {K : St → Option St} (hn : n ≤ 9999) (hu : 1 < u) (hu2 : u ≤ 1000) (h0 : n / u % 10 = 0) : fX3_putNumber_L6 (nI n) K (m + 1) σ (nI 0) (nI u) = fX3_putNumber_L6 (nI n) K m σ (nI 0) (nI (u / 10)) := by
  rw [fX3_putNumber_L6, pz_n0, if_neg (nI_ge (by omega) (by omega)), pz_gz (by omega) (by omega), pz_nm_, pk_div (by omega) (by omega) (by omega), pz_n10, pz_rem (Nat.lt_of_le_of_lt (Nat.div_le_self _ _) (by omega)) (by omega) (by omega), h0, if_pos rfl, if_pos rfl, pz_n1, if_neg (by rw [nI_eq (by omega) (by omega)]; omega)]
  unfold fX3_putNumber_B37
  rw [pz_n0, if_pos rfl, pz_nm_, pz_n10, pk_div (by omega) (by omega) (by omega)]
theorem pn_yes {n u m b : Nat} {σ : St} {l : List Nat} {K : St → Option St} (hn : n ≤ 9999) (hu : 0 < u) (hu2 : u ≤ 1000) (hb : b < 2) (h : b = 1 ∨ n / u % 10 ≠ 0 ∨ u = 1) (hl : lnX σ l) (hl2 : l.length < 80) : ∃ σ', fX3_putNumber_L6 (nI n) K (m + 1) σ (nI b) (nI u) = fX3_putNumber_L6 (nI n) K m σ' (nI 1) (nI (u / 10)) ∧ lnX σ' (l ++ [48 + n / u % 10]) ∧ frP σ σ' := by
  have e48 : (48 : Int32) = nI 48 := by decide
  obtain ⟨σ', a1, a2, a3⟩ := put_ok (c := 48 + n / u % 10) hl hl2 (by omega)
  have hB : ∀ G, fX3_putNumber_B32 G K σ (nI n) (nI u) (nI (n / u % 10)) = G σ' (nI 1) (nI (u / 10)) := fun G => by
    unfold fX3_putNumber_B32 fX3_putNumber_B37
    rw [pz_n1, pz_n0, if_neg pz_10, e48, nI_add, pz_i2c (by omega), a1, pz_bd, pz_nm_, pz_n10, pk_div (by omega) (by omega) (by omega)]
  refine ⟨σ', ?_, a2, a3⟩
  rw [fX3_putNumber_L6, pz_n0, if_neg (nI_ge hu (by omega)), pz_gz (by omega) (by omega), pz_nm_, pk_div (by omega) (by omega) (by omega), pz_n10, pz_rem (Nat.lt_of_le_of_lt (Nat.div_le_self _ _) (by omega)) (by omega) (by omega), hB, pz_n1]
  by_cases e : b = 0
  · subst e
    rw [if_pos rfl]
    by_cases e2 : n / u % 10 = 0
    · rw [if_pos (by rw [e2]), if_pos (by rw [show u = 1 by omega])]
    · rw [if_neg (by rw [nI_eq (by omega) (by omega)]; exact e2)]
  · rw [if_neg (by rw [nI_eq (by omega) (by omega)]; exact e)]
theorem pn_end {n m : Nat} {σ : St} {x : Int32} {K : St → Option St} : fX3_putNumber_L6 (nI n) K (m + 1) σ x (nI 0) = K σ := by
  rw [fX3_putNumber_L6, pz_n0, if_pos (nI_le (Nat.le_refl _) (by omega))]
theorem putNumber_ok {n : Nat} {σ : St} {l : List Nat} (hn : n ≤ 9999) (h : lnX σ l) (hl : l.length + 4 ≤ 80) : ∃ σ', fX3_putNumber σ (nI n) = some σ' ∧ lnX σ' (l ++ dg n) ∧ frP σ σ' := by
  unfold fX3_putNumber
  rw [pz_n0, pz_n1000]
  have last : ∀ m b (τ : St) (l2 : List Nat), b < 2 → lnX τ l2 → l2.length < 80 → frP σ τ → ∃ σ', fX3_putNumber_L6 (nI n) (fun σ => fX3_putNumber_B60 σ) (m + 2) τ (nI b) (nI 1) = some σ' ∧ lnX σ' (l2 ++ [48 + n % 10]) ∧ frP σ σ' := by
    intro m b τ l2 hb h2 h3 h4
    obtain ⟨τ', a1, a2, a3⟩ := pn_yes (m := m + 1) (K := fun σ => fX3_putNumber_B60 σ) hn (u := 1) (by omega) (by omega) hb (Or.inr (Or.inr rfl)) h2 h3
    rw [a1, show 1 / 10 = 0 from rfl, pn_end]
    rw [Nat.div_one] at a2
    exact ⟨τ', rfl, a2, h4.trans a3⟩
  have tens : ∀ m b (τ : St) (l2 : List Nat), b < 2 → (b = 1 ∨ n / 10 % 10 ≠ 0) → lnX τ l2 → l2.length + 1 < 80 → frP σ τ → ∃ σ', fX3_putNumber_L6 (nI n) (fun σ => fX3_putNumber_B60 σ) (m + 3) τ (nI b) (nI 10) = some σ' ∧ lnX σ' (l2 ++ [48 + n / 10 % 10, 48 + n % 10]) ∧ frP σ σ' := by
    intro m b τ l2 hb hb2 h2 h3 h4
    obtain ⟨τ', a1, a2, a3⟩ := pn_yes (m := m + 2) (K := fun σ => fX3_putNumber_B60 σ) hn (u := 10) (by omega) (by omega) hb (by rcases hb2 with x | x; exact Or.inl x; exact Or.inr (Or.inl x)) h2 (by omega)
    obtain ⟨σ', b1, b2, b3⟩ := last m 1 τ' (l2 ++ [48 + n / 10 % 10]) (by omega) a2 (by rw [List.length_append]; exact h3) (h4.trans a3)
    rw [a1, show 10 / 10 = 1 from rfl, b1]
    rw [List.append_assoc] at b2
    exact ⟨σ', rfl, b2, b3⟩
  have hund : ∀ m b (τ : St) (l2 : List Nat), b < 2 → (b = 1 ∨ n / 100 % 10 ≠ 0) → lnX τ l2 → l2.length + 2 < 80 → frP σ τ → ∃ σ', fX3_putNumber_L6 (nI n) (fun σ => fX3_putNumber_B60 σ) (m + 4) τ (nI b) (nI 100) = some σ' ∧ lnX σ' (l2 ++ [48 + n / 100 % 10, 48 + n / 10 % 10, 48 + n % 10]) ∧ frP σ σ' := by
    intro m b τ l2 hb hb2 h2 h3 h4
    obtain ⟨τ', a1, a2, a3⟩ := pn_yes (m := m + 3) (K := fun σ => fX3_putNumber_B60 σ) hn (u := 100) (by omega) (by omega) hb (by rcases hb2 with x | x; exact Or.inl x; exact Or.inr (Or.inl x)) h2 (by omega)
    obtain ⟨σ', b1, b2, b3⟩ := tens m 1 τ' (l2 ++ [48 + n / 100 % 10]) (by omega) (Or.inl rfl) a2 (by rw [List.length_append]; have : [48 + n / 100 % 10].length = 1 := rfl; omega) (h4.trans a3)
    rw [a1, show 100 / 10 = 10 from rfl, b1]
    rw [List.append_assoc] at b2
    exact ⟨σ', rfl, b2, b3⟩
  unfold dg
  by_cases c1 : n < 10
  · rw [if_pos c1, pn_no (u := 1000) (m := 999) hn (by omega) (by omega) (by omega), show 1000 / 10 = 100 from rfl, pn_no (u := 100) (m := 998) hn (by omega) (by omega) (by omega), show 100 / 10 = 10 from rfl, pn_no (u := 10) (m := 997) hn (by omega) (by omega) (by omega), show 10 / 10 = 1 from rfl]
    obtain ⟨σ', b1, b2, b3⟩ := last 995 0 σ l (by omega) h (by omega) (fun _ _ _ => rfl)
    rw [show n % 10 = n by omega] at b2
    exact ⟨σ', b1, b2, b3⟩
  rw [if_neg c1]
  by_cases c2 : n < 100
  · rw [if_pos c2, pn_no (u := 1000) (m := 999) hn (by omega) (by omega) (by omega), show 1000 / 10 = 100 from rfl, pn_no (u := 100) (m := 998) hn (by omega) (by omega) (by omega), show 100 / 10 = 10 from rfl]
    obtain ⟨σ', b1, b2, b3⟩ := tens 995 0 σ l (by omega) (Or.inr (by omega)) h (by omega) (fun _ _ _ => rfl)
    rw [show n / 10 % 10 = n / 10 by omega] at b2
    exact ⟨σ', b1, b2, b3⟩
  rw [if_neg c2]
  by_cases c3 : n < 1000
  · rw [if_pos c3, pn_no (u := 1000) (m := 999) hn (by omega) (by omega) (by omega), show 1000 / 10 = 100 from rfl]
    obtain ⟨σ', b1, b2, b3⟩ := hund 995 0 σ l (by omega) (Or.inr (by omega)) h (by omega) (fun _ _ _ => rfl)
    rw [show n / 100 % 10 = n / 100 by omega] at b2
    exact ⟨σ', b1, b2, b3⟩
  rw [if_neg c3]
  obtain ⟨τ', a1, a2, a3⟩ := pn_yes (m := 999) (b := 0) (K := fun σ => fX3_putNumber_B60 σ) hn (u := 1000) (by omega) (by omega) (by omega) (Or.inr (Or.inl (by omega))) h (by omega)
  obtain ⟨σ', b1, b2, b3⟩ := hund 995 1 τ' (l ++ [48 + n / 1000 % 10]) (by omega) (Or.inl rfl) a2 (by rw [List.length_append]; have : [48 + n / 1000 % 10].length = 1 := rfl; omega) a3
  rw [a1, show 1000 / 10 = 100 from rfl, b1]
  rw [List.append_assoc, show n / 1000 % 10 = n / 1000 by omega] at b2
  exact ⟨σ', rfl, b2, b3⟩
