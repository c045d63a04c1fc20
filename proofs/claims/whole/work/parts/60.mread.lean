/-! Pure rows: the model reads its text. -/
def mS (σ : St) (t : Nat → Nat) (n : Nat) (s : Nat ⊕ Nat) : Prop := σ 0 18 = nI n ∧ (∀ i, i < n → σ 13 i = nI (t i)) ∧ match s with
  | .inl f => σ 0 20 = nI f ∧ f ≤ n
  | .inr p => σ 0 19 = nI p ∧ σ 0 20 = mI 1 ∧ p ≤ n
def frS (σ σ' : St) : Prop := (∀ a, a ≠ 0 → σ' a = σ a) ∧ ∀ j, j ≠ 19 → j ≠ 20 → σ' 0 j = σ 0 j
theorem frS.refl (σ : St) : frS σ σ := ⟨fun _ _ => rfl, fun _ _ _ => rfl⟩
theorem frS.trans {a b c : St} (h1 : frS a b) (h2 : frS b c) : frS a c := ⟨fun k x => by rw [h2.1 k x, h1.1 k x], fun j x y => by rw [h2.2 j x y, h1.2 j x y]⟩
theorem mS_pos {σ : St} {t : Nat → Nat} {n q : Nat} {s : Nat ⊕ Nat} (h : mS σ t n s) (h20 : σ 0 20 = mI 1) (hq : q ≤ n) : mS (su σ 0 19 (nI q)) t n (.inr q) ∧ frS σ (su σ 0 19 (nI q)) :=
  ⟨⟨by rw [pz_su_n _ _ (by omega)]; exact h.1, fun i hi => by rw [pz_su_r _ _ (by omega)]; exact h.2.1 i hi, pz_su_s _ _ _ _, by rw [pz_su_n _ _ (by omega)]; exact h20, hq⟩, fun a ha => pz_su_r _ _ ha, fun j h1 h2 => pz_su_n _ _ (by omega)⟩
theorem mS_fault {σ : St} {t : Nat → Nat} {n q : Nat} {s : Nat ⊕ Nat} (h : mS σ t n s) (hq : q ≤ n) : mS (su σ 0 20 (nI q)) t n (.inl q) ∧ frS σ (su σ 0 20 (nI q)) :=
  ⟨⟨by rw [pz_su_n _ _ (by omega)]; exact h.1, fun i hi => by rw [pz_su_r _ _ (by omega)]; exact h.2.1 i hi, pz_su_s _ _ _ _, hq⟩, fun a ha => pz_su_r _ _ ha, fun j h1 h2 => pz_su_n _ _ (by omega)⟩
theorem sign_ok {σ : St} {t : Nat → Nat} {n p : Nat} (ht : txOk t n) (h : mS σ t n (.inr p)) : fX7_sign σ = some (if p < n then nI (t p) else mI 1) := by
  have h60 := ht.1
  obtain ⟨h1, h2, h3, h4, h5⟩ := h
  unfold fX7_sign
  rw [h1, h3, pz_n1, pz_neg]
  by_cases e : p < n
  · rw [if_neg (nI_ge e (by omega)), if_pos e, pz_gd (by omega) (by omega), pz_cl (by omega), h2 p e]
  · rw [if_pos (nI_le (by omega) (by omega)), if_neg e]
theorem sign_eq {t : Nat → Nat} {n p c : Nat} (ht : txOk t n) (hc : 0 < c) (hc2 : c < 2 ^ 31) : (if p < n then nI (t p) else mI 1) = nI c ↔ sgT t n p = c := by
  unfold sgT
  by_cases e : p < n
  · have := ht.2 p e
    rw [if_pos e, if_pos e, nI_eq (by omega) hc2]
  · rw [if_neg e, if_neg e]
    exact ⟨fun h => absurd h (pz_mn hc2 (by omega) (by omega)), fun h => by omega⟩
theorem needs_ok {σ : St} {t : Nat → Nat} {n c : Nat} {s : Nat ⊕ Nat} (ht : txOk t n) (h : mS σ t n s) (hc : 0 < c) (hc2 : c < 2 ^ 31) : ∃ σ', fX7_needs σ (nI c) = some σ' ∧ mS σ' t n (stC t n s c) ∧ frS σ σ' := by
  have h60 := ht.1
  unfold fX7_needs
  cases s with
  | inl f =>
    rw [pz_n0, h.2.2.1, if_neg (nI_nlt (Nat.zero_le _) (by have := h.2.2.2; omega))]
    exact ⟨σ, rfl, h, frS.refl _⟩
  | inr p =>
    obtain ⟨h1, h2, h3, h4, h5⟩ := h
    have hh : mS σ t n (.inr p) := ⟨h1, h2, h3, h4, h5⟩
    rw [pz_n0, h4, if_pos (pz_mlt (by omega) (by omega) (by omega)), sign_ok ht hh, pz_bd]
    by_cases e : sgT t n p = c
    · rw [if_pos ((sign_eq ht hc hc2).mpr e), pz_nm_, h3, pz_n1, nI_add]
      have hlt := sg_lt e (by omega)
      obtain ⟨g1, g2⟩ := mS_pos (q := p + 1) hh h4 (by omega)
      refine ⟨_, rfl, ?_, g2⟩
      show mS _ t n (if sgT t n p = c then .inr (p + 1) else .inl p)
      rw [if_pos e]
      exact g1
    · rw [if_neg (fun h => e ((sign_eq ht hc hc2).mp h)), pz_nm_, h3]
      obtain ⟨g1, g2⟩ := mS_fault (q := p) hh h5
      refine ⟨_, rfl, ?_, g2⟩
      show mS _ t n (if sgT t n p = c then .inr (p + 1) else .inl p)
      rw [if_neg e]
      exact g1
theorem signs_ok {σ : St} {t : Nat → Nat} {n a b c : Nat} {s : Nat ⊕ Nat} (ht : txOk t n) (h : mS σ t n s) (ha : 0 < a) (ha2 : a < 2 ^ 31) (hb : 0 < b) (hb2 : b < 2 ^ 31) (hc : 0 < c) (hc2 : c < 2 ^ 31) : ∃ σ', fX7_signs σ (nI a) (nI b) (nI c) = some σ' ∧ mS σ' t n (stL t n s [a, b, c]) ∧ frS σ σ' := by
  obtain ⟨s1, x1, x2, x3⟩ := needs_ok ht h ha ha2
  obtain ⟨s2, y1, y2, y3⟩ := needs_ok ht x2 hb hb2
  obtain ⟨s3, z1, z2, z3⟩ := needs_ok ht y2 hc hc2
  unfold fX7_signs
  rw [x1, pz_bd, y1, pz_bd, pz_n0, if_neg (by rw [nI_eq hc2 (by omega)]; omega), z1, pz_bd]
  exact ⟨s3, rfl, z2, (x3.trans y3).trans z3⟩
def cdT (k : Nat) : Nat := [112, 99, 111, 119, 98, 103, 108, 116].getD k 0
theorem lits : (99 : Int32) = nI 99 ∧ (103 : Int32) = nI 103 ∧ (108 : Int32) = nI 108 ∧ (111 : Int32) = nI 111 ∧ (112 : Int32) = nI 112 ∧ (119 : Int32) = nI 119 ∧ (101 : Int32) = nI 101 ∧ (115 : Int32) = nI 115 ∧ (110 : Int32) = nI 110 ∧ (97 : Int32) = nI 97 ∧ (100 : Int32) = nI 100 ∧ (105 : Int32) = nI 105 ∧ (114 : Int32) = nI 114 ∧ (104 : Int32) = nI 104 ∧ (116 : Int32) = nI 116 ∧ (98 : Int32) = nI 98 := by decide
theorem sgn3 {σ : St} {t : Nat → Nat} {n a b c d : Nat} {s : Nat ⊕ Nat} (ht : txOk t n) (h : mS σ t n s) (ha : 0 < a) (ha2 : a < 2 ^ 31) (hb : 0 < b) (hb2 : b < 2 ^ 31) (hc : 0 < c) (hc2 : c < 2 ^ 31) (hd : 0 < d) (hd2 : d < 2 ^ 31) : ∃ σ1 σ', fX7_signs σ (nI a) (nI b) (nI c) = some σ1 ∧ fX7_needs σ1 (nI d) = some σ' ∧ mS σ' t n (stL t n s [a, b, c, d]) ∧ frS σ σ' := by
  obtain ⟨s1, x1, x2, x3⟩ := signs_ok ht h ha ha2 hb hb2 hc hc2
  obtain ⟨s2, y1, y2, y3⟩ := needs_ok ht x2 hd hd2
  exact ⟨s1, s2, x1, y1, y2, x3.trans y3⟩
/-- what a word's first letter says: its kind, the letters to come -/
def wlT (t : Nat → Nat) (n p c : Nat) : Nat × List Nat :=
  if c = 112 then (0, [105, 101, 114]) else if c = 99 then (1, [108, 111, 115, 101]) else if c = 111 then (2, [112, 101, 110]) else if c = 119 then (3, [101, 105, 103, 104]) else if c = 103 then (5, [111, 110, 101]) else if c = 108 then (6, [111, 97, 100]) else if sgT t n p = 101 then (7, [101, 114, 116, 104]) else (4, [97, 114, 103, 101])
theorem word_ok {σ : St} {t : Nat → Nat} {n p c : Nat} (ht : txOk t n) (h : mS σ t n (.inr p)) (hc : c < 128) : ∃ σ', fX7_word σ (nI c) = some (nI (if c = 112 ∨ c = 99 ∨ c = 111 ∨ c = 119 ∨ c = 103 ∨ c = 108 then c else cdT (wlT t n p c).1), σ') ∧ mS σ' t n (stL t n (.inr p) (wlT t n p c).2) ∧ frS σ σ' := by
  obtain ⟨l1, l2, l3, l4, l5, l6, l7, l8, l9, l10, l11, l12, l13, l14, l15, l16⟩ := lits
  unfold fX7_word wlT
  simp only [l1, l2, l3, l4, l5, l6, l7, l8, l9, l10, l11, l12, l13, l14, l15, l16]
  simp (disch := omega) only [nI_eq]
  by_cases c1 : c = 99
  · subst c1
    obtain ⟨s1, s2, x1, x2, x3, x4⟩ := sgn3 (a := 108) (b := 111) (c := 115) (d := 101) ht h (by omega) (by omega) (by omega) (by omega) (by omega) (by omega) (by omega) (by omega)
    rw [if_pos rfl, x1, pz_bd, x2, pz_bd]
    exact ⟨s2, rfl, x3, x4⟩
  rw [if_neg c1]
  by_cases c2 : c = 103
  · subst c2
    obtain ⟨s1, x1, x2, x3⟩ := signs_ok (a := 111) (b := 110) (c := 101) ht h (by omega) (by omega) (by omega) (by omega) (by omega) (by omega)
    rw [if_pos rfl, x1, pz_bd]
    exact ⟨s1, rfl, x2, x3⟩
  rw [if_neg c2]
  by_cases c3 : c = 108
  · subst c3
    obtain ⟨s1, x1, x2, x3⟩ := signs_ok (a := 111) (b := 97) (c := 100) ht h (by omega) (by omega) (by omega) (by omega) (by omega) (by omega)
    rw [if_pos rfl, x1, pz_bd]
    exact ⟨s1, rfl, x2, x3⟩
  rw [if_neg c3]
  by_cases c4 : c = 111
  · subst c4
    obtain ⟨s1, x1, x2, x3⟩ := signs_ok (a := 112) (b := 101) (c := 110) ht h (by omega) (by omega) (by omega) (by omega) (by omega) (by omega)
    rw [if_pos rfl, x1, pz_bd]
    exact ⟨s1, rfl, x2, x3⟩
  rw [if_neg c4]
  by_cases c5 : c = 112
  · subst c5
    obtain ⟨s1, x1, x2, x3⟩ := signs_ok (a := 105) (b := 101) (c := 114) ht h (by omega) (by omega) (by omega) (by omega) (by omega) (by omega)
    rw [if_pos rfl, x1, pz_bd]
    exact ⟨s1, rfl, x2, x3⟩
  rw [if_neg c5]
  by_cases c6 : c = 119
  · subst c6
    obtain ⟨s1, s2, x1, x2, x3, x4⟩ := sgn3 (a := 101) (b := 105) (c := 103) (d := 104) ht h (by omega) (by omega) (by omega) (by omega) (by omega) (by omega) (by omega) (by omega)
    rw [if_pos rfl, x1, pz_bd, x2, pz_bd]
    exact ⟨s2, rfl, x3, x4⟩
  rw [if_neg c6, sign_ok ht h, pz_bd, if_neg c5, if_neg c1, if_neg c4, if_neg c6, if_neg c2, if_neg c3, if_neg (show ¬ (c = 112 ∨ c = 99 ∨ c = 111 ∨ c = 119 ∨ c = 103 ∨ c = 108) by omega)]
  by_cases e : sgT t n p = 101
  · obtain ⟨s1, s2, x1, x2, x3, x4⟩ := sgn3 (a := 101) (b := 114) (c := 116) (d := 104) ht h (by omega) (by omega) (by omega) (by omega) (by omega) (by omega) (by omega) (by omega)
    rw [if_pos ((sign_eq ht (by omega) (by omega)).mpr e), if_pos e, x1, pz_bd, x2, pz_bd]
    exact ⟨s2, rfl, x3, x4⟩
  · obtain ⟨s1, s2, x1, x2, x3, x4⟩ := sgn3 (a := 97) (b := 114) (c := 103) (d := 101) ht h (by omega) (by omega) (by omega) (by omega) (by omega) (by omega) (by omega) (by omega)
    rw [if_neg (fun h => e ((sign_eq ht (by omega) (by omega)).mp h)), if_neg e, x1, pz_bd, x2, pz_bd]
    exact ⟨s2, rfl, x3, x4⟩
def nbM2 (t : Nat → Nat) (n : Nat) (s : Nat ⊕ Nat) (d : Nat) : (Nat ⊕ Nat) × Nat := match stC t n s 32 with
  | .inl f => (.inl f, 0)
  | .inr p => match nuT t n d p with
    | .inl f => (.inl f, 0)
    | .inr (v, q) => (.inr q, v)
theorem inDig {σ : St} {t : Nat → Nat} {n p : Nat} (ht : txOk t n) : fX7_in σ (if p < n then nI (t p) else mI 1) (nI 48) (nI 57) = some (if dgT t n p = true then nI 1 else nI 0) := by
  by_cases e : p < n
  · have hb := ht.2 p e
    have hsg : sgT t n p = t p := if_pos e
    rw [if_pos e, pm_in (by omega) (by omega) (by omega)]
    by_cases d : dgT t n p = true
    · have := dgT_iff.mp d
      rw [hsg] at this
      rw [if_pos d, if_pos this]
    · rw [if_neg d, if_neg (fun h => d (dgT_iff.mpr (by rw [hsg]; exact h)))]
  · have hsg : sgT t n p = 0 := if_neg e
    rw [if_neg e, if_neg (fun h => by have := dgT_iff.mp h; omega)]
    exact pm_in0 (Or.inl (pz_mlt (by omega) (by omega) (by omega)))
theorem number_loop {t : Nat → Nat} {n d : Nat} {K : St → Int32 → Option (Int32 × St)} (ht : txOk t n) (hd : d ≤ 4) : ∀ e j m σ p acc, j + e = d → e < m → mS σ t n (.inr p) → ∃ σ', fX7_number_L43 (nI d) K m σ (nI acc) (nI j) = K σ' (nI (nvT t n e p acc)) ∧ mS σ' t n (.inr (p + ndT t n e p)) ∧ frS σ σ' := by
  have h60 := ht.1
  have e48 : (48 : Int32) = nI 48 := by decide
  have e57 : (57 : Int32) = nI 57 := by decide
  intro e
  induction e with
  | zero =>
    intro j m σ p acc h1 h2 h3
    obtain ⟨m, rfl⟩ : ∃ z, m = z + 1 := ⟨m - 1, by omega⟩
    rw [fX7_number_L43, if_pos (nI_le (by omega) (by omega))]
    exact ⟨σ, rfl, h3, frS.refl _⟩
  | succ e ih =>
    intro j m σ p acc h1 h2 h3
    obtain ⟨m, rfl⟩ : ∃ z, m = z + 1 := ⟨m - 1, by omega⟩
    rw [fX7_number_L43, if_neg (nI_ge (by omega) (by omega)), sign_ok ht h3, pz_bd, e48, e57, inDig ht, pz_bd, pz_n0]
    show ∃ σ', _ = K σ' (nI (if dgT t n p = true then nvT t n e (p + 1) (10 * acc + sgT t n p - 48) else acc)) ∧ mS σ' t n (.inr (p + if dgT t n p = true then ndT t n e (p + 1) + 1 else 0)) ∧ _
    by_cases hdg : dgT t n p = true
    · have hdt := dgT_iff.mp hdg
      have hp := sg_lt (t := t) (n := n) (p := p) rfl (by omega)
      have hsg : sgT t n p = t p := if_pos hp
      rw [if_pos hdg, if_neg pz_10, if_pos hdg, if_pos hdg, pz_bd, pz_nm_, pz_nm_, pz_nm_, if_pos hp, pz_n10, pk_mul, nI_add, pz_sub (by omega), h3.2.2.1, pz_n1, nI_add, nI_add, ← hsg]
      obtain ⟨g1, g2⟩ := mS_pos (q := p + 1) h3 h3.2.2.2.1 (by omega)
      obtain ⟨σ', b1, b2, b3⟩ := ih (j + 1) m _ (p + 1) (10 * acc + sgT t n p - 48) (by omega) (by omega) g1
      rw [b1]
      refine ⟨σ', rfl, ?_, g2.trans b3⟩
      rw [show p + (ndT t n e (p + 1) + 1) = p + 1 + ndT t n e (p + 1) by omega]
      exact b2
    · rw [if_neg hdg, if_pos rfl, if_neg hdg, if_neg hdg]
      exact ⟨σ, rfl, h3, frS.refl _⟩
theorem number_ok {σ : St} {t : Nat → Nat} {n d : Nat} {s : Nat ⊕ Nat} (ht : txOk t n) (hd0 : 0 < d) (hd : d ≤ 4) (h : mS σ t n s) : ∃ σ', fX7_number σ (nI d) = some (nI (nbM2 t n s d).2, σ') ∧ mS σ' t n (nbM2 t n s d).1 ∧ frS σ σ' := by
  have h60 := ht.1
  have e32 : (32 : Int32) = nI 32 := by decide
  have e48 : (48 : Int32) = nI 48 := by decide
  have e57 : (57 : Int32) = nI 57 := by decide
  obtain ⟨s1, x1, x2, x3⟩ := needs_ok (c := 32) ht h (by omega) (by omega)
  unfold fX7_number nbM2
  rw [e32, x1, pz_bd, pz_n0, e48, e57]
  cases hs : stC t n s 32 with
  | inl f =>
    rw [hs] at x2
    have hf := x2.2.2.2
    rw [x2.2.2.1, if_neg (nI_nlt (Nat.zero_le _) (by omega))]
    exact ⟨s1, rfl, x2, x3⟩
  | inr p =>
    rw [hs] at x2
    rw [x2.2.2.2.1, if_pos (pz_mlt (by omega) (by omega) (by omega)), sign_ok ht x2, pz_bd, inDig ht, pz_bd]
    unfold nuT
    by_cases hdg : dgT t n p = true
    · have hnz : ¬ ndT t n d p = 0 := fun h0 => by
        have := (ndT_pos hd0).mp h0
        rw [hdg] at this
        cases this
      rw [if_pos hdg, if_neg pz_10]
      obtain ⟨s2, y1, y2, y3⟩ := number_loop (K := fun σ y2 => fX7_number_B91 σ y2) ht hd d 0 1000 s1 p 0 (by omega) (by omega) x2
      rw [y1]
      dsimp only
      rw [if_neg hnz]
      exact ⟨s2, rfl, y2, x3.trans y3⟩
    · have hz : ndT t n d p = 0 := (ndT_pos hd0).mpr (by simpa using hdg)
      rw [if_neg hdg, if_pos rfl, pz_nm_, x2.2.2.1]
      obtain ⟨g1, g2⟩ := mS_fault (q := p) x2 x2.2.2.2.2
      dsimp only
      rw [if_pos hz]
      exact ⟨_, rfl, g1, x3.trans g2⟩
theorem digits1 (σ : St) : ∀ k, k < 8 → fX7_digitsOf σ (nI (cdT k)) (nI 0) = some (nI (dFT k)) := by
  intro k hk
  rcases (show k = 0 ∨ k = 1 ∨ k = 2 ∨ k = 3 ∨ k = 4 ∨ k = 5 ∨ k = 6 ∨ k = 7 by omega) with e | e | e | e | e | e | e | e <;> subst e <;> rfl
theorem digits2 (σ : St) : ∀ k, k < 8 → fX7_digitsOf σ (nI (cdT k)) (nI 1) = some (nI (dST k)) := by
  intro k hk
  rcases (show k = 0 ∨ k = 1 ∨ k = 2 ∨ k = 3 ∨ k = 4 ∨ k = 5 ∨ k = 6 ∨ k = 7 by omega) with e | e | e | e | e | e | e | e <;> subst e <;> rfl
