/-! Pure rows: the model reads its orders. -/
def frC2 (σ σ' : St) : Prop := (∀ a, a ≠ 0 → a ≠ 14 → σ' a = σ a) ∧ ∀ j, j ≠ 19 → j ≠ 20 → j ≠ 22 → σ' 0 j = σ 0 j
theorem frC2.refl (σ : St) : frC2 σ σ := ⟨fun _ _ _ => rfl, fun _ _ _ _ => rfl⟩
theorem frC2.trans {a b c : St} (h1 : frC2 a b) (h2 : frC2 b c) : frC2 a c := ⟨fun k x y => by rw [h2.1 k x y, h1.1 k x y], fun j x y z => by rw [h2.2 j x y z, h1.2 j x y z]⟩
theorem frS.c {a b : St} (h : frS a b) : frC2 a b := ⟨fun k x _ => h.1 k x, fun j x y _ => h.2 j x y⟩
theorem mS_14 {σ : St} {t : Nat → Nat} {n i : Nat} {v : Int32} {s : Nat ⊕ Nat} (h : mS σ t n s) : mS (su σ 14 i v) t n s ∧ frC2 σ (su σ 14 i v) := by
  refine ⟨?_, fun a _ ha => pz_su_r _ _ ha, fun j _ _ _ => by rw [pz_su_r _ _ (by omega)]⟩
  unfold mS at h ⊢
  rw [pz_su_r _ _ (show ¬ 0 = 14 by omega), pz_su_r _ _ (show ¬ 13 = 14 by omega)]
  exact h
/-- the j-th order as the model keeps it -/
def enM (σ : St) (j k a b : Nat) : Prop := σ 14 (3 * j) = nI (cdT k) ∧ σ 14 (3 * j + 1) = nI a ∧ σ 14 (3 * j + 2) = nI b
def cmR (σ σ' : St) (t : Nat → Nat) (n j : Nat) (o : Nat ⊕ (Nat × Nat × Nat × Nat)) : Prop := frC2 σ σ' ∧ σ' 0 22 = nI (j + 1) ∧ (∀ i, i < 3 * j → σ' 14 i = σ 14 i) ∧ match o with
  | .inl f => mS σ' t n (.inl f)
  | .inr (k, a, b, q) => mS σ' t n (.inr q) ∧ enM σ' j k a b
theorem B80_ok {σ : St} {t : Nat → Nat} {n pos j c k : Nat} {ls : List Nat} (ht : txOk t n) (h : mS σ t n (.inr pos)) (h22 : σ 0 22 = nI (j + 1)) (hj : j ≤ 60) (hk8 : k < 8) (hs : sgT t n pos = c) (hc0 : c ≠ 0) (hc : c < 128)
    (hw1 : (if c = 112 ∨ c = 99 ∨ c = 111 ∨ c = 119 ∨ c = 103 ∨ c = 108 then c else cdT (wlT t n (pos + 1) c).1) = cdT k) (hw2 : (wlT t n (pos + 1) c).2 = ls) (hk : kdT t n pos = fwT t n pos k (ls ++ [32])) :
    ∃ σ', fX7_command_B80 σ (nI (3 * j)) (nI c) = some σ' ∧ cmR σ σ' t n j (orT t n pos) := by
  have h60 := ht.1
  have g4 := dFT_b k hk8
  have g5 := dST_b k hk8
  have hlt := sg_lt hs hc0
  unfold fX7_command_B80
  rw [pz_nm_, h.2.2.1, pz_n1, nI_add]
  obtain ⟨a1, a2⟩ := mS_pos (q := pos + 1) h h.2.2.2.1 (by omega)
  obtain ⟨s2, b1, b2, b3⟩ := word_ok (c := c) ht a1 hc
  rw [hw1] at b1
  rw [hw2] at b2
  rw [b1, pz_bd]
  simp (disch := omega) only [pz_gd, pz_nm_, pz_cl, pz_n0]
  obtain ⟨c1, c2⟩ := mS_14 (i := 3 * j) (v := nI (cdT k)) b2
  obtain ⟨τ4, e4⟩ : ∃ z, z = su s2 14 (3 * j) (nI (cdT k)) := ⟨_, rfl⟩
  rw [← e4] at c1 c2 ⊢
  have v4 : τ4 14 (3 * j) = nI (cdT k) := by rw [e4, pz_su_s]
  rw [v4, digits1 _ k hk8, pz_bd]
  obtain ⟨s5, d1, d2, d3⟩ := number_ok ht g4.1 g4.2 c1
  rw [d1, pz_bd]
  simp (disch := omega) only [nI_add, pz_gd, pz_cl]
  obtain ⟨f1, f2⟩ := mS_14 (i := 3 * j + 1) (v := nI (nbM2 t n (stL t n (.inr (pos + 1)) ls) (dFT k)).2) d2
  obtain ⟨τ9, e9⟩ : ∃ z, z = su s5 14 (3 * j + 1) (nI (nbM2 t n (stL t n (.inr (pos + 1)) ls) (dFT k)).2) := ⟨_, rfl⟩
  rw [← e9] at f1 f2 ⊢
  have v9 : τ9 14 (3 * j) = nI (cdT k) := by rw [e9, pz_su_n _ _ (by omega), d3.1 14 (by omega)]; exact v4
  have v91 : τ9 14 (3 * j + 1) = nI (nbM2 t n (stL t n (.inr (pos + 1)) ls) (dFT k)).2 := by rw [e9, pz_su_s]
  have o9 : ∀ i, i < 3 * j → τ9 14 i = σ 14 i := fun i hi => by rw [e9, pz_su_n _ _ (by omega), d3.1 14 (by omega), e4, pz_su_n _ _ (by omega), b3.1 14 (by omega), a2.1 14 (by omega)]
  have fr9 : frC2 σ τ9 := (((a2.c.trans b3.c).trans c2).trans d3.c).trans f2
  have r9 : τ9 0 22 = nI (j + 1) := by rw [e9, pz_su_n _ _ (by omega), d3.2 22 (by omega) (by omega), e4, pz_su_n _ _ (by omega), b3.2 22 (by omega) (by omega), a2.2 22 (by omega) (by omega)]; exact h22
  rw [v9, digits2 _ k hk8, pz_bd]
  -- the abstract order
  have hor : orT t n pos = match (nbM2 t n (stL t n (.inr (pos + 1)) ls) (dFT k)).1 with
      | .inl f => .inl f
      | .inr p2 => if dST k = 0 then .inr (k, (nbM2 t n (stL t n (.inr (pos + 1)) ls) (dFT k)).2, 0, p2) else match (nbM2 t n (.inr p2) (dST k)).1 with
        | .inl f => .inl f
        | .inr p3 => .inr (k, (nbM2 t n (stL t n (.inr (pos + 1)) ls) (dFT k)).2, (nbM2 t n (.inr p2) (dST k)).2, p3) := by
    unfold orT
    rw [hk]
    unfold fwT nbM2
    rw [stL_app]
    have e1 : stL t n (stL t n (.inr (pos + 1)) ls) [32] = stC t n (stL t n (.inr (pos + 1)) ls) 32 := rfl
    rw [e1]
    cases stC t n (stL t n (.inr (pos + 1)) ls) 32 with
    | inl f => rfl
    | inr p =>
      dsimp only
      cases nuT t n (dFT k) p with
      | inl f => rfl
      | inr y =>
        obtain ⟨a, q⟩ := y
        dsimp only
        by_cases e0 : dST k = 0
        · rw [if_pos e0, if_pos e0]
        · rw [if_neg e0, if_neg e0]
          have hst : stC t n (.inr q) 32 = if sgT t n q = 32 then .inr (q + 1) else .inl q := rfl
          rw [hst]
          by_cases es : sgT t n q = 32
          · simp only [if_pos es]
            cases nuT t n (dST k) (q + 1) with
            | inl f => rfl
            | inr z => obtain ⟨b, q3⟩ := z; rfl
          · simp only [if_neg es]
  obtain ⟨X, hX⟩ : ∃ X, X = nbM2 t n (stL t n (.inr (pos + 1)) ls) (dFT k) := ⟨_, rfl⟩
  rw [← hX] at hor f1 v91
  by_cases e0 : dST k = 0
  · rw [if_pos (by rw [e0]), pz_n2, nI_add, pz_gd (by omega) (by omega), pz_cl (by omega)]
    obtain ⟨g1, g2⟩ := mS_14 (i := 3 * j + 2) (v := nI 0) f1
    refine ⟨_, rfl, fr9.trans g2, by rw [pz_su_n _ _ (by omega)]; exact r9, fun i hi => by rw [pz_su_n _ _ (by omega)]; exact o9 i hi, ?_⟩
    rw [hor]
    cases hx : X.1 with
    | inl f =>
      rw [hx] at g1
      exact g1
    | inr p2 =>
      rw [hx] at g1
      dsimp only
      rw [if_pos e0]
      exact ⟨g1, by rw [pz_su_n _ _ (by omega)]; exact v9, by rw [pz_su_n _ _ (by omega)]; exact v91, pz_su_s _ _ _ _⟩
  · rw [if_neg (by rw [nI_eq (by omega) (by omega)]; exact e0)]
    obtain ⟨s6, i1, i2, i3⟩ := number_ok ht (show 0 < dST k by omega) (show dST k ≤ 4 by omega) f1
    rw [pz_bd, i1, pz_bd]
    simp (disch := omega) only [pz_n2, nI_add, pz_gd, pz_cl]
    obtain ⟨g1, g2⟩ := mS_14 (i := 3 * j + 2) (v := nI (nbM2 t n X.1 (dST k)).2) i2
    refine ⟨_, rfl, (fr9.trans i3.c).trans g2, by rw [pz_su_n _ _ (by omega), i3.2 22 (by omega) (by omega)]; exact r9, fun i hi => by rw [pz_su_n _ _ (by omega), i3.1 14 (by omega)]; exact o9 i hi, ?_⟩
    rw [hor]
    cases hx : X.1 with
    | inl f =>
      rw [hx] at g1
      exact g1
    | inr p2 =>
      rw [hx] at g1
      dsimp only
      rw [if_neg e0]
      cases hy : (nbM2 t n (.inr p2) (dST k)).1 with
      | inl f =>
        rw [hy] at g1
        exact g1
      | inr p3 =>
        rw [hy] at g1
        refine ⟨g1, by rw [pz_su_n _ _ (by omega), i3.1 14 (by omega)]; exact v9, by rw [pz_su_n _ _ (by omega), i3.1 14 (by omega)]; exact v91, by rw [pz_su_s]⟩
theorem command_ok {σ : St} {t : Nat → Nat} {n pos j : Nat} (ht : txOk t n) (h : mS σ t n (.inr pos)) (h22 : σ 0 22 = nI j) (hj : j ≤ 60) : ∃ σ', fX7_command σ = some σ' ∧ cmR σ σ' t n j (orT t n pos) := by
  have h60 := ht.1
  obtain ⟨l1, l2, l3, l4, l5, l6, l7, l8, l9, l10, l11, l12, l13, l14, l15, l16⟩ := lits
  unfold fX7_command
  rw [pz_nm_, h22, pz_n3, pk_mul, pz_n1, nI_add, pz_nm_]
  have hs1 : mS (su σ 0 22 (nI (j + 1))) t n (.inr pos) := ⟨by rw [pz_su_n _ _ (by omega)]; exact h.1, fun i hi => by rw [pz_su_r _ _ (by omega)]; exact h.2.1 i hi, by rw [pz_su_n _ _ (by omega)]; exact h.2.2.1, by rw [pz_su_n _ _ (by omega)]; exact h.2.2.2.1, h.2.2.2.2⟩
  have hf1 : frC2 σ (su σ 0 22 (nI (j + 1))) := ⟨fun a h0 _ => pz_su_r _ _ h0, fun i _ _ h22 => pz_su_n _ _ (by omega)⟩
  rw [sign_ok ht hs1, pz_bd, pz_gd (by omega) (by omega), pz_nm_, pz_cl (by omega)]
  obtain ⟨c1, c2⟩ := mS_14 (i := 3 * j) (v := if pos < n then nI (t pos) else mI 1) hs1
  obtain ⟨τ, et⟩ : ∃ z, z = su (su σ 0 22 (nI (j + 1))) 14 (3 * j) (if pos < n then nI (t pos) else mI 1) := ⟨_, rfl⟩
  rw [← et] at c1 c2 ⊢
  have t22 : τ 0 22 = nI (j + 1) := by rw [et, pz_su_n _ _ (by omega), pz_su_s]
  have t14 : ∀ i, i < 3 * j → τ 14 i = σ 14 i := fun i hi => by rw [et, pz_su_n _ _ (by omega), pz_su_n _ _ (by omega)]
  have hfr : frC2 σ τ := hf1.trans c2
  have go : ∀ (c k : Nat) (ls : List Nat), sgT t n pos = c → c ≠ 0 → c < 128 → k < 8 → (if c = 112 ∨ c = 99 ∨ c = 111 ∨ c = 119 ∨ c = 103 ∨ c = 108 then c else cdT (wlT t n (pos + 1) c).1) = cdT k → (wlT t n (pos + 1) c).2 = ls → kdT t n pos = fwT t n pos k (ls ++ [32]) → ∃ σ', fX7_command_B80 τ (nI (3 * j)) (if pos < n then nI (t pos) else mI 1) = some σ' ∧ cmR σ σ' t n j (orT t n pos) := by
    intro c k ls q1 q2 q3 q4 q5 q6 q7
    rw [(sign_eq (p := pos) ht (show 0 < c by omega) (by omega)).mpr q1]
    obtain ⟨σ', r1, r2, r3, r4, r5⟩ := B80_ok (k := k) ht c1 t22 hj q4 q1 q2 q3 q5 q6 q7
    exact ⟨σ', r1, hfr.trans r2, r3, fun i hi => by rw [r4 i hi]; exact t14 i hi, r5⟩
  simp only [l1, l2, l3, l4, l5, l6, l7, l8, l9, l10, l11, l12, l13, l14, l15, l16]
  have kd0 : ∀ c, sgT t n pos = c → kdT t n pos = if c = 112 then fwT t n pos 0 [105, 101, 114, 32] else if c = 99 then fwT t n pos 1 [108, 111, 115, 101, 32] else if c = 111 then fwT t n pos 2 [112, 101, 110, 32] else if c = 119 then fwT t n pos 3 [101, 105, 103, 104, 32] else if c = 103 then fwT t n pos 5 [111, 110, 101, 32] else if c = 108 then fwT t n pos 6 [111, 97, 100, 32] else if c = 98 then (if sgT t n (pos + 1) = 101 then fwT t n pos 7 [101, 114, 116, 104, 32] else fwT t n pos 4 [97, 114, 103, 101, 32]) else .inl pos := fun c hc => by unfold kdT; rw [hc]
  by_cases a1 : sgT t n pos = 112
  · rw [if_pos ((sign_eq ht (by omega) (by omega)).mpr a1)]
    exact go 112 0 _ a1 (by omega) (by omega) (by omega) rfl rfl (kd0 _ a1)
  rw [if_neg (fun h => a1 ((sign_eq ht (by omega) (by omega)).mp h))]
  by_cases a2 : sgT t n pos = 99
  · rw [if_pos ((sign_eq ht (by omega) (by omega)).mpr a2)]
    exact go 99 1 _ a2 (by omega) (by omega) (by omega) rfl rfl (kd0 _ a2)
  rw [if_neg (fun h => a2 ((sign_eq ht (by omega) (by omega)).mp h))]
  by_cases a3 : sgT t n pos = 111
  · rw [if_pos ((sign_eq ht (by omega) (by omega)).mpr a3)]
    exact go 111 2 _ a3 (by omega) (by omega) (by omega) rfl rfl (kd0 _ a3)
  rw [if_neg (fun h => a3 ((sign_eq ht (by omega) (by omega)).mp h))]
  by_cases a4 : sgT t n pos = 119
  · rw [if_pos ((sign_eq ht (by omega) (by omega)).mpr a4)]
    exact go 119 3 _ a4 (by omega) (by omega) (by omega) rfl rfl (kd0 _ a4)
  rw [if_neg (fun h => a4 ((sign_eq ht (by omega) (by omega)).mp h))]
  by_cases a5 : sgT t n pos = 103
  · rw [if_pos ((sign_eq ht (by omega) (by omega)).mpr a5)]
    exact go 103 5 _ a5 (by omega) (by omega) (by omega) rfl rfl (kd0 _ a5)
  rw [if_neg (fun h => a5 ((sign_eq ht (by omega) (by omega)).mp h))]
  by_cases a6 : sgT t n pos = 108
  · rw [if_pos ((sign_eq ht (by omega) (by omega)).mpr a6)]
    exact go 108 6 _ a6 (by omega) (by omega) (by omega) rfl rfl (kd0 _ a6)
  rw [if_neg (fun h => a6 ((sign_eq ht (by omega) (by omega)).mp h))]
  by_cases a7 : sgT t n pos = 98
  · rw [if_pos ((sign_eq ht (by omega) (by omega)).mpr a7)]
    by_cases a8 : sgT t n (pos + 1) = 101
    · refine go 98 7 [101, 114, 116, 104] a7 (by omega) (by omega) (by omega) ?_ ?_ ?_
      · unfold wlT; rw [if_neg (by omega), if_neg (by omega), if_neg (by omega), if_neg (by omega), if_neg (by omega), if_neg (by omega), if_neg (by omega), if_pos a8]
      · unfold wlT; rw [if_neg (by omega), if_neg (by omega), if_neg (by omega), if_neg (by omega), if_neg (by omega), if_neg (by omega), if_pos a8]
      · rw [kd0 _ a7, if_neg (by omega), if_neg (by omega), if_neg (by omega), if_neg (by omega), if_neg (by omega), if_neg (by omega), if_pos rfl, if_pos a8]
        rfl
    · refine go 98 4 [97, 114, 103, 101] a7 (by omega) (by omega) (by omega) ?_ ?_ ?_
      · unfold wlT; rw [if_neg (by omega), if_neg (by omega), if_neg (by omega), if_neg (by omega), if_neg (by omega), if_neg (by omega), if_neg (by omega), if_neg a8]
      · unfold wlT; rw [if_neg (by omega), if_neg (by omega), if_neg (by omega), if_neg (by omega), if_neg (by omega), if_neg (by omega), if_neg a8]
      · rw [kd0 _ a7, if_neg (by omega), if_neg (by omega), if_neg (by omega), if_neg (by omega), if_neg (by omega), if_neg (by omega), if_pos rfl, if_neg a8]
        rfl
  rw [if_neg (fun h => a7 ((sign_eq ht (by omega) (by omega)).mp h)), pz_nm_, c1.2.2.1]
  obtain ⟨g1, g2⟩ := mS_fault (q := pos) c1 c1.2.2.2.2
  refine ⟨_, rfl, hfr.trans g2.c, by rw [g2.2 22 (by omega) (by omega)]; exact t22, fun i hi => by rw [g2.1 14 (by omega)]; exact t14 i hi, ?_⟩
  have : orT t n pos = .inl pos := by
    unfold orT kdT
    rw [if_neg a1, if_neg a2, if_neg a3, if_neg a4, if_neg a5, if_neg a6, if_neg a7]
  rw [this]
  exact g1
def psR (σ σ' : St) (n j : Nat) (o : Nat ⊕ List (Nat × Nat × Nat × Nat)) : Prop := frC2 σ σ' ∧ (∀ i, i < 3 * j → σ' 14 i = σ 14 i) ∧ match o with
  | .inl f => σ' 0 20 = nI f ∧ f ≤ n
  | .inr l => σ' 0 20 = mI 1 ∧ σ' 0 22 = nI (j + l.length) ∧ ∀ i (h : i < l.length), enM σ' (j + i) l[i].1 l[i].2.1 l[i].2.2.1
theorem parse_loop {t : Nat → Nat} {n : Nat} (ht : txOk t n) : ∀ m p j fu σ, mS σ t n (.inr p) → 0 < p → σ 0 22 = nI j → j ≤ p → n - p ≤ m → m < fu → ∃ σ', fX7_parse_L19 (fun σ => fX7_parse_B52 σ) fu σ = some σ' ∧ psR σ σ' n j (if p = n then .inr [] else paT t n m p) := by
  have h60 := ht.1
  have e59 : (59 : Int32) = nI 59 := by decide
  intro m
  induction m with
  | zero =>
    intro p j fu σ h h0 h22 hj hm hf
    obtain ⟨fu, rfl⟩ : ∃ z, fu = z + 1 := ⟨fu - 1, by omega⟩
    have hp : p = n := by have := h.2.2.2.2; omega
    have hsg : ¬ sgT t n p = 59 := fun e => by have := sg_lt e (by omega); omega
    rw [fX7_parse_L19, h.2.2.2.1, pz_n0, if_neg (pz_nlem (by omega) (by omega) (by omega)), sign_ok ht h, pz_bd, e59, if_neg (fun e => hsg ((sign_eq ht (by omega) (by omega)).mp e)), if_pos hp]
    unfold fX7_parse_B52
    rw [h.2.2.2.1, pz_n0, if_neg (pz_nlem (by omega) (by omega) (by omega)), h.1, h.2.2.1, if_pos (nI_le (by omega) (by omega))]
    exact ⟨σ, rfl, frC2.refl _, fun _ _ => rfl, h.2.2.2.1, h22, fun i hi => absurd hi (Nat.not_lt_zero _)⟩
  | succ m ih =>
    intro p j fu σ h h0 h22 hj hm hf
    obtain ⟨fu, rfl⟩ : ∃ z, fu = z + 1 := ⟨fu - 1, by omega⟩
    have hpn := h.2.2.2.2
    rw [fX7_parse_L19, h.2.2.2.1, pz_n0, if_neg (pz_nlem (by omega) (by omega) (by omega)), sign_ok ht h, pz_bd, e59]
    by_cases es : sgT t n p = 59
    · have hlt := sg_lt es (by omega)
      rw [if_pos ((sign_eq ht (by omega) (by omega)).mpr es), pz_nm_, h.2.2.1, pz_n1, nI_add, if_neg (by omega)]
      obtain ⟨g1, g2⟩ := mS_pos (q := p + 1) h h.2.2.2.1 (by omega)
      obtain ⟨s2, a1, a2, a3, a4, a5⟩ := command_ok ht g1 (by rw [g2.2 22 (by omega) (by omega)]; exact h22) (by omega)
      rw [a1, pz_bd]
      have hnx : nxT t n p = orT t n (p + 1) := by unfold nxT; rw [if_neg (by omega), if_pos es]
      have hpa : paT t n (m + 1) p = (match orT t n (p + 1) with
        | .inl f => .inl f
        | .inr (k, a, b, q) => if q = n then .inr [(k, a, b, q)] else match paT t n m q with
          | .inl f => .inl f
          | .inr l => .inr ((k, a, b, q) :: l)) := by rw [← hnx]; rfl
      rw [hpa]
      have o2 : ∀ i, i < 3 * j → s2 14 i = σ 14 i := fun i hi => by rw [a4 i hi, g2.1 14 (by omega)]
      cases ho : orT t n (p + 1) with
      | inl f =>
        rw [ho] at a5
        obtain ⟨fu, rfl⟩ : ∃ z, fu = z + 1 := ⟨fu - 1, by omega⟩
        have hf2 := a5.2.2.2
        rw [fX7_parse_L19, a5.2.2.1, pz_n0, if_pos (nI_le (Nat.zero_le _) (by omega))]
        unfold fX7_parse_B52
        rw [a5.2.2.1, pz_n0, if_pos (nI_le (Nat.zero_le _) (by omega))]
        exact ⟨s2, rfl, g2.c.trans a2, o2, a5.2.2.1, hf2⟩
      | inr x =>
        obtain ⟨k, a, b, q⟩ := x
        rw [ho] at a5
        obtain ⟨a5, a6⟩ := a5
        obtain ⟨w1, w2, w3, -⟩ := orT_lt ho
        obtain ⟨s3, b1, b2, b3, b4⟩ := ih q (j + 1) fu s2 a5 (by omega) a3 (by omega) (by omega) (by omega)
        rw [b1]
        have en : enM s3 j k a b := ⟨by rw [b3 _ (by omega)]; exact a6.1, by rw [b3 _ (by omega)]; exact a6.2.1, by rw [b3 _ (by omega)]; exact a6.2.2⟩
        refine ⟨s3, rfl, (g2.c.trans a2).trans b2, fun i hi => by rw [b3 i (by omega)]; exact o2 i hi, ?_⟩
        dsimp only
        by_cases eq : q = n
        · rw [if_pos eq] at b4 ⊢
          obtain ⟨d1, d2, d3⟩ := b4
          refine ⟨d1, by rw [d2]; rfl, fun i hi => ?_⟩
          have : i = 0 := by
            have h1 : [(k, a, b, q)].length = 1 := rfl
            omega
          subst this
          exact en
        · rw [if_neg eq] at b4 ⊢
          cases hpm : paT t n m q with
          | inl f =>
            rw [hpm] at b4
            exact b4
          | inr l =>
            rw [hpm] at b4
            obtain ⟨d1, d2, d3⟩ := b4
            refine ⟨d1, ?_, fun i hi => ?_⟩
            · rw [d2]
              show nI (j + 1 + l.length) = nI (j + (l.length + 1))
              rw [show j + 1 + l.length = j + (l.length + 1) by omega]
            · cases i with
              | zero => exact en
              | succ i =>
                have hi2 : i < l.length := by
                  have : ((k, a, b, q) :: l).length = l.length + 1 := rfl
                  omega
                have := d3 i hi2
                rw [show j + (i + 1) = j + 1 + i by omega]
                exact this
    · rw [if_neg (fun e => es ((sign_eq ht (by omega) (by omega)).mp e))]
      unfold fX7_parse_B52
      rw [h.2.2.2.1, pz_n0, if_neg (pz_nlem (by omega) (by omega) (by omega)), h.1, h.2.2.1]
      by_cases e : p = n
      · rw [if_pos (nI_le (by omega) (by omega)), if_pos e]
        exact ⟨σ, rfl, frC2.refl _, fun _ _ => rfl, h.2.2.2.1, h22, fun i hi => absurd hi (Nat.not_lt_zero _)⟩
      · rw [if_neg (nI_ge (by omega) (by omega)), if_neg e, pz_nm_]
        obtain ⟨g1, g2⟩ := mS_fault (q := p) h (by omega)
        have hpa : paT t n (m + 1) p = .inl p := by
          have hnx : nxT t n p = .inl p := by unfold nxT; rw [if_neg (by omega), if_neg es]
          unfold paT
          rw [hnx]
        rw [hpa]
        exact ⟨_, rfl, g2.c, fun i _ => by rw [g2.1 14 (by omega)], g1.2.2⟩
theorem parse_ok {σ : St} {t : Nat → Nat} {n : Nat} (ht : txOk t n) (h1 : σ 0 18 = nI n) (h2 : ∀ i, i < n → σ 13 i = nI (t i)) : ∃ σ', fX7_parse σ = some σ' ∧ psR σ σ' n 0 (paT t n 60 0) := by
  have h60 := ht.1
  unfold fX7_parse
  simp only [pz_nm_, pz_n0, pz_n1, pz_neg]
  obtain ⟨τ, et⟩ : ∃ z, z = su (su (su σ 0 19 (nI 0)) 0 20 (mI 1)) 0 22 (nI 0) := ⟨_, rfl⟩
  rw [← et]
  have hs : mS τ t n (.inr 0) := by
    refine ⟨?_, fun i hi => ?_, ?_, ?_, Nat.zero_le _⟩
    · rw [et, pz_su_n _ _ (by omega), pz_su_n _ _ (by omega), pz_su_n _ _ (by omega)]; exact h1
    · rw [et, pz_su_r _ _ (by omega), pz_su_r _ _ (by omega), pz_su_r _ _ (by omega)]; exact h2 i hi
    · rw [et, pz_su_n _ _ (by omega), pz_su_n _ _ (by omega), pz_su_s]
    · rw [et, pz_su_n _ _ (by omega), pz_su_s]
  have fr : frC2 σ τ := ⟨fun a h0 _ => by rw [et, pz_su_r _ _ h0, pz_su_r _ _ h0, pz_su_r _ _ h0], fun j a b c => by rw [et, pz_su_n _ _ (by omega), pz_su_n _ _ (by omega), pz_su_n _ _ (by omega)]⟩
  obtain ⟨s2, a1, a2, a3, a4, a5⟩ := command_ok (j := 0) ht hs (by rw [et, pz_su_s]) (by omega)
  rw [a1, pz_bd]
  have hpa : paT t n 60 0 = (match orT t n 0 with
    | .inl f => .inl f
    | .inr (k, a, b, q) => if q = n then .inr [(k, a, b, q)] else match paT t n 59 q with
      | .inl f => .inl f
      | .inr l => .inr ((k, a, b, q) :: l)) := rfl
  rw [hpa]
  cases ho : orT t n 0 with
  | inl f =>
    rw [ho] at a5
    have hf2 := a5.2.2.2
    rw [fX7_parse_L19, a5.2.2.1, pz_n0, if_pos (nI_le (Nat.zero_le _) (by omega))]
    unfold fX7_parse_B52
    rw [a5.2.2.1, pz_n0, if_pos (nI_le (Nat.zero_le _) (by omega))]
    exact ⟨s2, rfl, fr.trans a2, fun i hi => by omega, a5.2.2.1, hf2⟩
  | inr x =>
    obtain ⟨k, a, b, q⟩ := x
    rw [ho] at a5
    obtain ⟨a5, a6⟩ := a5
    obtain ⟨w1, w2, w3, -⟩ := orT_lt ho
    obtain ⟨s3, b1, b2, b3, b4⟩ := parse_loop ht 59 q 1 1000 s2 a5 (by omega) a3 (by omega) (by omega) (by omega)
    rw [b1]
    have en : enM s3 0 k a b := ⟨by rw [b3 _ (by omega)]; exact a6.1, by rw [b3 _ (by omega)]; exact a6.2.1, by rw [b3 _ (by omega)]; exact a6.2.2⟩
    refine ⟨s3, rfl, (fr.trans a2).trans b2, fun i hi => by omega, ?_⟩
    dsimp only
    by_cases eq : q = n
    · rw [if_pos eq] at b4 ⊢
      obtain ⟨d1, d2, d3⟩ := b4
      refine ⟨d1, by rw [d2]; rfl, fun i hi => ?_⟩
      have : i = 0 := by
        have h1 : [(k, a, b, q)].length = 1 := rfl
        omega
      subst this
      exact en
    · rw [if_neg eq] at b4 ⊢
      cases hpm : paT t n 59 q with
      | inl f =>
        rw [hpm] at b4
        exact b4
      | inr l =>
        rw [hpm] at b4
        obtain ⟨d1, d2, d3⟩ := b4
        refine ⟨d1, ?_, fun i hi => ?_⟩
        · rw [d2]
          show nI (1 + l.length) = nI (0 + (l.length + 1))
          rw [show 1 + l.length = 0 + (l.length + 1) by omega]
        · cases i with
          | zero => exact en
          | succ i =>
            have hi2 : i < l.length := by
              have : ((k, a, b, q) :: l).length = l.length + 1 := rfl
              omega
            have := d3 i hi2
            rw [show 0 + (i + 1) = 1 + i by omega]
            exact this
