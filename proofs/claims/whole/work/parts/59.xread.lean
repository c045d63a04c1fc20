/-! Pure rows: the class reads its text. -/
def txOk (t : Nat → Nat) (n : Nat) : Prop := n ≤ 60 ∧ ∀ i, i < n → 32 ≤ t i ∧ t i ≤ 126
def tX (σ : St) (t : Nat → Nat) (n pos : Nat) : Prop := σ 3 0 = nI n ∧ σ 3 5 = nI pos ∧ ∀ i, i < n → σ 4 i = nI (t i)
def frQ (σ σ' : St) : Prop := (∀ a, a ≠ 3 → σ' a = σ a) ∧ σ' 3 0 = σ 3 0
theorem frQ.refl (σ : St) : frQ σ σ := ⟨fun _ _ => rfl, rfl⟩
theorem frQ.trans {a b c : St} (h1 : frQ a b) (h2 : frQ b c) : frQ a c := ⟨fun k x => by rw [h2.1 k x, h1.1 k x], by rw [h2.2, h1.2]⟩
def frR (σ σ' : St) : Prop := (∀ a, a ≠ 3 → σ' a = σ a) ∧ ∀ j, j ≠ 5 → σ' 3 j = σ 3 j
theorem frR.refl (σ : St) : frR σ σ := ⟨fun _ _ => rfl, fun _ _ => rfl⟩
theorem frR.trans {a b c : St} (h1 : frR a b) (h2 : frR b c) : frR a c := ⟨fun k x => by rw [h2.1 k x, h1.1 k x], fun j hj => by rw [h2.2 j hj, h1.2 j hj]⟩
theorem frR.q {a b : St} (h : frR a b) : frQ a b := ⟨h.1, h.2 0 (by omega)⟩
theorem tX_put {σ : St} {t : Nat → Nat} {n pos q : Nat} (h : tX σ t n pos) : tX (su σ 3 5 (nI q)) t n q ∧ frR σ (su σ 3 5 (nI q)) :=
  ⟨⟨by rw [pz_su_n _ _ (by omega)]; exact h.1, pz_su_s _ _ _ _, fun i hi => by rw [pz_su_n _ _ (by omega)]; exact h.2.2 i hi⟩, fun a ha => pz_su_r _ _ ha, fun j hj => pz_su_n _ _ (by omega)⟩
theorem tX_slot {σ : St} {t : Nat → Nat} {n pos j : Nat} {v : Int32} (h : tX σ t n pos) (h0 : j ≠ 0) (h5 : j ≠ 5) : tX (su σ 3 j v) t n pos ∧ frQ σ (su σ 3 j v) :=
  ⟨⟨by rw [pz_su_n _ _ (by omega)]; exact h.1, by rw [pz_su_n _ _ (by omega)]; exact h.2.1, fun i hi => by rw [pz_su_n _ _ (by omega)]; exact h.2.2 i hi⟩, fun a ha => pz_su_r _ _ ha, pz_su_n _ _ (by omega)⟩
theorem len_w : ∀ w, w < 8 → lenS.getD w 0 = (wdT w).length := by decide
theorem ch_w : ∀ w, w < 8 → ∀ k, k < (wdT w).length → chS w k = nI ((wdT w).getD k 0) := by decide
theorem wd_b : ∀ w, w < 8 → ∀ k, k < (wdT w).length → 32 ≤ (wdT w).getD k 0 ∧ (wdT w).getD k 0 ≤ 126 := by decide
theorem wd_l : ∀ w, w < 8 → 0 < (wdT w).length ∧ (wdT w).length ≤ 6 := by decide
theorem drop_w {l : List Nat} {s : Nat} (h : s < l.length) : l.drop s = l.getD s 0 :: l.drop (s + 1) := by
  rw [List.drop_eq_getElem_cons h, List.getD_eq_getElem?_getD, List.getElem?_eq_getElem h]
  rfl
theorem letters_ok {σ : St} {t : Nat → Nat} {n pos w : Nat} (ht : txOk t n) (h : tX σ t n pos) (hp : pos ≤ n) (hw : w < 8) : fX5_lettersThatAre w σ = some (nI (mtL t n (wdT w) pos)) := by
  have h60 := ht.1
  have hl := wd_l w hw
  unfold fX5_lettersThatAre
  rw [pz_n0]
  refine pz_loop (F := fun m (_ : Unit) s => fX5_lettersThatAre_L2 w σ (fun y2 => fX5_lettersThatAre_B48 w σ y2) m (nI s)) (P := fun o => o = some (nI (mtL t n (wdT w) pos))) (fun s _ => mtL t n (wdT w) pos = s + mtL t n ((wdT w).drop s) (pos + s)) (wdT w).length ?_ ?_ (wdT w).length 0 () 1000 (by omega) (by omega) (by rw [Nat.zero_add]; rfl)
  · intro m _ h1
    show fX5_lettersThatAre_L2 w σ _ (m + 1) (nI (wdT w).length) = _
    rw [List.drop_length] at h1
    rw [fX5_lettersThatAre_L2, len_w w hw, if_pos (nI_le (Nat.le_refl _) (by omega)), h1]
    rfl
  · intro m s _ hs h1
    show fX5_lettersThatAre_L2 w σ _ (m + 1) (nI s) = _ ∨ ∃ b', _ ∧ fX5_lettersThatAre_L2 w σ _ (m + 1) (nI s) = fX5_lettersThatAre_L2 w σ _ m (nI (s + 1))
    have hb := wd_b w hw s hs
    rw [drop_w hs] at h1
    rw [fX5_lettersThatAre_L2, len_w w hw, if_neg (nI_ge hs (by omega)), h.1, h.2.1, nI_add]
    by_cases e : pos + s < n
    · rw [if_neg (nI_ge e (by omega)), pz_gd (by omega) (by omega), pz_gd hs (by omega), pz_cl (by omega), pz_cl (by omega), h.2.2 _ e, ch_w w hw s hs]
      have hsg : sgT t n (pos + s) = t (pos + s) := if_pos e
      have htb := ht.2 _ e
      by_cases e2 : t (pos + s) = (wdT w).getD s 0
      · right
        rw [if_pos (by rw [e2]), pz_nm_, pz_n1, nI_add]
        refine ⟨(), ?_, rfl⟩
        rw [h1, mt1 (by rw [hsg, e2]), show pos + s + 1 = pos + (s + 1) by omega]
        omega
      · left
        rw [if_neg (by rw [nI_eq (by omega) (by omega)]; exact e2), h1, mt0 (by rw [hsg]; exact e2)]
        rfl
    · left
      have hsg : sgT t n (pos + s) = 0 := if_neg e
      rw [if_pos (nI_le (by omega) (by omega)), h1, mt0 (by omega)]
      rfl
theorem readWord_ok {σ : St} {t : Nat → Nat} {n pos : Nat} (ht : txOk t n) (h : tX σ t n pos) (hp : pos ≤ n) : ∃ r σ', fX5_readWord σ = some (r, σ') ∧ frQ σ σ' ∧ match kdT t n pos with
    | .inl f => r = nI 0 ∧ tX σ' t n f
    | .inr (k, p) => r = nI 1 ∧ tX σ' t n p ∧ σ' 3 1 = nI k := by
  have h60 := ht.1
  have hk := kd_ok t n pos
  unfold fX5_readWord
  rw [pz_n0]
  show ∃ r σ', fX5_readWord_L4 _ 1000 σ (nI (lgT t n pos 0)) (nI 0) = some (r, σ') ∧ _
  refine pz_loop (F := fun m (_ : Unit) w => fX5_readWord_L4 (fun σ y1 => fX5_readWord_B59 σ y1) m σ (nI (lgT t n pos w)) (nI w)) (P := fun o => ∃ r σ', o = some (r, σ') ∧ frQ σ σ' ∧ match kdT t n pos with
    | .inl f => r = nI 0 ∧ tX σ' t n f
    | .inr (k, p) => r = nI 1 ∧ tX σ' t n p ∧ σ' 3 1 = nI k) (fun w _ => ∀ w', w' < w → mtL t n (wdT w') pos ≠ (wdT w').length) 8 ?_ ?_ 8 0 () 1000 (by omega) (by omega) (fun w' h => absurd h (Nat.not_lt_zero _))
  · intro m _ h1
    have e7 : (7 : Int32) = nI 7 := pz_n7
    show ∃ r σ', fX5_readWord_L4 _ (m + 1) σ (nI (lgT t n pos 8)) (nI 8) = some (r, σ') ∧ _
    rw [fX5_readWord_L4, pz_n7, if_pos (nI_lt (by omega) (by omega))]
    unfold fX5_readWord_B59
    rw [pz_nm_, h.2.1, nI_add, hk.2 h1]
    obtain ⟨g1, g2⟩ := tX_put (q := pos + lgT t n pos 8) h
    exact ⟨_, _, rfl, g2.q, rfl, g1⟩
  · intro m w _ hw h1
    have hl := wd_l w hw
    have hm := mtL_le t n (wdT w) pos
    have hlg : lgT t n pos w ≤ 6 := by
      have g : ∀ v, v ≤ 8 → lgT t n pos v ≤ 6 := by
        intro v
        induction v with
        | zero => intro _; exact Nat.zero_le _
        | succ v ih =>
          intro hv
          have i1 := ih (by omega)
          have i2 := mtL_le t n (wdT v) pos
          have i3 := wd_l v (by omega)
          show max (lgT t n pos v) (mtL t n (wdT v) pos) ≤ 6
          omega
      exact g w (by omega)
    show (∃ r σ', fX5_readWord_L4 _ (m + 1) σ (nI (lgT t n pos w)) (nI w) = some (r, σ') ∧ _) ∨ ∃ b', _ ∧ fX5_readWord_L4 _ (m + 1) σ (nI (lgT t n pos w)) (nI w) = fX5_readWord_L4 _ m σ (nI (max (lgT t n pos w) (mtL t n (wdT w) pos))) (nI (w + 1))
    rw [fX5_readWord_L4, pz_n7, if_neg (nI_nlt (by omega) (by omega)), pz_gd hw (by omega), pz_cl (by omega), letters_ok ht h hp hw, pz_bd, pz_gd hw (by omega), len_w w hw]
    by_cases e : mtL t n (wdT w) pos = (wdT w).length
    · left
      rw [if_pos (by rw [e]), pz_nm_, pz_nm_, hk.1 w hw e, e]
      obtain ⟨g1, g2⟩ := tX_slot (j := 1) (v := nI w) h (by omega) (by omega)
      rw [g1.2.1, nI_add]
      obtain ⟨g3, g4⟩ := tX_put (q := pos + (wdT w).length) g1
      exact ⟨_, _, rfl, g2.trans g4.q, rfl, g3, by rw [pz_su_n _ _ (by omega), pz_su_s]⟩
    · right
      rw [if_neg (by rw [nI_eq (by omega) (by omega)]; exact e), pz_max (by omega) (by omega), pz_nm_, pz_nm_, pz_n1, nI_add]
      refine ⟨(), fun w' hw' => ?_, rfl⟩
      by_cases e2 : w' = w
      · rw [e2]; exact e
      · exact h1 w' (by omega)
theorem isDigit_ok (σ : St) (c : Nat) (hc : c < 2 ^ 31) : fX5_isDigit σ (nI c) = some (bI (decide (48 ≤ c) && decide (c ≤ 57))) := by
  have e48 : (48 : Int32) = nI 48 := by decide
  have e57 : (57 : Int32) = nI 57 := by decide
  unfold fX5_isDigit
  rw [e48, e57]
  by_cases a : c < 48
  · rw [if_pos (nI_lt a (by omega)), decide_eq_false (by omega)]; rfl
  · rw [if_neg (nI_nlt (by omega) (by omega)), decide_eq_true (show 48 ≤ c by omega)]
    by_cases b : 57 < c
    · rw [if_pos (nI_lt b (by omega)), decide_eq_false (by omega)]; rfl
    · rw [if_neg (nI_nlt (by omega) (by omega)), decide_eq_true (show c ≤ 57 by omega)]; rfl
theorem readNumber_loop {t : Nat → Nat} {n d : Nat} {K : St → Int32 → Int32 → Option (Int32 × St)} (ht : txOk t n) (hd : d ≤ 4) : ∀ e j m σ p acc, j + e = d → e < m → tX σ t n p → p ≤ n → ∃ σ', fX5_readNumber_L4 (nI d) K m σ (nI j) (nI acc) = K σ' (nI (j + ndT t n e p)) (nI (nvT t n e p acc)) ∧ tX σ' t n (p + ndT t n e p) ∧ frR σ σ' := by
  have h60 := ht.1
  intro e
  induction e with
  | zero =>
    intro j m σ p acc h1 h2 h3 h4
    obtain ⟨m, rfl⟩ : ∃ z, m = z + 1 := ⟨m - 1, by omega⟩
    rw [fX5_readNumber_L4, if_pos (nI_le (by omega) (by omega))]
    exact ⟨σ, rfl, h3, frR.refl _⟩
  | succ e ih =>
    intro j m σ p acc h1 h2 h3 h4
    obtain ⟨m, rfl⟩ : ∃ z, m = z + 1 := ⟨m - 1, by omega⟩
    rw [fX5_readNumber_L4, if_neg (nI_ge (by omega) (by omega)), h3.1, h3.2.1]
    show ∃ σ', _ = K σ' (nI (j + if dgT t n p = true then ndT t n e (p + 1) + 1 else 0)) (nI (if dgT t n p = true then nvT t n e (p + 1) (10 * acc + sgT t n p - 48) else acc)) ∧ tX σ' t n (p + if dgT t n p = true then ndT t n e (p + 1) + 1 else 0) ∧ _
    by_cases hp : p < n
    · have hb := ht.2 p hp
      have hsg : sgT t n p = t p := if_pos hp
      have hdig : dgT t n p = (decide (48 ≤ t p) && decide (t p ≤ 57)) := by unfold dgT; rw [hsg]
      rw [if_neg (nI_ge hp (by omega)), pz_gd (by omega) (by omega), pz_cl (by omega), h3.2.2 p hp, isDigit_ok _ _ (by omega), pz_bd, ← hdig]
      cases hdg : dgT t n p with
      | false =>
        rw [if_pos (show bI false = 0 by decide), if_neg (show ¬ false = true by decide), if_neg (show ¬ false = true by decide)]
        exact ⟨σ, rfl, h3, frR.refl _⟩
      | true =>
        have hdt := dgT_iff.mp hdg
        rw [if_neg (show ¬ bI true = 0 by decide), pz_gd (by omega) (by omega), if_pos rfl, if_pos rfl]
        have e48 : (48 : Int32) = nI 48 := by decide
        rw [pz_nm_, pz_nm_, pz_nm_, pz_n10, e48, pk_mul, nI_add, pz_sub (by omega), pz_n1, nI_add, nI_add, ← hsg]
        obtain ⟨g1, g2⟩ := tX_put (q := p + 1) h3
        obtain ⟨σ', b1, b2, b3⟩ := ih (j + 1) m _ (p + 1) (10 * acc + sgT t n p - 48) (by omega) (by omega) g1 (by omega)
        rw [b1, show j + 1 + ndT t n e (p + 1) = j + (ndT t n e (p + 1) + 1) by omega]
        refine ⟨σ', rfl, ?_, g2.trans b3⟩
        rw [show p + (ndT t n e (p + 1) + 1) = p + 1 + ndT t n e (p + 1) by omega]
        exact b2
    · have hsg : sgT t n p = 0 := if_neg hp
      have hdg : ¬ dgT t n p = true := fun h => by have := dgT_iff.mp h; omega
      rw [if_pos (nI_le (by omega) (by omega)), if_neg hdg, if_neg hdg]
      exact ⟨σ, rfl, h3, frR.refl _⟩
theorem readNumber_ok {σ : St} {t : Nat → Nat} {n d p : Nat} (ht : txOk t n) (hd0 : 0 < d) (hd : d ≤ 4) (h : tX σ t n p) (hp : p ≤ n) : ∃ r σ', fX5_readNumber σ (nI d) = some (r, σ') ∧ frR σ σ' ∧ match nuT t n d p with
    | .inl f => r = mI 1 ∧ tX σ' t n f
    | .inr (v, q) => r = nI v ∧ tX σ' t n q := by
  have h60 := ht.1
  unfold fX5_readNumber
  rw [pz_n0]
  obtain ⟨σ', a1, a2, a3⟩ := readNumber_loop (K := fun σ y2 y3 => fX5_readNumber_B69 σ y2 y3) ht hd d 0 1000 σ p 0 (by omega) (by omega) h hp
  have hle := ndT_le (t := t) d p hp
  rw [a1]
  unfold fX5_readNumber_B69 nuT
  rw [Nat.zero_add, pz_n0, pz_n1, pz_neg]
  by_cases e : ndT t n d p = 0
  · rw [if_pos (by rw [e]), if_pos e]
    refine ⟨_, _, rfl, a3, rfl, ?_⟩
    rw [e, Nat.add_zero] at a2
    exact a2
  · rw [if_neg (by rw [nI_eq (by omega) (by omega)]; exact e), if_neg e]
    exact ⟨_, _, rfl, a3, rfl, a2⟩
theorem readSign_ok {σ : St} {t : Nat → Nat} {n p c : Nat} (ht : txOk t n) (h : tX σ t n p) (hp : p ≤ n) (hc : 32 ≤ c) (hc2 : c ≤ 126) : ∃ σ', fX5_readSign σ (nI c) = some (if sgT t n p = c then nI 1 else nI 0, σ') ∧ frR σ σ' ∧ tX σ' t n (if sgT t n p = c then p + 1 else p) := by
  have h60 := ht.1
  unfold fX5_readSign
  rw [h.1, h.2.1]
  by_cases e : p < n
  · have hb := ht.2 p e
    have hsg : sgT t n p = t p := if_pos e
    rw [if_neg (nI_ge e (by omega)), pz_gd (by omega) (by omega), pz_cl (by omega), h.2.2 p e, hsg]
    by_cases e2 : t p = c
    · rw [if_pos (by rw [e2]), if_pos e2, if_pos e2, pz_nm_, pz_n1, nI_add]
      obtain ⟨g1, g2⟩ := tX_put (q := p + 1) h
      exact ⟨_, rfl, g2, g1⟩
    · rw [if_neg (by rw [nI_eq (by omega) (by omega)]; exact e2), if_neg e2, if_neg e2]
      exact ⟨_, rfl, frR.refl _, h⟩
  · have hsg : sgT t n p = 0 := if_neg e
    rw [if_pos (nI_le (by omega) (by omega)), if_neg (by omega), if_neg (by omega)]
    exact ⟨_, rfl, frR.refl _, h⟩
def rdX (σ' : St) (t : Nat → Nat) (n : Nat) (r : Int32) (o : Nat ⊕ (Nat × Nat × Nat × Nat)) : Prop := match o with
  | .inl f => r = nI 0 ∧ tX σ' t n f
  | .inr (k, a, b, q) => r = nI 1 ∧ tX σ' t n q ∧ σ' 3 1 = nI k ∧ σ' 3 2 = nI a ∧ (dST k ≠ 0 → σ' 3 3 = nI b)
theorem dgF_k : ∀ k, k < 8 → dgF k = nI (dFT k) := by decide
theorem dgS_k : ∀ k, k < 8 → dgS k = nI (dST k) := by decide
theorem readOrder_ok {σ : St} {t : Nat → Nat} {n pos : Nat} (ht : txOk t n) (h : tX σ t n pos) (hp : pos ≤ n) : ∃ r σ', fX5_readNext_B18 σ = some (r, σ') ∧ frQ σ σ' ∧ rdX σ' t n r (orT t n pos) := by
  have h60 := ht.1
  have e32 : (32 : Int32) = nI 32 := by decide
  unfold fX5_readNext_B18
  obtain ⟨r1, s1, a1, a2, a3⟩ := readWord_ok ht h hp
  rw [a1, pz_bd]
  dsimp only
  unfold orT
  cases hk : kdT t n pos with
  | inl f =>
    rw [hk] at a3
    obtain ⟨rfl, b2⟩ := a3
    rw [if_pos (show nI 0 = 0 by decide)]
    exact ⟨_, _, rfl, a2, rfl, b2⟩
  | inr x =>
    obtain ⟨k, p⟩ := x
    rw [hk] at a3
    obtain ⟨rfl, b2, b3⟩ := a3
    obtain ⟨g1, g2, g3⟩ := kdT_lt hk
    have g4 := dFT_b k g1
    have g5 := dST_b k g1
    rw [if_neg (show ¬ nI 1 = 0 by decide), b3, pz_gd g1 (by omega), pz_cl (by omega), dgF_k k g1]
    obtain ⟨r2, s2, c1, c2, c3⟩ := readNumber_ok ht g4.1 g4.2 b2 g3
    rw [c1, pz_bd]
    dsimp only
    rw [pz_nm_, pz_su_s]
    have k1 : s2 3 1 = nI k := by rw [c2.2 1 (by omega)]; exact b3
    cases hn : nuT t n (dFT k) p with
    | inl f =>
      rw [hn] at c3
      obtain ⟨rfl, d2⟩ := c3
      obtain ⟨u1, u2⟩ := tX_slot (j := 2) (v := mI 1) d2 (by omega) (by omega)
      rw [if_neg (show ¬ (0 : Int32) ≤ mI 1 by decide)]
      exact ⟨_, _, rfl, (a2.trans c2.q).trans u2, rfl, u1⟩
    | inr y =>
      obtain ⟨a, q⟩ := y
      rw [hn] at c3
      obtain ⟨rfl, d2⟩ := c3
      obtain ⟨n1, n2, n3⟩ := nuT_lt g3 hn
      have p4 : 10 ^ dFT k ≤ 10000 := Nat.pow_le_pow_right (n := 10) (j := 4) (by omega) g4.2
      obtain ⟨u1, u2⟩ := tX_slot (j := 2) (v := nI a) d2 (by omega) (by omega)
      rw [if_pos (by rw [pz_n0]; exact nI_le (Nat.zero_le _) (by omega)), pz_su_n _ _ (by omega), k1, pz_gd g1 (by omega), pz_cl (by omega), dgS_k k g1]
      have k3 : su s2 3 2 (nI a) 3 1 = nI k := by rw [pz_su_n _ _ (by omega)]; exact k1
      dsimp only
      by_cases e0 : dST k = 0
      · rw [if_pos (by rw [e0]; decide), if_pos e0]
        exact ⟨_, _, rfl, (a2.trans c2.q).trans u2, rfl, u1, k3, pz_su_s _ _ _ _, fun h => absurd e0 h⟩
      · rw [if_neg (by rw [pz_n0, nI_eq (by omega) (by omega)]; exact e0), if_neg e0, e32]
        obtain ⟨s3, v1, v2, v3⟩ := readSign_ok (c := 32) ht u1 n2 (by omega) (by omega)
        rw [v1, pz_bd]
        dsimp only
        by_cases es : sgT t n q = 32
        · rw [if_pos es] at v3
          rw [if_pos es, if_pos es, if_neg (show ¬ nI 1 = 0 by decide), v2.2 1 (by omega), k3, pz_gd g1 (by omega), pz_cl (by omega), dgS_k k g1]
          have hq := sg_lt es (by omega)
          obtain ⟨r4, s4, w1, w2, w3⟩ := readNumber_ok ht (show 0 < dST k by omega) (by omega) v3 (by omega)
          rw [w1, pz_bd]
          dsimp only
          rw [pz_nm_, pz_su_s]
          have ks : ∀ v, su s4 3 3 v 3 1 = nI k ∧ su s4 3 3 v 3 2 = nI a := fun v => ⟨by rw [pz_su_n _ _ (by omega), w2.2 1 (by omega), v2.2 1 (by omega)]; exact k3, by rw [pz_su_n _ _ (by omega), w2.2 2 (by omega), v2.2 2 (by omega)]; exact pz_su_s _ _ _ _⟩
          have fr4 : frQ σ s4 := (((a2.trans c2.q).trans u2).trans v2.q).trans w2.q
          cases hm : nuT t n (dST k) (q + 1) with
          | inl f =>
            rw [hm] at w3
            obtain ⟨rfl, x2⟩ := w3
            obtain ⟨y1, y2⟩ := tX_slot (j := 3) (v := mI 1) x2 (by omega) (by omega)
            rw [if_pos (show mI 1 < (0 : Int32) by decide)]
            exact ⟨_, _, rfl, fr4.trans y2, rfl, y1⟩
          | inr z =>
            obtain ⟨b, q3⟩ := z
            rw [hm] at w3
            obtain ⟨rfl, x2⟩ := w3
            obtain ⟨m1, m2, m3⟩ := nuT_lt (by omega) hm
            have p2 : 10 ^ dST k ≤ 100 := Nat.pow_le_pow_right (n := 10) (j := 2) (by omega) g5
            obtain ⟨y1, y2⟩ := tX_slot (j := 3) (v := nI b) x2 (by omega) (by omega)
            rw [if_neg (by rw [pz_n0]; exact nI_nlt (Nat.zero_le _) (by omega))]
            exact ⟨_, _, rfl, fr4.trans y2, rfl, y1, (ks _).1, (ks _).2, fun _ => pz_su_s _ _ _ _⟩
        · rw [if_neg es] at v3
          rw [if_neg es, if_neg es, if_pos (show nI 0 = 0 by decide)]
          exact ⟨_, _, rfl, ((a2.trans c2.q).trans u2).trans v2.q, rfl, v3⟩
theorem readNext_ok {σ : St} {t : Nat → Nat} {n pos : Nat} (ht : txOk t n) (h : tX σ t n pos) (hp : pos ≤ n) : ∃ r σ', fX5_readNext σ = some (r, σ') ∧ frQ σ σ' ∧ rdX σ' t n r (nxT t n pos) := by
  have h60 := ht.1
  have e59 : (59 : Int32) = nI 59 := by decide
  unfold fX5_readNext nxT
  rw [h.2.1, pz_n0, e59]
  by_cases e : pos = 0
  · subst e
    rw [if_pos (nI_le (Nat.le_refl _) (by omega)), if_pos rfl]
    exact readOrder_ok ht h (by omega)
  · rw [if_neg (nI_ge (by omega) (by omega)), if_neg e]
    obtain ⟨s1, a1, a2, a3⟩ := readSign_ok (c := 59) ht h hp (by omega) (by omega)
    rw [a1, pz_bd]
    dsimp only
    by_cases es : sgT t n pos = 59
    · rw [if_pos es] at a3
      have hlt := sg_lt es (by omega)
      rw [if_pos es, if_pos es, if_neg pz_10]
      obtain ⟨r, s2, b1, b2, b3⟩ := readOrder_ok ht a3 (by omega)
      exact ⟨r, s2, b1, a2.q.trans b2, b3⟩
    · rw [if_neg es] at a3
      rw [if_neg es, if_neg es, if_pos rfl]
      exact ⟨_, _, rfl, a2.q, rfl, a3⟩
theorem stL_le {t : Nat → Nat} {n f : Nat} : ∀ cs q, (∀ c ∈ cs, c ≠ 0) → q ≤ n → stL t n (.inr q) cs = .inl f → f ≤ n := by
  intro cs
  induction cs with
  | nil => intro q _ _ h; cases h
  | cons c cs ih =>
    intro q h0 hq h
    have h3 : stL t n (if sgT t n q = c then .inr (q + 1) else .inl q) cs = .inl f := h
    by_cases e : sgT t n q = c
    · rw [if_pos e] at h3
      have h4 := sg_lt e (h0 c List.mem_cons_self)
      exact ih (q + 1) (fun c hc => h0 c (List.mem_cons_of_mem _ hc)) h4 h3
    · rw [if_neg e, stL_inl] at h3
      have : q = f := Sum.inl.inj h3
      omega
theorem kdT_le {t : Nat → Nat} {n pos f : Nat} (hp : pos ≤ n) (h : kdT t n pos = .inl f) : f ≤ n := by
  have key : ∀ c k' cs, sgT t n pos = c → c ≠ 0 → (∀ c ∈ cs, c ≠ 0) → fwT t n pos k' cs = .inl f → f ≤ n := by
    intro c k' cs hs hc0 hc h
    have hlt := sg_lt hs hc0
    unfold fwT at h
    cases hst : stL t n (.inr (pos + 1)) cs with
    | inl g =>
      rw [hst] at h
      have := stL_le cs (pos + 1) hc hlt hst
      have h2 : g = f := Sum.inl.inj h
      omega
    | inr q => rw [hst] at h; cases h
  unfold kdT at h
  split at h
  · rename_i e; exact key _ 0 _ e (by omega) (by decide) h
  split at h
  · rename_i e; exact key _ 1 _ e (by omega) (by decide) h
  split at h
  · rename_i e; exact key _ 2 _ e (by omega) (by decide) h
  split at h
  · rename_i e; exact key _ 3 _ e (by omega) (by decide) h
  split at h
  · rename_i e; exact key _ 5 _ e (by omega) (by decide) h
  split at h
  · rename_i e; exact key _ 6 _ e (by omega) (by decide) h
  split at h
  · rename_i e
    split at h
    · exact key _ 7 _ e (by omega) (by decide) h
    · exact key _ 4 _ e (by omega) (by decide) h
  · have : pos = f := Sum.inl.inj h
    omega
theorem nuT_le {t : Nat → Nat} {n d p f : Nat} (hp : p ≤ n) (h : nuT t n d p = .inl f) : f ≤ n := by
  unfold nuT at h
  split at h
  · have : p = f := Sum.inl.inj h
    omega
  · cases h
theorem orT_le {t : Nat → Nat} {n pos f : Nat} (hp : pos ≤ n) (h : orT t n pos = .inl f) : f ≤ n := by
  unfold orT at h
  cases hk : kdT t n pos with
  | inl g =>
    rw [hk] at h
    have h1 := kdT_le hp hk
    have : g = f := Sum.inl.inj h
    omega
  | inr x =>
    obtain ⟨k', p1⟩ := x
    rw [hk] at h
    obtain ⟨g1, g2, g3⟩ := kdT_lt hk
    dsimp only at h
    cases hn : nuT t n (dFT k') p1 with
    | inl g =>
      rw [hn] at h
      have h1 := nuT_le g3 hn
      have : g = f := Sum.inl.inj h
      omega
    | inr y =>
      obtain ⟨a', p2'⟩ := y
      rw [hn] at h
      obtain ⟨n1, n2, n3⟩ := nuT_lt g3 hn
      dsimp only at h
      split at h
      · cases h
      · split at h
        · rename_i hs
          have hlt := sg_lt hs (by omega)
          cases hm : nuT t n (dST k') (p2' + 1) with
          | inl g =>
            rw [hm] at h
            have h1 := nuT_le (by omega) hm
            have : g = f := Sum.inl.inj h
            omega
          | inr z => rw [hm] at h; cases h
        · have : p2' = f := Sum.inl.inj h
          omega
theorem nxT_le {t : Nat → Nat} {n pos f : Nat} (hp : pos ≤ n) (h : nxT t n pos = .inl f) : f ≤ n := by
  unfold nxT at h
  split at h
  · exact orT_le (by omega) h
  · split at h
    · rename_i e
      have := sg_lt e (by omega)
      exact orT_le (by omega) h
    · have : pos = f := Sum.inl.inj h
      omega
theorem pa_lt {t : Nat → Nat} {n : Nat} : ∀ m pos l, paT t n m pos = .inr l → l.length ≤ m := by
  intro m
  induction m with
  | zero => intro pos l h; cases h
  | succ m ih =>
    intro pos l h
    unfold paT at h
    split at h
    · cases h
    · split at h
      · cases h
        simp
      · split at h
        · cases h
        · rename_i l' hl'
          have := ih _ _ hl'
          cases h
          simp
          omega
/-- the class counts the orders -/
theorem count_loop {t : Nat → Nat} {n : Nat} (ht : txOk t n) : ∀ m pos j fu σ, tX σ t n pos → pos < n ∨ pos = 0 → j + m = 61 → j ≤ pos + 1 → 1 ≤ j → m < fu → ∃ r σ', fX5_countOrders_L6 (fun σ => fX5_countOrders_B47 σ) fu σ (nI j) = some (r, σ') ∧ frQ σ σ' ∧ (∃ pos', pos' ≤ n ∧ tX σ' t n pos') ∧ match paT t n m pos with
    | .inl f => f ≤ n ∧ r = mI 1000 - nI f
    | .inr l => r = nI (j - 1 + l.length) := by
  have h60 := ht.1
  intro m
  induction m with
  | zero => intro pos j fu σ h hp h1 h2 h3 h4; omega
  | succ m ih =>
    intro pos j fu σ h hp h1 h2 h3 h4
    obtain ⟨fu, rfl⟩ : ∃ z, fu = z + 1 := ⟨fu - 1, by omega⟩
    obtain ⟨r, s1, a1, a2, a3⟩ := readNext_ok ht h (by omega)
    rw [fX5_countOrders_L6, pz_n60, if_neg (nI_nlt (by omega) (by omega)), a1, pz_bd]
    dsimp only
    have hpa : paT t n (m + 1) pos = (match nxT t n pos with
      | .inl f => .inl f
      | .inr (k, a, b, p) => if p = n then .inr [(k, a, b, p)] else match paT t n m p with
        | .inl f => .inl f
        | .inr l => .inr ((k, a, b, p) :: l)) := rfl
    rw [hpa]
    cases hn : nxT t n pos with
    | inl f =>
      rw [hn] at a3
      obtain ⟨rfl, b2⟩ := a3
      have hf : f ≤ n := nxT_le (by omega) hn
      rw [if_pos (show nI 0 = 0 by decide), b2.2.1, pz_n1000, pz_neg]
      exact ⟨_, _, rfl, a2, ⟨f, hf, b2⟩, hf, rfl⟩
    | inr x =>
      obtain ⟨k, a, b, p⟩ := x
      rw [hn] at a3
      obtain ⟨rfl, b2, -⟩ := a3
      obtain ⟨n1, n2, n3, -⟩ := nxT_lt hn
      rw [if_neg (show ¬ nI 1 = 0 by decide)]
      dsimp only
      by_cases e : p = n
      · rw [if_pos (show s1 3 5 = s1 3 0 by rw [b2.1, b2.2.1, e]), if_pos e]
        exact ⟨_, _, rfl, a2, ⟨p, n3, b2⟩, by show nI j = nI (j - 1 + 1); rw [Nat.sub_add_cancel h3]⟩
      · rw [if_neg (show ¬ s1 3 5 = s1 3 0 by rw [b2.1, b2.2.1, nI_eq (by omega) (by omega)]; exact e), if_neg e, pz_nm_, pz_n1, nI_add]
        obtain ⟨r2, s2, c1, c2, c3, c4⟩ := ih p (j + 1) fu s1 b2 (by omega) (by omega) (by omega) (by omega) (by omega)
        refine ⟨r2, s2, c1, a2.trans c2, c3, ?_⟩
        cases hm : paT t n m p with
        | inl f => rw [hm] at c4; exact c4
        | inr l =>
          rw [hm] at c4
          rw [c4]
          show nI (j + 1 - 1 + l.length) = nI (j - 1 + (l.length + 1))
          rw [show j + 1 - 1 + l.length = j - 1 + (l.length + 1) by omega]
