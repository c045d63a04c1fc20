/-! Pure rows: a text is carried out, in both systems. -/
theorem begin2_ok {σX σM : St} {d : HD} {k nx : Nat} (hc : coreR σX σM d) (hr : reasonR σX σM) (hh : histK k nx σX σM) (hs : snapR σX σM) (hl : lineR σX σM) :
    ∃ σX' σM', fX2_draft 0 σX = some σX' ∧ fX7_begins σM = some σM' ∧ coreR σX' σM' d ∧ reasonR σX' σM' ∧ begR k nx d σX' σM' ∧ (∀ a, a < 48 → σX' a = σX a) ∧ (∀ a, a ≠ 1 → σM' a = σM a) ∧ (∀ j, j < 680 → σM' 1 j = σM 1 j) := by
  obtain ⟨h1, h2, h3, h4, h5, h6⟩ := hh
  obtain ⟨⟨hd, c2, c3, c4⟩, c5, c6⟩ := hc
  obtain ⟨σX', x1, x2, x3, x4⟩ := takeFrom_ok (h := 3 + nx) (h2 := 0) hd (by omega) c2
  obtain ⟨σM', y1, y2, y3, y4⟩ := copies_ok (a := 0) (b := 10) (σ := σM) (by omega) (by omega) (by omega)
  have m1 : ∀ j, j < 68 → σM' 1 j = σM 1 j := fun j hj => y3 j (by omega)
  have r10 : ∀ j, j < 68 → rowM σM' 10 j = σM 1 j := fun j hj => by
    have := y2 j hj
    rw [Nat.mul_zero, Nat.zero_add] at this
    exact this
  refine ⟨σX', σM', ?_, ?_, ?_, ?_, ⟨?_, ?_, ?_, ?_⟩, fun a ha => x4 a (by omega), y4, fun j hj => y3 j (by omega)⟩
  · unfold fX2_draft
    rw [h4]
    simp (disch := omega) only [pz_gd, pz_cl, x1, pz_bd]
  · unfold fX7_begins
    rw [pz_n0, pz_n10, y1, pz_bd]
  · exact coreR.congr ⟨⟨hd, c2, c3, c4⟩, c5, c6⟩ (fun a _ _ => x4 a (by omega)) (fun a _ _ => x4 a (by omega)) m1
  · exact hr.congr (by rw [x4 0 (by omega)]) (by rw [x4 0 (by omega)]) (by rw [y4 0 (by omega)]) (by rw [y4 0 (by omega)])
  · refine ⟨h1, h2, by rw [x4 1 (by omega)]; exact h3, by rw [x4 1 (by omega)]; exact h4, by rw [y4 0 (by omega)]; exact h5, fun i hi => ?_⟩
    obtain ⟨e, he⟩ := h6 i hi
    refine ⟨e, he.congr (fun a a1 a2 => x4 a ?_) (fun j hj => y3 _ (by omega))⟩
    omega
  · refine ⟨hd, x2, c3.congr (fun j hj _ => r10 j hj) hd, ?_⟩
    rw [x3, r10 3 (by omega)]
    exact c4
  · exact hs.congr (by rw [x4 0 (by omega)]) (by rw [y4 0 (by omega)]) (fun a _ _ => x4 a (by omega)) (fun j a1 a2 => y3 j (by omega))
  · exact hl.congr (x4 5 (by omega)) (by rw [y4 0 (by omega)]) (x4 6 (by omega)) (y4 15 (by omega))
theorem bd_eta {x : Option (Int32 × St)} : (bd x fun r => some (r.1, r.2)) = x := by
  cases x with
  | none => rfl
  | some y => rfl
theorem begR.q {k nx : Nat} {d0 : HD} {σX σM σX' : St} (H : begR k nx d0 σX σM) (h : ∀ a, a ≠ 3 → σX' a = σX a) : begR k nx d0 σX' σM := by
  obtain ⟨a, b, c, e⟩ := H
  exact ⟨a.congr (h 1 (by omega)) rfl (fun a ha => h a (by omega)) (fun j _ _ => rfl), b.congr (fun a _ _ => h a (by omega)) (fun _ _ => rfl), c.congr (by rw [h 0 (by omega)]) rfl (fun a _ _ => h a (by omega)) (fun _ _ _ => rfl), e.congr (h 5 (by omega)) rfl (h 6 (by omega)) rfl⟩
theorem pz_n6' : (6 : Int32) = nI 6 := by decide
theorem pz_k97 : (97 : Int32) = nI 97 := by decide
theorem pz_k98 : (98 : Int32) = nI 98 := by decide
theorem pz_k99 : (99 : Int32) = nI 99 := by decide
theorem pz_k100 : (100 : Int32) = nI 100 := by decide
theorem pz_k101 : (101 : Int32) = nI 101 := by decide
theorem pz_k102 : (102 : Int32) = nI 102 := by decide
theorem pz_k103 : (103 : Int32) = nI 103 := by decide
theorem pz_k104 : (104 : Int32) = nI 104 := by decide
theorem pz_k105 : (105 : Int32) = nI 105 := by decide
theorem pz_k106 : (106 : Int32) = nI 106 := by decide
theorem pz_k107 : (107 : Int32) = nI 107 := by decide
theorem pz_k108 : (108 : Int32) = nI 108 := by decide
theorem pz_k109 : (109 : Int32) = nI 109 := by decide
theorem pz_k110 : (110 : Int32) = nI 110 := by decide
theorem pz_k111 : (111 : Int32) = nI 111 := by decide
theorem pz_k112 : (112 : Int32) = nI 112 := by decide
theorem pz_k113 : (113 : Int32) = nI 113 := by decide
theorem pz_k114 : (114 : Int32) = nI 114 := by decide
theorem pz_k115 : (115 : Int32) = nI 115 := by decide
theorem pz_k116 : (116 : Int32) = nI 116 := by decide
theorem pz_k117 : (117 : Int32) = nI 117 := by decide
theorem pz_k118 : (118 : Int32) = nI 118 := by decide
theorem pz_k119 : (119 : Int32) = nI 119 := by decide
theorem pz_k120 : (120 : Int32) = nI 120 := by decide
theorem pz_ifp {α : Type} {a : Nat} {x y : α} : (if nI a = nI a then x else y) = x := if_pos rfl
theorem pz_ifn {α : Type} {a b : Nat} {x y : α} (h : a ≠ b) (ha : a < 2 ^ 31) (hb : b < 2 ^ 31) : (if nI a = nI b then x else y) = y := if_neg fun e => h (by
  have := congrArg Int32.toInt e
  rw [nI_toInt ha, nI_toInt hb] at this
  omega)
/-- one order, in both systems -/
theorem carry_ok {σX σM : St} {d : HD} {j k a b : Nat} (hk : k < 8) (hj : j ≤ 60) (h1 : σX 3 1 = nI k) (h2 : σX 3 2 = nI a) (h3 : dST k ≠ 0 → σX 3 3 = nI b) (en : enM σM j k a b) (hc : coreR σX σM d) (hr : reasonR σX σM) :
    ∃ r σX' σM', fX6_carryOut σX = some (r, σX') ∧ fX7_does σM (nI (3 * j)) = some (r, σM') ∧ opR r σX σM σX' σM' d := by
  obtain ⟨e1, e2, e3⟩ := en
  unfold fX6_carryOut fX7_does
  simp only [bd_eta]
  rw [pz_n1, pz_n2, nI_add, nI_add, pz_gd (by omega) (by omega), pz_nm_, pz_gd (by omega) (by omega), pz_nm_, pz_gd (by omega) (by omega), pz_cl (by omega), pz_cl (by omega), pz_cl (by omega), e1, e2, e3, h1, h2]
  simp only [pz_n0, pz_n3, pz_n4, pz_n5, pz_n6', pz_k97, pz_k98, pz_k99, pz_k100, pz_k101, pz_k102, pz_k103, pz_k104, pz_k105, pz_k106, pz_k107, pz_k108, pz_k109, pz_k110, pz_k111, pz_k112, pz_k113, pz_k114, pz_k115, pz_k116, pz_k117, pz_k118, pz_k119, pz_k120]
  rcases (show k = 0 ∨ k = 1 ∨ k = 2 ∨ k = 3 ∨ k = 4 ∨ k = 5 ∨ k = 6 ∨ k = 7 by omega) with e | e | e | e | e | e | e | e <;> subst e
  · rw [show cdT 0 = 112 from rfl]
    simp (disch := omega) only [pz_ifp, pz_ifn]
    exact op_join hc hr (nI a)
  · rw [show cdT 1 = 99 from rfl]
    simp (disch := omega) only [pz_ifp, pz_ifn]
    exact op_turn hc hr (nI a) false
  · rw [show cdT 2 = 111 from rfl]
    simp (disch := omega) only [pz_ifp, pz_ifn]
    exact op_turn hc hr (nI a) true
  · rw [show cdT 3 = 119 from rfl]
    simp (disch := omega) only [pz_ifp, pz_ifn]
    rw [h3 (by decide)]
    exact op_weigh hc hr (nI a) (nI b)
  · rw [show cdT 4 = 98 from rfl]
    simp (disch := omega) only [pz_ifp, pz_ifn]
    rw [h3 (by decide)]
    exact op_come hc hr (nI a) (nI b)
  · rw [show cdT 5 = 103 from rfl]
    simp (disch := omega) only [pz_ifp, pz_ifn]
    exact op_go hc hr (nI a)
  · rw [show cdT 6 = 108 from rfl]
    simp (disch := omega) only [pz_ifp, pz_ifn]
    rw [h3 (by decide)]
    exact op_load hc hr (nI a) (nI b)
  · rw [show cdT 7 = 116 from rfl]
    simp (disch := omega) only [pz_ifp, pz_ifn]
    exact op_bears hc hr (nI a)
def okT (t : Nat → Nat) (n : Nat) : Nat → List (Nat × Nat × Nat × Nat) → Prop
  | _, [] => True
  | pos, x :: l => nxT t n pos = .inr x ∧ okT t n x.2.2.2 l
theorem pa_ok {t : Nat → Nat} {n : Nat} : ∀ m pos l, paT t n m pos = .inr l → okT t n pos l := by
  intro m
  induction m with
  | zero => intro pos l h; cases h
  | succ m ih =>
    intro pos l h
    unfold paT at h
    cases hn : nxT t n pos with
    | inl f => rw [hn] at h; cases h
    | inr x =>
      obtain ⟨k, a, b, p⟩ := x
      rw [hn] at h
      dsimp only at h
      by_cases e : p = n
      · rw [if_pos e] at h
        cases h
        exact ⟨hn, trivial⟩
      · rw [if_neg e] at h
        cases hm : paT t n m p with
        | inl f => rw [hm] at h; cases h
        | inr l' =>
          rw [hm] at h
          cases h
          exact ⟨hn, ih p l' hm⟩
theorem in_code {σ : St} {c : Nat} (h11 : 11 ≤ c) (h15 : c ≤ 15) : fX7_in σ (mI c) (mI 15) (mI 11) = some (nI 1) := by
  have t1 : (mI c).toInt = -(c : Int) := pz_mT (by omega)
  have t2 : (mI 15).toInt = -15 := pz_mT (by omega)
  have t3 : (mI 11).toInt = -11 := pz_mT (by omega)
  unfold fX7_in
  rw [if_neg (by rw [Int32.lt_iff_toInt_lt, t1, t2]; omega), if_neg (by rw [Int32.lt_iff_toInt_lt, t1, t3]; omega)]
  rfl
theorem in_good {σ : St} {n : Nat} (hn : n < 2 ^ 31) : fX7_in σ (nI n) (mI 15) (mI 11) = some (nI 0) := by
  unfold fX7_in
  rw [if_neg (pz_nlm hn (by omega)), if_pos (pz_mlt hn (by omega) (by omega))]
  rfl
theorem exec_ok {t : Nat → Nat} {n k nx len : Nat} {d0 : HD} (ht : txOk t n) (hlen : len ≤ 60) : ∀ (rest : List (Nat × Nat × Nat × Nat)) (j pos fu fu' : Nat) (σX σM : St) (d : HD), okT t n pos rest → j + rest.length = len → rest.length < fu → rest.length < fu' → tX σX t n pos → pos ≤ n → coreR σX σM d → reasonR σX σM → begR k nx d0 σX σM → σM 0 22 = nI len → σM 0 18 = nI 0 → (∀ i (h : i < rest.length), enM σM (j + i) rest[i].1 rest[i].2.1 rest[i].2.2.1) →
    ∃ r σX' σM', fX6_run_L28 (nI len) (fun σ => fX6_run_B88 σ (nI len)) fu σX (nI j) = some (r, σX') ∧ fX7_run_L31 (fun σ => fX7_run_B73 σ) fu' σM (nI j) = some (r, σM') ∧ allR σX' σM' := by
  intro rest
  induction rest with
  | nil =>
    intro j pos fu fu' σX σM d h1 h2 h3 h3' h4 h5 h6 h7 h8 h9 h10 h11
    obtain ⟨fu, rfl⟩ : ∃ z, fu = z + 1 := ⟨fu - 1, by omega⟩
    obtain ⟨fu', rfl⟩ : ∃ z, fu' = z + 1 := ⟨fu' - 1, by omega⟩
    have hj : j = len := h2
    subst hj
    rw [fX6_run_L28, if_pos (nI_le (Nat.le_refl _) (by omega)), fX7_run_L31, h9, if_pos (nI_le (Nat.le_refl _) (by omega))]
    unfold fX6_run_B88 fX7_run_B73 fX5_empty
    rw [pz_nm_, pz_bd, h9, pz_n0]
    have fr : ∀ a, a ≠ 3 → su σX 3 0 (nI 0) a = σX a := fun a ha => pz_su_r _ _ ha
    obtain ⟨x2, m2, e1, e2, e3⟩ := end_keep (n := j) (h6.congr (fun a _ _ => fr a (by omega)) (fun a _ _ => fr a (by omega)) (fun _ _ => rfl)) (h7.congr (by rw [fr 0 (by omega)]) (by rw [fr 0 (by omega)]) rfl rfl) (h8.q fr) ⟨0, by omega, pz_su_s _ _ _ _, h10, fun i hi => absurd hi (Nat.not_lt_zero _)⟩ (by omega)
    rw [e1, e2, pz_bd, pz_bd]
    exact ⟨_, _, _, rfl, rfl, e3⟩
  | cons x rest ih =>
    intro j pos fu fu' σX σM d h1 h2 h3 h3' h4 h5 h6 h7 h8 h9 h10 h11
    obtain ⟨kk, a, b, p⟩ := x
    obtain ⟨fu, rfl⟩ : ∃ z, fu = z + 1 := ⟨fu - 1, by omega⟩
    obtain ⟨fu', rfl⟩ : ∃ z, fu' = z + 1 := ⟨fu' - 1, by omega⟩
    obtain ⟨o1, o2⟩ := h1
    have hl2 : ((kk, a, b, p) :: rest).length = rest.length + 1 := rfl
    obtain ⟨n1, n2, n3, n4, n5⟩ := nxT_lt o1
    obtain ⟨r1, s1, a1, a2, a3⟩ := readNext_ok ht h4 h5
    rw [o1] at a3
    obtain ⟨rfl, a4, a5, a6, a7⟩ := a3
    have hc1 : coreR s1 σM d := h6.congr (fun a _ _ => a2.1 a (by omega)) (fun a _ _ => a2.1 a (by omega)) (fun _ _ => rfl)
    have hr1 : reasonR s1 σM := h7.congr (by rw [a2.1 0 (by omega)]) (by rw [a2.1 0 (by omega)]) rfl rfl
    have hb1 : begR k nx d0 s1 σM := h8.q a2.1
    have en0 : enM σM j kk a b := h11 0 (by omega)
    obtain ⟨r2, s2, m2, b1, b2, b3, b4, b5, b6⟩ := carry_ok n1 (by omega) a5 a6 a7 en0 hc1 hr1
    have hb2 := hb1.congr b3 b4
    rw [fX6_run_L28, if_neg (nI_ge (by omega) (by omega)), a1, pz_bd, fX7_run_L31, h9, if_neg (nI_ge (by omega) (by omega))]
    dsimp only
    rw [if_neg (show ¬ nI 1 = 0 by decide), b1, pz_bd, pz_n3, pk_mul, b2, pz_bd]
    dsimp only
    rw [pz_n0, pz_n15, pz_n11, pz_neg, pz_neg]
    rcases b6 with ⟨c, c1, c2, rfl, c4, c5⟩ | ⟨rn, d', d1, rfl, d3⟩
    · rw [if_neg (show ¬ nI 0 ≤ mI c from pz_nlem (by omega) (by omega) (by omega)), in_code c1 c2, pz_bd, if_neg pz_10]
      unfold fX6_run_B50 fX5_empty fX2_drafted
      rw [pz_nm_, pz_bd, pz_n0]
      obtain ⟨g1, g2, g3, g4, g5, g6⟩ := hb2.1
      have fr : ∀ a, a ≠ 3 → su s2 3 0 (nI 0) a = s2 a := fun a ha => pz_su_r _ _ ha
      rw [fr 1 (by omega), g4, pz_gd (by omega) (by omega), pz_bd, pz_cl (by omega)]
      have hb3 := hb2.q fr
      obtain ⟨τ, x3, u1, u2, u3, u4, u5, u6, u7⟩ := retake_ok (by omega) hb3.2.1
      rw [u1, pz_bd, u2, pz_bd]
      unfold fX6_refuse fX7_refuses
      simp only [pz_nm_, pz_bd, pz_n14, pz_n4, pz_neg]
      obtain ⟨m3, w1, w2, w3, w4⟩ := copies_ok (a := 10) (b := 0) (σ := su (su m2 0 3 (nI 4)) 0 4 (nI j)) (by omega) (by omega) (by omega)
      have hends : fX7_ends (su (su m2 0 3 (nI 4)) 0 4 (nI j)) (mI 14) = some (mI 14, m3) := by
        unfold fX7_ends
        simp only [pz_n15, pz_n11, pz_n0, pz_n1, pz_n10, pz_neg]
        rw [in_code (by omega) (by omega), pz_bd, if_neg pz_10, w1, pz_bd]
      rw [hends, pz_bd]
      dsimp only
      have e1 : ∀ i, su (su m2 0 3 (nI 4)) 0 4 (nI j) 1 i = m2 1 i := fun i => by rw [pz_su_r _ _ (by omega), pz_su_r _ _ (by omega)]
      have m0 : ∀ i, i ≠ 3 → i ≠ 4 → m3 0 i = m2 0 i := fun i h3 h4 => by rw [w4 0 (by omega), pz_su_n _ _ (by omega), pz_su_n _ _ (by omega)]
      have mo : ∀ a, a ≠ 0 → a ≠ 1 → m3 a = m2 a := fun a h0 h1 => by rw [w4 a h1, pz_su_r _ _ h0, pz_su_r _ _ h0]
      have mrow : ∀ i, 68 ≤ i → m3 1 i = m2 1 i := fun i hi => by rw [w3 i (by omega), e1]
      have xo : ∀ a, a ≠ 0 → su (su x3 0 10 (nI 4)) 0 11 (nI j) a = x3 a := fun a ha => by rw [pz_su_r _ _ ha, pz_su_r _ _ ha]
      have x0 : ∀ i, i ≠ 10 → i ≠ 11 → su (su x3 0 10 (nI 4)) 0 11 (nI j) 0 i = s2 0 i := fun i h3 h4 => by rw [pz_su_n _ _ (by omega), pz_su_n _ _ (by omega), u7 0 (by omega), fr 0 (by omega)]
      have xs : ∀ a, a ≠ 0 → a ≠ 3 → a < 7 ∨ (24 ≤ a ∧ a < 33) ∨ 38 ≤ a → su (su x3 0 10 (nI 4)) 0 11 (nI j) a = s2 a := fun a h0 h3 ha => by rw [xo a h0, u7 a ha, fr a h3]
      refine ⟨_, _, _, rfl, rfl, ⟨d0, u3.congr (fun a _ _ => xo a (by omega)) (fun i hi => ?_), u4.congr (fun a _ _ => xo a (by omega)), u5.congr (fun a _ _ => xo a (by omega))⟩, Or.inr ⟨?_, ?_, ?_⟩, ⟨k, nx, hb2.1.congr (xs 1 (by omega) (by omega) (by omega)) (m0 1 (by omega) (by omega)) (fun a ha => xs a (by omega) (by omega) (by omega)) (fun i h1 _ => mrow i h1)⟩, hb2.2.2.1.congr (x0 9 (by omega) (by omega)) (m0 2 (by omega) (by omega)) (fun a _ _ => xs a (by omega) (by omega) (by omega)) (fun i _ _ => mrow i (by omega)), ⟨0, by omega, ?_, ?_, fun i hi => absurd hi (Nat.not_lt_zero _)⟩, hb2.2.2.2.congr (xs 5 (by omega) (by omega) (by omega)) (m0 24 (by omega) (by omega)) (xs 6 (by omega) (by omega) (by omega)) (mo 15 (by omega) (by omega))⟩
      · have := w2 i hi
        rw [Nat.mul_zero, Nat.zero_add] at this
        rw [this, e1]
        rfl
      · rw [w4 0 (by omega), pz_su_n _ _ (by omega), pz_su_s]
        decide
      · rw [w4 0 (by omega), pz_su_n _ _ (by omega), pz_su_s, pz_su_n _ _ (by omega), pz_su_s]
      · rw [w4 0 (by omega), pz_su_s, pz_su_s]
      · rw [xo 3 (by omega), u7 3 (by omega), pz_su_s]
      · rw [m0 18 (by omega) (by omega), b4.2.2 18 (by omega) (by omega)]
        exact h10
    · rw [if_pos (nI_le (Nat.zero_le _) d1), in_good d1, pz_bd, if_pos rfl, pz_nm_, pz_nm_, pz_n1, nI_add]
      have t2 : tX s2 t n p := by
        unfold tX
        rw [b3.1 3 (by omega), b3.1 4 (by omega)]
        exact a4
      refine ih (j + 1) p fu fu' s2 m2 d' o2 (by omega) (by omega) (by omega) t2 n3 d3 b5 hb2 (by rw [b4.2.2 22 (by omega) (by omega)]; exact h9) (by rw [b4.2.2 18 (by omega) (by omega)]; exact h10) (fun i hi => ?_)
      have := h11 (i + 1) (by omega)
      rw [show j + 1 + i = j + (i + 1) by omega]
      unfold enM at this ⊢
      rw [b4.1 14 (by omega)]
      exact this
theorem fault_neg : ∀ f, f < 61 → mI 1000 - nI f = mI (1000 + f) := by decide +kernel
theorem sm_run {σX σM : St} (hR : allR σX σM) : ∃ r σX' σM', fX6_run σX = some (r, σX') ∧ fX7_run σM = some (r, σM') ∧ allR σX' σM' := by
  obtain ⟨⟨d, hc⟩, hr, ⟨k, nx, hh⟩, hs, ⟨n, hn, t1, t2, t3⟩, hl⟩ := hR
  obtain ⟨t, et⟩ : ∃ t : Nat → Nat, t = fun i => (σX 4 i).toNatClampNeg := ⟨_, rfl⟩
  have htx : ∀ i, i < n → σX 4 i = nI (t i) ∧ σM 13 i = nI (t i) ∧ 32 ≤ t i ∧ t i ≤ 126 := fun i hi => by
    obtain ⟨c, c1, c2, c3, c4⟩ := t3 i hi
    have : t i = c := by
      rw [et]
      show (σX 4 i).toNatClampNeg = c
      rw [c3, pz_cl (by omega)]
    rw [this]
    exact ⟨c3, c4, c1, c2⟩
  have ht : txOk t n := ⟨hn, fun i hi => (htx i hi).2.2⟩
  -- the model reads
  obtain ⟨m1, p1, p2, p3, p4⟩ := parse_ok ht t2 (fun i hi => (htx i hi).2.1)
  have f2 : ∀ a, a ≠ 0 → a ≠ 14 → su m1 0 18 (nI 0) a = σM a := fun a h0 h14 => by rw [pz_su_r _ _ h0, p2.1 a h0 h14]
  have f20 : ∀ j, j ≠ 18 → j ≠ 19 → j ≠ 20 → j ≠ 22 → su m1 0 18 (nI 0) 0 j = σM 0 j := fun j h18 h19 h20 h22 => by rw [pz_su_n _ _ (by omega), p2.2 j h19 h20 h22]
  obtain ⟨m2, em2⟩ : ∃ z, z = su m1 0 18 (nI 0) := ⟨_, rfl⟩
  rw [← em2] at f2 f20
  have m18 : m2 0 18 = nI 0 := by rw [em2, pz_su_s]
  have m1r : ∀ j, m2 1 j = σM 1 j := fun j => by rw [f2 1 (by omega) (by omega)]
  -- a change is begun
  obtain ⟨x1, m3, b1, b2, b3, b4, b5, b6, b7, b8⟩ := begin2_ok (hc.congr (fun _ _ _ => rfl) (fun _ _ _ => rfl) (fun j _ => m1r j)) (hr.congr rfl rfl (f20 3 (by omega) (by omega) (by omega) (by omega)) (f20 4 (by omega) (by omega) (by omega) (by omega))) (hh.congr rfl (f20 1 (by omega) (by omega) (by omega) (by omega)) (fun _ _ => rfl) (fun j _ _ => m1r j)) (hs.congr rfl (f20 2 (by omega) (by omega) (by omega) (by omega)) (fun _ _ _ => rfl) (fun j _ _ => m1r j)) (hl.congr rfl (f20 24 (by omega) (by omega) (by omega) (by omega)) rfl (f2 15 (by omega) (by omega)))
  have tx1 : tX (su x1 3 5 (nI 0)) t n 0 := ⟨by rw [pz_su_n _ _ (by omega), b6 3 (by omega)]; exact t1, pz_su_s _ _ _ _, fun i hi => by rw [pz_su_n _ _ (by omega), b6 4 (by omega)]; exact (htx i hi).1⟩
  obtain ⟨r, x2, c1, c2, ⟨pos', c3, c4⟩, c5⟩ := count_loop ht 60 0 1 1000 _ tx1 (Or.inr rfl) (by omega) (by omega) (by omega) (by omega)
  unfold fX6_run fX7_run fX5_countOrders fX5_rewind
  simp only [pz_nm_, pz_n0, pz_n1]
  rw [b1, pz_bd]
  rw [pz_bd, c1, pz_bd]
  dsimp only
  rw [pz_bd, p1, pz_bd]
  rw [← em2]
  have fq : ∀ a, a ≠ 3 → su x2 3 5 (nI 0) a = x1 a := fun a ha => by rw [pz_su_r _ _ ha, c2.1 a ha, pz_su_r _ _ ha]
  have tx2 : tX (su x2 3 5 (nI 0)) t n 0 := (tX_put c4).1
  cases hp : paT t n 60 0 with
  | inl f =>
    rw [hp] at c5 p4
    obtain ⟨hf, rfl⟩ := c5
    have e20 : m2 0 20 = nI f := by rw [em2, pz_su_n _ _ (by omega)]; exact p4.1
    have hneg := fault_neg f (by omega)
    rw [e20, if_neg (nI_nlt (Nat.zero_le _) (by omega)), pz_n1000, pz_neg, hneg]
    rw [fX6_run_L28, if_pos (pz_mle (by omega) (by omega))]
    unfold fX6_run_B88 fX5_empty fX6_keepIfDone
    rw [pz_nm_, pz_bd, pz_n0, if_pos (pz_mlt (by omega) (by omega) (by omega)), pz_bd]
    dsimp only
    refine ⟨_, _, _, rfl, rfl, ?_⟩
    have w : ∀ a, a ≠ 3 → su (su x2 3 5 (nI 0)) 3 0 (nI 0) a = x1 a := fun a ha => by rw [pz_su_r _ _ ha, fq a ha]
    have hb := b5.q w
    have v0 : m3 0 = m2 0 := b7 0 (by omega)
    exact ⟨⟨d, b3.congr (fun a _ _ => w a (by omega)) (fun a _ _ => w a (by omega)) (fun j hj => (b8 j (by omega)).symm)⟩, b4.congr (by rw [w 0 (by omega)]) (by rw [w 0 (by omega)]) (by rw [v0]) (by rw [v0]), ⟨k, nx, hb.1.congr rfl (by rw [v0]) (fun _ _ => rfl) (fun j _ _ => (b8 j (by omega)).symm)⟩, hb.2.2.1.congr rfl (by rw [v0]) (fun _ _ _ => rfl) (fun j _ _ => (b8 j (by omega)).symm), ⟨0, by omega, pz_su_s _ _ _ _, m18, fun i hi => absurd hi (Nat.not_lt_zero _)⟩, hb.2.2.2.congr rfl (by rw [v0]) rfl (b7 15 (by omega)).symm⟩
  | inr l =>
    rw [hp] at c5 p4
    obtain ⟨q1, q2, q3⟩ := p4
    have hlen := pa_lt 60 0 l hp
    have e20 : m2 0 20 = mI 1 := by rw [em2, pz_su_n _ _ (by omega)]; exact q1
    have e22 : m2 0 22 = nI l.length := by rw [em2, pz_su_n _ _ (by omega), q2, Nat.zero_add]
    have er : r = nI l.length := by rw [c5, show 1 - 1 + l.length = l.length by omega]
    rw [e20, if_pos (pz_mlt (by omega) (by omega) (by omega)), b2, pz_bd, er]
    refine exec_ok ht hlen l 0 0 1000 1000 _ m3 d (pa_ok 60 0 l hp) (by omega) (by omega) (by omega) tx2 (by omega) (b3.congr (fun a _ _ => fq a (by omega)) (fun a _ _ => fq a (by omega)) (fun _ _ => rfl)) (b4.congr (by rw [fq 0 (by omega)]) (by rw [fq 0 (by omega)]) rfl rfl) (b5.q fq) (by rw [b7 0 (by omega)]; exact e22) (by rw [b7 0 (by omega)]; exact m18) (fun i hi => ?_)
    have := q3 i hi
    unfold enM at this ⊢
    rw [b7 14 (by omega), em2, pz_su_r _ _ (by omega)]
    exact this
theorem sim_all : Sim allR := fun _ _ h => ⟨sm_pier h, sm_close h, sm_open h, sm_weigh h, sm_berth h, sm_pierOf h, sm_neighbours h, sm_barge h, sm_leave h, sm_load h, sm_bargeOf h, sm_home h, sm_homeAgain h, sm_homeOf h, sm_ring h, sm_deep h, sm_wouldMove h, sm_wouldClose h, sm_hottest h, sm_append h, sm_run h, sm_tell h, sm_tellBarge h, sm_character h, sm_reason h, sm_account h, sm_isBalanced h, sm_meanStretch h, sm_takenShare h, sm_undo h, sm_save h, sm_restore h⟩
