/-! Pure rows: where the barges lie; the model lays them. -/
def sumTo (f : Nat → Nat) : Nat → Nat
  | 0 => 0
  | n + 1 => sumTo f n + f n
def fitD (d : HD) (T : Nat → Nat) (b : Nat) (i : Nat) : Bool := decide (T (i % 8) + dto d b ≤ roomD d (i % 8))
def wD (d : HD) (b : Nat) : List Nat := wl (cP d) 360 (pbD d b)
def lieW (d : HD) (T : Nat → Nat) (b : Nat) : Option Nat := ((wD d b).find? (fitD d T b)).map (fun i => i % 8)
def tkD (d : HD) : Nat → Nat → Nat
  | 0, _ => 0
  | b + 1, p => tkD d b p + if lieW d (tkD d b) b = some p then dto d b else 0
def lieD (d : HD) (b : Nat) : Option Nat := lieW d (tkD d b) b
def pasD (d : HD) (b : Nat) : Nat := (wD d b).findIdx (fitD d (tkD d b) b)
theorem tkD_s (d : HD) (b p : Nat) : tkD d (b + 1) p = tkD d b p + if lieD d b = some p then dto d b else 0 := rfl
theorem tkD_le {d : HD} (hd : dOk d) (p : Nat) : ∀ b, b ≤ dB d → tkD d b p ≤ 99 * b := by
  intro b
  induction b with
  | zero => intro _; exact Nat.le_refl _
  | succ b ih =>
    intro hb
    have h1 := ih (by omega)
    have h2 := (hd.2.2.2.2 b (by omega)).2.2
    rw [tkD_s]
    split <;> omega
theorem lieD_lt {d : HD} {b p : Nat} (h : lieD d b = some p) : p < dP d := by
  unfold lieD lieW at h
  cases hf : (wD d b).find? (fitD d (tkD d b) b) with
  | none => rw [hf] at h; cases h
  | some i =>
    rw [hf] at h
    cases h
    have h1 := List.mem_of_find?_eq_some hf
    unfold wD at h1
    have h2 := (wl_mem.mp h1).2.2
    unfold cP at h2
    rw [isD_iff] at h2
    have h3 : i % 360 % 8 = i % 8 := by omega
    rw [h3] at h2
    exact h2.1
theorem wD_len_le (d : HD) (P : Nat → Bool) : ∀ m k, (wl P m k).length ≤ m := by
  intro m
  induction m with
  | zero => intro k; exact Nat.le_refl _
  | succ m ih =>
    intro k
    have := ih (k + 1)
    unfold wl
    split
    · rw [List.length_cons]; omega
    · omega
theorem pasD_le (d : HD) (b : Nat) : pasD d b ≤ 360 := by
  unfold pasD
  have h1 := List.findIdx_le_length (xs := wD d b) (p := fitD d (tkD d b) b)
  have h2 := wD_len_le d (cP d) 360 (pbD d b)
  unfold wD at h1 ⊢
  omega
def goneM (σ σ' : St) (d : HD) (b : Nat) : Prop := σ' 5 b = oM (lieD d b) ∧ σ' 6 b = nI (pasD d b) ∧ (∀ p, p < 8 → σ' 7 p = nI (tkD d (b + 1) p)) ∧ (∀ i, i ≠ b → σ' 5 i = σ 5 i ∧ σ' 6 i = σ 6 i) ∧ ∀ a, a ≠ 5 → a ≠ 6 → a ≠ 7 → σ' a = σ a
theorem goes_loop {σ : St} {d : HD} {b : Nat} {K : St → Option St} (hd : dOk d) (H : MH (σ 1) d) (hr : ringM σ d) (hb : b < dB d) (h5 : σ 5 b = mI 1) (h6 : σ 6 b = nI 0) (h7 : ∀ p, p < 8 → σ 7 p = nI (tkD d b p)) :
    ∃ σ', fX7_goesAlong_L26 (nI b) (nI (pbD d b)) K 1000 σ (nI 0) = K σ' ∧ goneM σ σ' d b := by
  have h8 := hd.1
  have h24 := hd.2.1
  have hpb := pbD_lt d b
  have hto := (hd.2.2.2.2 b hb).2.2
  refine pz_loop (F := fun m τ k => fX7_goesAlong_L26 (nI b) (nI (pbD d b)) K m τ (nI k)) (P := fun o => ∃ σ', o = K σ' ∧ goneM σ σ' d b)
    (fun k τ => (goneM σ τ d b ∧ τ 5 b ≠ mI 1) ∨ (τ 5 b = mI 1 ∧ (∀ p, p < 8 → τ 7 p = nI (tkD d b p)) ∧ (∀ i, i ≠ b → τ 5 i = σ 5 i ∧ τ 6 i = σ 6 i) ∧ (∀ a, a ≠ 5 → a ≠ 6 → a ≠ 7 → τ a = σ a) ∧ lieD d b = ((wl (cP d) (360 - k) (pbD d b + k)).find? (fitD d (tkD d b) b)).map (fun i => i % 8) ∧ ∃ c, c ≤ 360 ∧ τ 6 b = nI c ∧ pasD d b = c + (wl (cP d) (360 - k) (pbD d b + k)).findIdx (fitD d (tkD d b) b))) 360 ?_ ?_ 360 0 σ 1000 (by omega) (by omega) (Or.inr ⟨h5, h7, fun _ _ => ⟨rfl, rfl⟩, fun _ _ _ _ => rfl, rfl, 0, Nat.zero_le _, h6, (Nat.zero_add _).symm⟩)
  · intro n τ hI
    refine ⟨τ, ?_, ?_⟩
    · show fX7_goesAlong_L26 (nI b) (nI (pbD d b)) K (n + 1) τ (nI 360) = K τ
      rw [fX7_goesAlong_L26, pz_n360, if_pos (nI_le (Nat.le_refl _) (by omega))]
    · rcases hI with ⟨h, _⟩ | ⟨a1, a2, a3, a4, a5, c, a6, a7, a8⟩
      · exact h
      · have e5 : lieD d b = none := a5
        have e6 : pasD d b = c := a8
        refine ⟨by rw [a1, e5]; rfl, by rw [a7, e6], fun p hp => ?_, a3, a4⟩
        rw [a2 p hp, tkD_s, e5]
        rfl
  · intro n k τ hk hI
    rcases hI with ⟨hg, hne⟩ | ⟨a1, a2, a3, a4, a5, c, a6, a7, a8⟩
    · left
      refine ⟨τ, ?_, hg⟩
      show fX7_goesAlong_L26 (nI b) (nI (pbD d b)) K (n + 1) τ (nI k) = K τ
      rw [fX7_goesAlong_L26, pz_n360, if_neg (nI_ge hk (by omega))]
      simp (disch := omega) only [pz_n1, pz_neg, pz_gd, pz_cl]
      rw [if_neg hne]
    · right
      show ∃ b', _ ∧ fX7_goesAlong_L26 (nI b) (nI (pbD d b)) K (n + 1) τ (nI k) = fX7_goesAlong_L26 (nI b) (nI (pbD d b)) K n b' (nI (k + 1))
      have H1 : MH (τ 1) d := by rw [a4 1 (by omega) (by omega) (by omega)]; exact H
      have hm : (pbD d b + k) % 360 < 360 := Nat.mod_lt _ (by omega)
      have e2 := hr.1 _ hm
      rw [← a4 2 (by omega) (by omega) (by omega)] at e2
      have hw : wl (cP d) (360 - k) (pbD d b + k) = if isD d ((pbD d b + k) % 360) = true then (pbD d b + k) :: wl (cP d) (360 - (k + 1)) (pbD d b + (k + 1)) else wl (cP d) (360 - (k + 1)) (pbD d b + (k + 1)) := by
        rw [show 360 - k = (360 - (k + 1)) + 1 by omega]
        rfl
      rw [hw] at a5 a8
      rw [fX7_goesAlong_L26, pz_n360, if_neg (nI_ge hk (by omega))]
      simp (disch := omega) only [pz_n1, pz_neg, pz_n8, pz_n0, pz_gd, pz_nm_, pz_cl, nI_add, pz_rem, a1, if_true, e2]
      by_cases hi : isD d ((pbD d b + k) % 360) = true
      · have hjq := jqD_lt ((pbD d b + k) % 360)
        have hp8 : (pbD d b + k) % 360 % 8 = (pbD d b + k) % 8 := by omega
        have hpP : (pbD d b + k) % 8 < dP d := by rw [← hp8]; exact (isD_iff.mp hi).1
        have e8 : jrem (nI (8 * jqD ((pbD d b + k) % 360) + (pbD d b + k) % 360 % 8)) (nI 8) = nI ((pbD d b + k) % 8) := by
          rw [pz_rem (by omega) (by omega) (by omega)]
          congr 1
          omega
        have hne : ¬ nI (8 * jqD ((pbD d b + k) % 360) + (pbD d b + k) % 360 % 8) = mI 1 := pz_nm (by omega) (by omega) (by omega)
        have hro := roomD_le hd hpP
        have htk := tkD_le hd ((pbD d b + k) % 8) b (by omega)
        rw [if_pos hi] at a5 a8
        simp (disch := omega) only [hi, if_true, hne, if_false, e8, pz_gd, pz_cl, pm_b1 hd H1 hb, pz_bd, pm_room hd H1 hpP, a2 _ (show (pbD d b + k) % 8 < 8 by omega), nI_add]
        by_cases hfit : tkD d b ((pbD d b + k) % 8) + dto d b ≤ roomD d ((pbD d b + k) % 8)
        · rw [if_neg (nI_nlt hfit (by omega))]
          have hft : fitD d (tkD d b) b (pbD d b + k) = true := by
            unfold fitD
            simpa using hfit
          rw [List.find?_cons_of_pos hft] at a5
          rw [List.findIdx_cons, hft] at a8
          have e5 : lieD d b = some ((pbD d b + k) % 8) := a5
          have e6 : pasD d b = c := a8
          have H2 : MH ((su τ 5 b (nI ((pbD d b + k) % 8))) 1) d := by rw [pz_su_r _ _ (by omega)]; exact H1
          simp (disch := omega) only [pm_b1 hd H2 hb, pz_bd, pz_nm_, pz_gd, pz_cl, pz_su_n, a2 _ (show (pbD d b + k) % 8 < 8 by omega), nI_add]
          refine ⟨_, Or.inl ⟨⟨?_, ?_, fun p hp => ?_, fun i hi => ?_, fun a b5 b6 b7 => ?_⟩, ?_⟩, rfl⟩
          · rw [pz_su_n _ _ (by omega), pz_su_s, e5]; rfl
          · rw [pz_su_n _ _ (by omega), pz_su_n _ _ (by omega), a7, e6]
          · rw [pz_su_w, tkD_s, e5]
            by_cases e : p = (pbD d b + k) % 8
            · rw [e, pk_us, if_pos rfl]
            · rw [pk_un e, if_neg (fun h => e (Option.some.inj h).symm), pz_su_r _ _ (by omega)]
              exact a2 p hp
          · refine ⟨?_, ?_⟩
            · rw [pz_su_r _ _ (by omega), pz_su_n _ _ (by omega)]
              exact (a3 i hi).1
            · rw [pz_su_r _ _ (by omega), pz_su_r _ _ (by omega)]
              exact (a3 i hi).2
          · rw [pz_su_r _ _ b7, pz_su_r _ _ b5]
            exact a4 a b5 b6 b7
          · rw [pz_su_n _ _ (by omega), pz_su_s]
            exact pz_nm (by omega) (by omega) (by omega)
        · rw [if_pos (nI_lt (by omega) (by omega))]
          have hft : ¬ fitD d (tkD d b) b (pbD d b + k) = true := by
            unfold fitD
            simpa using hfit
          rw [List.find?_cons_of_neg hft] at a5
          have hft2 : fitD d (tkD d b) b (pbD d b + k) = false := by simpa using hft
          rw [List.findIdx_cons, hft2] at a8
          simp (disch := omega) only [pz_nm_, a7, nI_add]
          have hc : c + 1 ≤ 360 := by
            have := pasD_le d b
            simp only [cond_false] at a8
            omega
          refine ⟨_, Or.inr ⟨?_, fun p hp => ?_, fun i hi => ?_, fun a b5 b6 b7 => ?_, a5, c + 1, hc, ?_, ?_⟩, rfl⟩
          · rw [pz_su_n _ _ (by omega)]; exact a1
          · rw [pz_su_r _ _ (by omega)]; exact a2 p hp
          · rw [pz_su_r _ _ (by omega), pz_su_n _ _ (by omega)]
            exact a3 i hi
          · rw [pz_su_r _ _ b6]
            exact a4 a b5 b6 b7
          · rw [pz_su_s]
          · simp only [cond_false] at a8
            omega
      · rw [if_neg hi] at a5 a8
        simp only [hi, if_false, if_true]
        exact ⟨τ, Or.inr ⟨a1, a2, a3, a4, a5, c, a6, a7, a8⟩, rfl⟩
theorem goes_ok {σ : St} {d : HD} {b : Nat} (hd : dOk d) (H : MH (σ 1) d) (hr : ringM σ d) (hb : b < dB d) (h7 : ∀ p, p < 8 → σ 7 p = nI (tkD d b p)) :
    ∃ σ', fX7_goesAlong σ (nI b) = some σ' ∧ goneM σ σ' d b := by
  have h24 := hd.2.1
  unfold fX7_goesAlong
  rw [pz_n0, pm_b0 hd H hb, pz_bd, pm_placeOf hd hb, pz_bd]
  simp (disch := omega) only [pz_n1, pz_neg, pz_gd, pz_nm_, pz_cl]
  obtain ⟨σ1, e1⟩ : ∃ z, z = su (su σ 5 b (mI 1)) 6 b (nI 0) := ⟨_, rfl⟩
  rw [← e1]
  have fo : ∀ a, a ≠ 5 → a ≠ 6 → σ1 a = σ a := fun a h1 h2 => by rw [e1, pz_su_r _ _ h2, pz_su_r _ _ h1]
  obtain ⟨σ2, g1, g2, g3, g4, g5, g6⟩ := goes_loop (σ := σ1) (K := fun σ => fX7_goesAlong_B144 σ) hd (by rw [fo _ (by omega) (by omega)]; exact H) ⟨fun q hq => by rw [fo _ (by omega) (by omega)]; exact hr.1 q hq, fun q hq => by rw [fo _ (by omega) (by omega)]; exact hr.2 q hq⟩ hb (by rw [e1, pz_su_n _ _ (by omega), pz_su_s]) (by rw [e1, pz_su_s]) (fun p hp => by rw [fo _ (by omega) (by omega)]; exact h7 p hp)
  rw [g1]
  refine ⟨σ2, rfl, g2, g3, g4, fun i hi => ?_, fun a h1 h2 h3 => by rw [g6 a h1 h2 h3, fo a h1 h2]⟩
  obtain ⟨k1, k2⟩ := g5 i hi
  rw [k1, k2, e1, pz_su_n _ _ (by omega), pz_su_n _ _ (by omega), pz_su_n _ _ (by omega), pz_su_n _ _ (by omega)]
  exact ⟨rfl, rfl⟩
def laidM (σ : St) (d : HD) : Prop := ringM σ d ∧ (∀ i, i < dB d → σ 5 i = oM (lieD d i) ∧ σ 6 i = nI (pasD d i)) ∧ ∀ p, p < 8 → σ 7 p = nI (tkD d (dB d) p)
theorem lays_ok {σ : St} {d : HD} (hd : dOk d) (H : MH (σ 1) d) : ∃ σ', fX7_lays σ = some σ' ∧ laidM σ' d ∧ ∀ a, a ≠ 2 → a ≠ 3 → a ≠ 5 → a ≠ 6 → a ≠ 7 → σ' a = σ a := by
  have h24 := hd.2.1
  unfold fX7_lays
  obtain ⟨σ1, a1, a2, a3⟩ := laysRing_ok hd H
  rw [a1, pz_bd, pz_n0]
  have hfill : ∃ σ2, fX7_lays_L6 (fun σ => fX7_lays_B25 σ) 1000 σ1 (nI 0) = fX7_lays_B25 σ2 ∧ (∀ p, p < 8 → σ2 7 p = nI 0) ∧ ∀ a, a ≠ 7 → σ2 a = σ1 a := by
    refine pz_loop (F := fun m τ i => fX7_lays_L6 (fun σ => fX7_lays_B25 σ) m τ (nI i)) (P := fun o => ∃ σ2, o = fX7_lays_B25 σ2 ∧ (∀ p, p < 8 → σ2 7 p = nI 0) ∧ ∀ a, a ≠ 7 → σ2 a = σ1 a) (fun i τ => (∀ p, p < i → τ 7 p = nI 0) ∧ ∀ a, a ≠ 7 → τ a = σ1 a) 8 ?_ ?_ 8 0 σ1 1000 (by omega) (by omega) ⟨fun p h => absurd h (Nat.not_lt_zero _), fun _ _ => rfl⟩
    · intro n τ ⟨b1, b2⟩
      refine ⟨τ, ?_, b1, b2⟩
      show fX7_lays_L6 _ (n + 1) τ (nI 8) = _
      rw [fX7_lays_L6, pz_n8, if_pos (nI_le (Nat.le_refl _) (by omega))]
    · intro n i τ hi ⟨b1, b2⟩
      right
      show ∃ b', _ ∧ fX7_lays_L6 _ (n + 1) τ (nI i) = fX7_lays_L6 _ n b' (nI (i + 1))
      rw [fX7_lays_L6, pz_n8, if_neg (nI_ge hi (by omega))]
      simp (disch := omega) only [pz_n1, pz_n0, pz_gd, pz_nm_, pz_cl, nI_add]
      refine ⟨_, ⟨fun p hp => ?_, fun a ha => by rw [pz_su_r _ _ ha]; exact b2 a ha⟩, rfl⟩
      rw [pz_su_w]
      by_cases e : p = i
      · subst e; exact pk_us
      · rw [pk_un e]; exact b1 p (by omega)
  obtain ⟨σ2, b1, b2, b3⟩ := hfill
  rw [b1]
  unfold fX7_lays_B25
  have H2 : MH (σ2 1) d := by rw [b3 _ (by omega), a3 _ (by omega) (by omega)]; exact H
  have hr2 : ringM σ2 d := ⟨fun q hq => by rw [b3 _ (by omega)]; exact a2.1 q hq, fun q hq => by rw [b3 _ (by omega)]; exact a2.2 q hq⟩
  refine pz_loop (F := fun m τ i => fX7_lays_L27 (fun σ => fX7_lays_B48 σ) m τ (nI i)) (P := fun o => ∃ σ', o = some σ' ∧ laidM σ' d ∧ ∀ a, a ≠ 2 → a ≠ 3 → a ≠ 5 → a ≠ 6 → a ≠ 7 → σ' a = σ a) (fun i τ => (∀ j, j < i → τ 5 j = oM (lieD d j) ∧ τ 6 j = nI (pasD d j)) ∧ (∀ p, p < 8 → τ 7 p = nI (tkD d i p)) ∧ ∀ a, a ≠ 5 → a ≠ 6 → a ≠ 7 → τ a = σ2 a) (dB d) ?_ ?_ (dB d) 0 σ2 1000 (by omega) (by omega) ⟨fun p h => absurd h (Nat.not_lt_zero _), b2, fun _ _ _ _ => rfl⟩
  · intro n τ ⟨c1, c2, c3⟩
    refine ⟨τ, ?_, ⟨⟨fun q hq => by rw [c3 _ (by omega) (by omega) (by omega)]; exact hr2.1 q hq, fun q hq => by rw [c3 _ (by omega) (by omega) (by omega)]; exact hr2.2 q hq⟩, c1, c2⟩, fun a h1 h2 h3 h4 h5 => by rw [c3 a h3 h4 h5, b3 a h5, a3 a h1 h2]⟩
    show fX7_lays_L27 _ (n + 1) τ (nI (dB d)) = some τ
    rw [fX7_lays_L27, pz_n1, pz_cl (by omega), c3 1 (by omega) (by omega) (by omega), H2.2.1, if_pos (nI_le (Nat.le_refl _) (by omega))]
    rfl
  · intro n i τ hi ⟨c1, c2, c3⟩
    right
    show ∃ b', _ ∧ fX7_lays_L27 _ (n + 1) τ (nI i) = fX7_lays_L27 _ n b' (nI (i + 1))
    have H3 : MH (τ 1) d := by rw [c3 1 (by omega) (by omega) (by omega)]; exact H2
    rw [fX7_lays_L27, pz_n1, pz_cl (by omega), H3.2.1, if_neg (nI_ge hi (by omega))]
    obtain ⟨σ', g1, g2, g3, g4, g5, g6⟩ := goes_ok hd H3 ⟨fun q hq => by rw [c3 _ (by omega) (by omega) (by omega)]; exact hr2.1 q hq, fun q hq => by rw [c3 _ (by omega) (by omega) (by omega)]; exact hr2.2 q hq⟩ hi c2
    rw [g1, pz_bd]
    simp only [pz_nm_, nI_add]
    refine ⟨σ', ⟨fun j hj => ?_, g4, fun a h1 h2 h3 => by rw [g6 a h1 h2 h3]; exact c3 a h1 h2 h3⟩, rfl⟩
    by_cases e : j = i
    · subst e; exact ⟨g2, g3⟩
    · obtain ⟨k1, k2⟩ := g5 j e
      rw [k1, k2]
      exact c1 j (by omega)
