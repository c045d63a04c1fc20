/-! Pure rows: the class settles the barges, its loop; how many homes are others. -/
theorem pz_settleHome {σ : St} {b t : Nat} {o : Option Nat} {cn tn : Nat → Nat} (hb : b < 24) (ho : ∀ p, o = some p → p < 8) (h11 : ∀ p, p < 8 → σ 11 p = nI (cn p)) (h12 : ∀ p, p < 8 → σ 12 p = nI (tn p)) :
    ∃ σ', fX4_settleHome σ (nI b) (oX o) (nI t) = some σ' ∧ σ' 8 = upd (σ 8) b (oX o) ∧ (∀ p, p < 8 → σ' 11 p = nI (cn p + if o = some p then 1 else 0)) ∧ (∀ p, p < 8 → σ' 12 p = nI (tn p + if o = some p then t else 0)) ∧ ∀ a, a ≠ 8 → a ≠ 11 → a ≠ 12 → σ' a = σ a := by
  unfold fX4_settleHome
  cases o with
  | none =>
    simp (disch := omega) only [oX, pz_n15, pz_neg, pz_gd, pz_nm_, pz_cl, if_true]
    refine ⟨_, rfl, by rw [pz_su_w], fun p hp => ?_, fun p hp => ?_, fun a h1 h2 h3 => by rw [pz_su_r _ _ h1]⟩
    · rw [pz_su_r _ _ (by omega)]
      simpa using h11 p hp
    · rw [pz_su_r _ _ (by omega)]
      simpa using h12 p hp
  | some p0 =>
    have hp0 := ho p0 rfl
    simp (disch := omega) only [oX, pz_n1, pz_n15, pz_neg, pz_gd, pz_nm_, pz_cl, pz_nm, if_false, pz_su_n, h11 p0 hp0, h12 p0 hp0, nI_add]
    refine ⟨_, rfl, ?_, fun p hp => ?_, fun p hp => ?_, fun a h1 h2 h3 => ?_⟩
    · rw [pz_su_r _ _ (by omega), pz_su_r _ _ (by omega), pz_su_w]
    · rw [pz_su_r _ _ (by omega), pz_su_w]
      by_cases e : p = p0
      · subst e; rw [pk_us, if_pos rfl]
      · rw [pk_un e, pz_su_r _ _ (by omega), if_neg (fun h => e (Option.some.inj h).symm)]
        exact h11 p hp
    · rw [pz_su_w]
      by_cases e : p = p0
      · subst e; rw [pk_us, if_pos rfl]
      · rw [pk_un e, pz_su_r _ _ (by omega), pz_su_r _ _ (by omega), if_neg (fun h => e (Option.some.inj h).symm)]
        exact h12 p hp
    · rw [pz_su_r _ _ h3, pz_su_r _ _ h2, pz_su_r _ _ h1]
theorem pz_settleLies {σ : St} {b t p0 ah el : Nat} {o : Option Nat} {cn tn : Nat → Nat} (hb : b < 24) (hp0 : p0 < 8) (ho : ∀ p, o = some p → p < 8) (h9 : σ 9 b = nI p0) (h8 : σ 8 b = oX o) (h13 : ∀ p, p < 8 → σ 13 p = nI (cn p)) (h14 : ∀ p, p < 8 → σ 14 p = nI (tn p)) (h77 : σ 7 7 = nI ah) (h78 : σ 7 8 = nI el) :
    ∃ σ', fX4_settleWhereItLies σ (nI b) (nI t) = some σ' ∧ (∀ p, p < 8 → σ' 13 p = nI (cn p + if some p0 = some p then 1 else 0)) ∧ (∀ p, p < 8 → σ' 14 p = nI (tn p + if some p0 = some p then t else 0)) ∧ σ' 7 7 = nI (ah + if some p0 = o then 1 else 0) ∧ σ' 7 8 = nI (el + if some p0 = o then 0 else 1) ∧ ∀ a, a ≠ 7 → a ≠ 13 → a ≠ 14 → σ' a = σ a := by
  unfold fX4_settleWhereItLies
  simp (disch := omega) only [pz_n1, pz_gd, pz_nm_, pz_cl, h9, h13 p0 hp0, h14 p0 hp0, nI_add, pz_su_n, h8]
  obtain ⟨σ1, f1⟩ : ∃ z, z = su (su σ 13 p0 (nI (cn p0 + 1))) 14 p0 (nI (tn p0 + t)) := ⟨_, rfl⟩
  rw [← f1]
  have fo : ∀ a, a ≠ 13 → a ≠ 14 → σ1 a = σ a := fun a h1 h2 => by rw [f1, pz_su_r _ _ h2, pz_su_r _ _ h1]
  have g13 : ∀ p, p < 8 → σ1 13 p = nI (cn p + if some p0 = some p then 1 else 0) := by
    intro p hp
    rw [f1, pz_su_r _ _ (by omega), pz_su_w]
    by_cases e : p = p0
    · subst e; rw [pk_us, if_pos rfl]
    · rw [pk_un e, if_neg (fun h => e (Option.some.inj h).symm)]
      exact h13 p hp
  have g14 : ∀ p, p < 8 → σ1 14 p = nI (tn p + if some p0 = some p then t else 0) := by
    intro p hp
    rw [f1, pz_su_w]
    by_cases e : p = p0
    · subst e; rw [pk_us, if_pos rfl]
    · rw [pk_un e, if_neg (fun h => e (Option.some.inj h).symm), pz_su_r _ _ (by omega)]
      exact h14 p hp
  have hiff : nI p0 = oX o ↔ some p0 = o := by
    cases o with
    | none => exact ⟨fun h => absurd h (pz_nm (by omega) (by omega) (by omega)), fun h => by cases h⟩
    | some q =>
      have := ho q rfl
      show nI p0 = nI q ↔ _
      rw [nI_eq (by omega) (by omega)]
      exact ⟨fun h => by rw [h], fun h => Option.some.inj h⟩
  have a7 : σ1 7 7 = nI ah := by rw [fo _ (by omega) (by omega)]; exact h77
  have a8 : σ1 7 8 = nI el := by rw [fo _ (by omega) (by omega)]; exact h78
  by_cases e : some p0 = o
  · rw [if_pos (hiff.mpr e), if_pos e, if_pos e]
    refine ⟨_, rfl, fun p hp => by rw [pz_su_r _ _ (by omega)]; exact g13 p hp, fun p hp => by rw [pz_su_r _ _ (by omega)]; exact g14 p hp, ?_, ?_, fun a h1 h2 h3 => by rw [pz_su_r _ _ h1, fo a h2 h3]⟩
    · rw [pz_su_s, h77, nI_add]
    · rw [pz_su_n _ _ (by omega), a8]; rfl
  · rw [if_neg (fun h => e (hiff.mp h)), if_neg e, if_neg e]
    refine ⟨_, rfl, fun p hp => by rw [pz_su_r _ _ (by omega)]; exact g13 p hp, fun p hp => by rw [pz_su_r _ _ (by omega)]; exact g14 p hp, ?_, ?_, fun a h1 h2 h3 => by rw [pz_su_r _ _ h1, fo a h2 h3]⟩
    · rw [pz_su_n _ _ (by omega), a7]; rfl
    · rw [pz_su_s, h78, nI_add]
theorem settle_step {h cx b m : Nat} {σ : St} {d : HD} {K : St → Option St} (hd : dOk d) (hcx : cx < 2) (H : XH h σ d) (hc : cirOk cx σ d) (hb : b < dB d) (hm : moorX σ d b) :
    ∃ σ', fX4_settle_L44 h cx K (m + 1) σ (nI b) = fX4_settle_L44 h cx K m σ' (nI (b + 1)) ∧ moorX σ' d (b + 1) ∧ ∀ a, a < 7 ∨ 15 ≤ a → σ' a = σ a := by
  have h8 := hd.1
  have h24 := hd.2.1
  have hpb := pbD_lt d b
  obtain ⟨m1, m2, m3, m4⟩ := hm
  rw [fX4_settle_L44, H.2.1, if_neg (nI_ge hb (by omega)), pz_pointOf hd H hb, pz_bd, pz_homeByTree hd hpb hc.1, pz_bd]
  simp (disch := omega) only [pz_gd, pz_cl, H.2.2.2.2.2.2.2.1 b hb]
  obtain ⟨s1, a1, a2, a3, a4, a5⟩ := pz_settleHome (σ := σ) (b := b) (t := dto d b) (o := homeD d (pbD d b)) (cn := fun p => hcD d b p) (tn := fun p => htD d b p) (by omega) (fun p hp => by have := (homeD_lt hp).1; omega) (fun p hp => (m2 p hp).1) (fun p hp => (m2 p hp).2.1)
  rw [a1, pz_bd]
  have H1 : XH h s1 d := H.congr (fun a x1 x2 => a5 a (by omega) (by omega) (by omega))
  have hc1 : cirOk cx s1 d := hc.congr (fun a x1 x2 => a5 a (by omega) (by omega) (by omega))
  obtain ⟨s2, b1, b2, b3, b4⟩ := pz_findRoom hd hcx H1 hc1 hb (fun p hp => by rw [a5 14 (by omega) (by omega) (by omega)]; exact (m2 p hp).2.2.2)
  rw [b1, pz_bd]
  have H2 : XH h s2 d := H1.congr (fun a x1 x2 => b4 a (by omega) (by omega))
  have e9 : s2 9 b = oX (lieD d b) := by rw [b2, pk_us]
  have e8 : s2 8 b = oX (homeD d (pbD d b)) := by rw [b4 8 (by omega) (by omega), a2, pk_us]
  have old : ∀ j, j < b → s2 8 j = oX (homeD d (pbD d j)) ∧ s2 9 j = oX (lieD d j) ∧ s2 10 j = nI (pasD d j) := by
    intro j hj
    rw [b4 8 (by omega) (by omega), a2, b2, b3, pk_un (by omega), pk_un (by omega), pk_un (by omega), a5 9 (by omega) (by omega) (by omega), a5 10 (by omega) (by omega) (by omega)]
    exact m1 j hj
  have new : ∀ j, j < b + 1 → s2 8 j = oX (homeD d (pbD d j)) ∧ s2 9 j = oX (lieD d j) ∧ s2 10 j = nI (pasD d j) := by
    intro j hj
    by_cases e : j = b
    · subst e
      exact ⟨e8, e9, by rw [b3, pk_us]⟩
    · exact old j (by omega)
  have t11 : ∀ p, p < 8 → s2 11 p = nI (hcD d (b + 1) p) := fun p hp => by rw [b4 11 (by omega) (by omega)]; exact a3 p hp
  have t12 : ∀ p, p < 8 → s2 12 p = nI (htD d (b + 1) p) := fun p hp => by rw [b4 12 (by omega) (by omega)]; exact a4 p hp
  have t13 : ∀ p, p < 8 → s2 13 p = nI (lcD d b p) := fun p hp => by rw [b4 13 (by omega) (by omega), a5 13 (by omega) (by omega) (by omega)]; exact (m2 p hp).2.2.1
  have t14 : ∀ p, p < 8 → s2 14 p = nI (tkD d b p) := fun p hp => by rw [b4 14 (by omega) (by omega), a5 14 (by omega) (by omega) (by omega)]; exact (m2 p hp).2.2.2
  have t7 : s2 7 7 = nI (ahD d b) := by rw [b4 7 (by omega) (by omega), a5 7 (by omega) (by omega) (by omega)]; exact m3
  have t8 : s2 7 8 = nI (elD d b) := by rw [b4 7 (by omega) (by omega), a5 7 (by omega) (by omega) (by omega)]; exact m4
  have fr2 : ∀ a, a < 7 ∨ 15 ≤ a → s2 a = σ a := fun a ha => by rw [b4 a (by omega) (by omega), a5 a (by omega) (by omega) (by omega)]
  simp (disch := omega) only [e9, pz_n15, pz_n1, pz_neg, pz_nm_, nI_add, H2.2.2.2.2.2.2.2.1 b hb]
  cases hl : lieD d b with
  | none =>
    rw [if_pos (show oX none = mI 15 from rfl)]
    refine ⟨s2, rfl, ⟨new, fun p hp => ⟨t11 p hp, t12 p hp, ?_, ?_⟩, ?_, ?_⟩, fr2⟩
    · rw [t13 p hp, lcD_s, hl]; rfl
    · rw [t14 p hp, tkD_s, hl]; rfl
    · rw [t7, ahD_s, hl]; simp
    · rw [t8, elD_s, hl]; simp
  | some p0 =>
    have hp0 := lieD_lt hl
    rw [if_neg (show ¬ oX (some p0) = mI 15 from pz_nm (by omega) (by omega) (by omega))]
    obtain ⟨s3, c1, c2, c3, c4, c5, c6⟩ := pz_settleLies (σ := s2) (b := b) (t := dto d b) (p0 := p0) (o := homeD d (pbD d b)) (by omega) (by omega) (fun p hp => by have := (homeD_lt hp).1; omega) (by rw [e9, hl]; rfl) e8 t13 t14 t7 t8
    rw [c1, pz_bd]
    refine ⟨s3, rfl, ⟨fun j hj => ?_, fun p hp => ⟨?_, ?_, ?_, ?_⟩, ?_, ?_⟩, fun a ha => by rw [c6 a (by omega) (by omega) (by omega)]; exact fr2 a ha⟩
    · rw [c6 8 (by omega) (by omega) (by omega), c6 9 (by omega) (by omega) (by omega), c6 10 (by omega) (by omega) (by omega)]
      exact new j hj
    · rw [c6 11 (by omega) (by omega) (by omega)]; exact t11 p hp
    · rw [c6 12 (by omega) (by omega) (by omega)]; exact t12 p hp
    · rw [c2 p hp, lcD_s, hl]
    · rw [c3 p hp, tkD_s, hl]
    · rw [c4, ahD_s, hl]
      simp
    · rw [c5, elD_s, hl]
      by_cases e : some p0 = homeD d (pbD d b) <;> simp [e]
theorem settle_ok {h cx : Nat} {σ : St} {d : HD} (hd : dOk d) (hcx : cx < 2) (H : XH h σ d) (hc : cirOk cx σ d) :
    ∃ σ', fX4_settle h cx σ = some σ' ∧ moorX σ' d (dB d) ∧ ∀ a, a < 7 ∨ 15 ≤ a → σ' a = σ a := by
  have h24 := hd.2.1
  unfold fX4_settle
  simp only [pz_nm_, pz_n0]
  obtain ⟨σ1, e1⟩ : ∃ z, z = su (su (sr (sr (sr (sr σ 11 (fl 8 (nI 0) (σ 11))) 12 (fl 8 (nI 0) (sr σ 11 (fl 8 (nI 0) (σ 11)) 12))) 13 (fl 8 (nI 0) (sr (sr σ 11 (fl 8 (nI 0) (σ 11))) 12 (fl 8 (nI 0) (sr σ 11 (fl 8 (nI 0) (σ 11)) 12)) 13))) 14 (fl 8 (nI 0) (sr (sr (sr σ 11 (fl 8 (nI 0) (σ 11))) 12 (fl 8 (nI 0) (sr σ 11 (fl 8 (nI 0) (σ 11)) 12))) 13 (fl 8 (nI 0) (sr (sr σ 11 (fl 8 (nI 0) (σ 11))) 12 (fl 8 (nI 0) (sr σ 11 (fl 8 (nI 0) (σ 11)) 12)) 13)) 14))) 7 7 (nI 0)) 7 8 (nI 0) := ⟨_, rfl⟩
  rw [← e1]
  have fr1 : ∀ a, a < 7 ∨ 15 ≤ a → σ1 a = σ a := fun a ha => by
    rw [e1, pz_su_r _ _ (by omega), pz_su_r _ _ (by omega), sr_ne _ _ (by omega), sr_ne _ _ (by omega), sr_ne _ _ (by omega), sr_ne _ _ (by omega)]
  have hm1 : moorX σ1 d 0 := by
    refine ⟨fun j hj => absurd hj (Nat.not_lt_zero _), fun p hp => ⟨?_, ?_, ?_, ?_⟩, ?_, ?_⟩
    · rw [e1, pz_su_r _ _ (by omega), pz_su_r _ _ (by omega), sr_ne _ _ (by omega), sr_ne _ _ (by omega), sr_ne _ _ (by omega), sr_self]
      exact if_pos hp
    · rw [e1, pz_su_r _ _ (by omega), pz_su_r _ _ (by omega), sr_ne _ _ (by omega), sr_ne _ _ (by omega), sr_self]
      exact if_pos hp
    · rw [e1, pz_su_r _ _ (by omega), pz_su_r _ _ (by omega), sr_ne _ _ (by omega), sr_self]
      exact if_pos hp
    · rw [e1, pz_su_r _ _ (by omega), pz_su_r _ _ (by omega), sr_self]
      exact if_pos hp
    · rw [e1, pz_su_n _ _ (by omega), pz_su_s]; rfl
    · rw [e1, pz_su_s]; rfl
  refine pz_loop (F := fun m τ i => fX4_settle_L44 h cx (fun σ => fX4_settle_B107 h cx σ) m τ (nI i)) (P := fun o => ∃ σ', o = some σ' ∧ moorX σ' d (dB d) ∧ ∀ a, a < 7 ∨ 15 ≤ a → σ' a = σ a) (fun i τ => moorX τ d i ∧ ∀ a, a < 7 ∨ 15 ≤ a → τ a = σ a) (dB d) ?_ ?_ (dB d) 0 σ1 1000 (by omega) (by omega) ⟨hm1, fr1⟩
  · intro n τ ⟨c1, c2⟩
    refine ⟨τ, ?_, c1, c2⟩
    show fX4_settle_L44 h cx _ (n + 1) τ (nI (dB d)) = some τ
    rw [fX4_settle_L44, c2 _ (by omega), H.2.1, if_pos (nI_le (Nat.le_refl _) (by omega))]
    rfl
  · intro n i τ hi ⟨c1, c2⟩
    right
    have H1 : XH h τ d := H.congr (fun a x1 x2 => c2 a (by omega))
    have hc1 : cirOk cx τ d := hc.congr (fun a x1 x2 => c2 a (by omega))
    obtain ⟨σ', g1, g2, g3⟩ := settle_step (m := n) (K := fun σ => fX4_settle_B107 h cx σ) hd hcx H1 hc1 hi c1
    exact ⟨σ', ⟨g2, fun a ha => by rw [g3 a ha]; exact c2 a ha⟩, g1⟩
def mvD (d d' : HD) (n : Nat) : Nat := sumTo (fun j => if homeD d' (pbD d j) = homeD d (pbD d j) then 0 else 1) n
theorem sumTo_le {f : Nat → Nat} {c : Nat} : ∀ n, (∀ j, j < n → f j ≤ c) → sumTo f n ≤ c * n := by
  intro n
  induction n with
  | zero => intro _; exact Nat.le_refl _
  | succ n ih =>
    intro h
    have h1 := ih (fun j hj => h j (by omega))
    have h2 := h n (by omega)
    show sumTo f n + f n ≤ _
    rw [Nat.mul_succ]
    omega
theorem mvD_le (d d' : HD) (n : Nat) : mvD d d' n ≤ n := by
  have := sumTo_le (f := fun j => if homeD d' (pbD d j) = homeD d (pbD d j) then 0 else 1) (c := 1) n (fun j _ => by
    show (if homeD d' (pbD d j) = homeD d (pbD d j) then 0 else 1) ≤ 1
    split <;> omega)
  unfold mvD
  omega
theorem pz_unlike {h cx : Nat} {σ : St} {d d1 d' : HD} (hd : dOk d) (hd1 : dOk d1) (hd' : dOk d') (H : XH h σ d1) (hB : dB d1 = dB d) (hpb : ∀ j, j < dB d → pbD d1 j = pbD d j) (hc : cirX cx σ d' (cntD d')) (h8 : ∀ j, j < dB d → σ 8 j = oX (homeD d (pbD d j))) :
    fX4_homesUnlike h cx σ = some (nI (mvD d d' (dB d))) := by
  have h24 := hd.2.1
  unfold fX4_homesUnlike
  rw [pz_n0]
  show fX4_homesUnlike_L5 h cx σ _ 1000 (nI (mvD d d' 0)) (nI 0) = _
  refine pz_loop (F := fun m (_ : Unit) i => fX4_homesUnlike_L5 h cx σ (fun y3 => fX4_homesUnlike_B43 h cx σ y3) m (nI (mvD d d' i)) (nI i)) (P := fun o => o = some (nI (mvD d d' (dB d)))) (fun _ _ => True) (dB d) ?_ ?_ (dB d) 0 () 1000 (by omega) (by omega) trivial
  · intro n _ _
    show fX4_homesUnlike_L5 h cx σ _ (n + 1) (nI (mvD d d' (dB d))) (nI (dB d)) = _
    rw [fX4_homesUnlike_L5, H.2.1, hB, if_pos (nI_le (Nat.le_refl _) (by omega))]
    rfl
  · intro n i _ hi _
    right
    refine ⟨(), trivial, ?_⟩
    show fX4_homesUnlike_L5 h cx σ _ (n + 1) (nI (mvD d d' i)) (nI i) = fX4_homesUnlike_L5 h cx σ _ n (nI (mvD d d' i + if homeD d' (pbD d i) = homeD d (pbD d i) then 0 else 1)) (nI (i + 1))
    rw [fX4_homesUnlike_L5, H.2.1, hB, if_neg (nI_ge hi (by omega)), pz_pointOf hd1 H (by omega), pz_bd, hpb i hi, pz_homeByTree hd' (pbD_lt d i) hc, pz_bd]
    simp (disch := omega) only [pz_n1, pz_gd, pz_nm_, pz_cl, nI_add, h8 i hi, oX_inj hd' hd]
    by_cases e : homeD d' (pbD d i) = homeD d (pbD d i)
    · rw [if_pos e, if_pos e]; rfl
    · rw [if_neg e, if_neg e]
