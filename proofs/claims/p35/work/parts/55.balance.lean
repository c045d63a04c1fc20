/-! Pure rows: all is balanced. -/
theorem pz_homesAgree {σ : St} {d : HD} (hd : dOk d) (H : XH 0 σ d) (hc : cirOk 0 σ d) : fX6_homesAgree σ = some (nI 1) := by
  have h24 := hd.2.1
  unfold fX6_homesAgree
  rw [pz_n0]
  refine pz_loop (F := fun m (_ : Unit) i => fX6_homesAgree_L2 σ (fX6_homesAgree_B49 σ) m (nI i)) (P := fun o => o = some (nI 1)) (fun _ _ => True) (dB d) ?_ ?_ (dB d) 0 () 1000 (by omega) (by omega) trivial
  · intro n _ _
    show fX6_homesAgree_L2 σ _ (n + 1) (nI (dB d)) = _
    rw [fX6_homesAgree_L2, show σ 33 5 = nI (dB d) from H.2.1, if_pos (nI_le (Nat.le_refl _) (by omega))]
    rfl
  · intro n i _ hi _
    right
    refine ⟨(), trivial, ?_⟩
    show fX6_homesAgree_L2 σ _ (n + 1) (nI i) = fX6_homesAgree_L2 σ _ n (nI (i + 1))
    rw [fX6_homesAgree_L2, show σ 33 5 = nI (dB d) from H.2.1, if_neg (nI_ge hi (by omega)), pz_pointOf hd H hi, pz_bd, pz_homeByTree hd (pbD_lt d i) hc.1, pz_bd, pz_homeAlong hd (pbD_lt d i) hc.1, pz_bd, if_pos rfl, pz_nm_, pz_n1, nI_add]
theorem sumTo_add (f g : Nat → Nat) : ∀ n, sumTo (fun j => f j + g j) n = sumTo f n + sumTo g n := by
  intro n
  induction n with
  | zero => rfl
  | succ n ih =>
    show sumTo (fun j => f j + g j) n + (f n + g n) = (sumTo f n + f n) + (sumTo g n + g n)
    omega
theorem sumTo_swap (f : Nat → Nat → Nat) (n : Nat) : ∀ m, sumTo (fun p => sumTo (f p) n) m = sumTo (fun q => sumTo (fun p => f p q) m) n := by
  intro m
  induction m with
  | zero =>
    show 0 = sumTo (fun _ => 0) n
    rw [sumTo_const (c := 0) (a := 0) n (Nat.zero_le _) (fun _ _ _ => rfl)]
    show 0 = 0 + 0 * (n - 0)
    omega
  | succ m ih =>
    show sumTo (fun p => sumTo (f p) n) m + sumTo (f m) n = sumTo (fun q => sumTo (fun p => f p q) m + f m q) n
    rw [sumTo_add, ih]
theorem one_home {d : HD} {q p0 : Nat} (h : homeD d q = some p0) : sumTo (fun p => if homeD d q = some p then 1 else 0) (dP d) = 1 := by
  have hp := (homeD_lt h).1
  have h1 := sumTo_const (f := fun p => if homeD d q = some p then 1 else 0) (c := 0) (a := 0) p0 (Nat.zero_le _) (fun j _ hj => if_neg (fun e => by rw [h] at e; have := Option.some.inj e; omega))
  have h2 : sumTo (fun p => if homeD d q = some p then 1 else 0) (p0 + 1) = sumTo (fun p => if homeD d q = some p then 1 else 0) p0 + 1 := by
    show _ + (if homeD d q = some p0 then 1 else 0) = _
    rw [if_pos h]
  have h3 := sumTo_const (f := fun p => if homeD d q = some p then 1 else 0) (c := 0) (a := p0 + 1) (dP d) (by omega) (fun j hj _ => if_neg (fun e => by rw [h] at e; have := Option.some.inj e; omega))
  have h0 : sumTo (fun p => if homeD d q = some p then 1 else 0) 0 = 0 := rfl
  omega
theorem home_is {d : HD} (hd : dOk d) (h0 : 0 < cntD d) {q : Nat} : ∃ p, homeD d q = some p := by
  cases h : hfD d q with
  | some i => exact ⟨i % 8, by unfold homeD; rw [h]; rfl⟩
  | none =>
    exfalso
    have hp := paD_facts hd h0
    have h2 := fh_none.mp h
    have hm : q % 360 < 360 := Nat.mod_lt _ (by omega)
    have := h2 (q + (paD d 0 + 360 - q % 360) % 360) (by omega) (by omega)
    unfold cP at this
    rw [show (q + (paD d 0 + 360 - q % 360) % 360) % 360 = paD d 0 by omega, hp.2.1] at this
    cases this
theorem all_stretch {d : HD} (hd : dOk d) (h0 : 0 < cntD d) : sumTo (stD d) (dP d) = 360 := by
  have h1 := sumTo_swap (fun p q => if homeD d q = some p then 1 else 0) 360 (dP d)
  have h2 : sumTo (stD d) (dP d) = sumTo (fun p => sumTo ((fun p q => if homeD d q = some p then 1 else 0) p) 360) (dP d) := rfl
  rw [h2, h1, sumTo_const (c := 1) (a := 0) 360 (by omega) (fun q _ _ => by
    obtain ⟨p, hp⟩ := home_is hd h0 (q := q)
    exact one_home hp)]
  rfl
theorem none_open {d : HD} (hd : dOk d) (h0 : cntD d = 0) : opD d = 0 := by
  have h : ∀ n, n ≤ dP d → offD d n = 0 → sumTo (fun p => if dop d p = true then 1 else 0) n = 0 := by
    intro n
    induction n with
    | zero => intro _ _; rfl
    | succ n ih =>
      intro hn h1
      have h2 : offD d n + nptD d n = 0 := h1
      have hbe := hd.2.2.2.1 n (by omega)
      show sumTo (fun p => if dop d p = true then 1 else 0) n + (if dop d n = true then 1 else 0) = 0
      rw [ih (by omega) (by omega)]
      unfold nptD at h2
      by_cases e : dop d n = true
      · rw [if_pos e] at h2; omega
      · rw [if_neg e]
  exact h (dP d) (Nat.le_refl _) h0
theorem stD_le (d : HD) (p : Nat) : stD d p ≤ 360 := by
  have := sumTo_le (f := fun q => if homeD d q = some p then 1 else 0) (c := 1) 360 (fun j _ => by
    show (if homeD d j = some p then 1 else 0) ≤ 1
    split <;> omega)
  unfold stD
  omega
theorem pz_fillRing {σ : St} {d : HD} (hd : dOk d) (H : XH 0 σ d) (hc : cirOk 0 σ d) : fX6_stretchesFillTheRing σ = some (nI 1) := by
  have h8 := hd.1
  unfold fX6_stretchesFillTheRing
  rw [pz_n0]
  have h1 := sum_loop (F := fun m x i => fX6_stretchesFillTheRing_L4 σ (fun y1 => fX6_stretchesFillTheRing_B32 σ y1) m x i) (f := stD d) (N := dP d) (K := fun y1 => fX6_stretchesFillTheRing_B32 σ y1) (by omega) (fun n => by
    show fX6_stretchesFillTheRing_L4 σ _ (n + 1) _ _ = _
    rw [fX6_stretchesFillTheRing_L4, show σ 33 4 = nI (dP d) from H.1, if_pos (nI_le (Nat.le_refl _) (by omega))]) (fun n i hi => by
    show fX6_stretchesFillTheRing_L4 σ _ (n + 1) _ _ = _
    rw [fX6_stretchesFillTheRing_L4, show σ 33 4 = nI (dP d) from H.1, if_neg (nI_ge hi (by omega)), pz_stretch hd hc hi, pz_bd, pz_nm_, pz_n1, nI_add, nI_add, pz_nm_])
  have h2 : fX6_stretchesFillTheRing_L4 σ (fun y1 => fX6_stretchesFillTheRing_B32 σ y1) 1000 (nI 0) (nI 0) = fX6_stretchesFillTheRing_B32 σ (nI (sumTo (stD d) (dP d))) := h1
  rw [h2]
  unfold fX6_stretchesFillTheRing_B32
  by_cases h0 : cntD d = 0
  · rw [pz_openPiers (h := 0) hd H, pz_bd, none_open hd h0, pz_n0, if_pos rfl, ite_self]
    rfl
  · rw [all_stretch hd (by omega), pz_n360, if_pos rfl]
    rfl
theorem tk_room {d : HD} (p : Nat) : ∀ b, tkD d b p ≤ roomD d p := by
  intro b
  induction b with
  | zero => exact Nat.zero_le _
  | succ b ih =>
    rw [tkD_s]
    by_cases e : lieD d b = some p
    · rw [if_pos e]
      unfold lieD lieW at e
      cases hf : (wD d b).find? (fitD d (tkD d b) b) with
      | none => rw [hf] at e; cases e
      | some i =>
        rw [hf] at e
        have h1 : i % 8 = p := Option.some.inj e
        have h2 := List.find?_some hf
        unfold fitD at h2
        rw [decide_eq_true_eq, h1] at h2
        exact h2
    · rw [if_neg e]
      exact ih
theorem pz_noExcess {σ : St} {d : HD} (hd : dOk d) (H : XH 0 σ d) (hm : moorX σ d (dB d)) : fX6_nothingExceedsItsRoom σ = some (nI 1) := by
  have h8 := hd.1
  unfold fX6_nothingExceedsItsRoom
  rw [pz_n0]
  refine pz_loop (F := fun m (_ : Unit) i => fX6_nothingExceedsItsRoom_L2 σ (fX6_nothingExceedsItsRoom_B41 σ) m (nI i)) (P := fun o => o = some (nI 1)) (fun _ _ => True) (dP d) ?_ ?_ (dP d) 0 () 1000 (by omega) (by omega) trivial
  · intro n _ _
    show fX6_nothingExceedsItsRoom_L2 σ _ (n + 1) (nI (dP d)) = _
    rw [fX6_nothingExceedsItsRoom_L2, show σ 33 4 = nI (dP d) from H.1, if_pos (nI_le (Nat.le_refl _) (by omega))]
    rfl
  · intro n p _ hp _
    right
    refine ⟨(), trivial, ?_⟩
    show fX6_nothingExceedsItsRoom_L2 σ _ (n + 1) (nI p) = fX6_nothingExceedsItsRoom_L2 σ _ n (nI (p + 1))
    have h1 := tk_room (d := d) p (dB d)
    have h2 := roomD_le hd hp
    rw [fX6_nothingExceedsItsRoom_L2, show σ 33 4 = nI (dP d) from H.1, if_neg (nI_ge hp (by omega)), pz_gd (by omega) (by omega), pz_roomOf hd H hp, pz_bd, pz_cl (by omega), (hm.2.1 p (by omega)).2.2.2, if_pos (nI_le h1 (by omega)), pz_nm_, pz_n1, nI_add]
def scr (σ σ' : St) : Prop := ∀ k, k < 24 ∨ (33 ≤ k ∧ k < 38) ∨ 43 ≤ k → σ' k = σ k
theorem pz_near {σ : St} {d : HD} {p : Nat} (hd : dOk d) (H : XH 0 σ d) (hc : cirOk 0 σ d) (hm : moorX σ d (dB d)) (hp : p < dP d) : ∃ σ', fX6_closingStaysNear σ (nI p) = some (nI 1, σ') ∧ scr σ σ' := by
  have h8 := hd.1
  have h24 := hd.2.1
  unfold fX6_closingStaysNear
  rw [pz_neighbours hd hc hp, pz_bd]
  obtain ⟨τ, s1, s2, s3⟩ := suppose_ok hd H hp
  have hd' : dOk (dSetO d p false) := ⟨hd.1, hd.2.1, hd.2.2.1, hd.2.2.2.1, hd.2.2.2.2⟩
  rw [s1, pz_bd, pz_n0]
  refine ⟨τ, ?_, s3⟩
  have HX : XH 0 τ d := H.congr (fun k x1 x2 => s3 k (by omega))
  refine pz_loop (F := fun m (_ : Unit) i => fX6_closingStaysNear_L16 (nI p) (btS (nbX d p (cntD d))) (fun σ => fX6_closingStaysNear_B105 σ) m τ (nI i)) (P := fun o => o = some (nI 1, τ)) (fun _ _ => True) (dB d) ?_ ?_ (dB d) 0 () 1000 (by omega) (by omega) trivial
  · intro n _ _
    show fX6_closingStaysNear_L16 (nI p) _ _ (n + 1) τ (nI (dB d)) = _
    rw [fX6_closingStaysNear_L16, show τ 33 5 = nI (dB d) from HX.2.1, if_pos (nI_le (Nat.le_refl _) (by omega))]
    rfl
  · intro n i _ hi _
    right
    refine ⟨(), trivial, ?_⟩
    show fX6_closingStaysNear_L16 (nI p) _ _ (n + 1) τ (nI i) = fX6_closingStaysNear_L16 (nI p) _ _ n τ (nI (i + 1))
    have e8 : τ 8 i = oX (homeD d (pbD d i)) := by rw [s3 8 (by omega)]; exact (hm.1 i hi).1
    have hpb := pbD_lt d i
    rw [fX6_closingStaysNear_L16, show τ 33 5 = nI (dB d) from HX.2.1, if_neg (nI_ge hi (by omega)), pz_gd (by omega) (by omega), pz_nm_, pz_cl (by omega), e8, pz_pointOf hd HX hi, pz_bd, pz_homeByTree hd' hpb s2.1, pz_bd]
    have hstep : ∀ (v : Int32), fX6_closingStaysNear_B79 (fX6_closingStaysNear_L16 (nI p) (btS (nbX d p (cntD d))) (fun σ => fX6_closingStaysNear_B105 σ) n) (fun σ => fX6_closingStaysNear_B105 σ) τ (nI p) v (nI i) (nI p) = fX6_closingStaysNear_L16 (nI p) (btS (nbX d p (cntD d))) (fun σ => fX6_closingStaysNear_B105 σ) n τ (nI (i + 1)) := fun v => by
      unfold fX6_closingStaysNear_B79
      rw [if_pos rfl, pz_nm_, pz_n1, nI_add]
    by_cases e : homeD (dSetO d p false) (pbD d i) = homeD d (pbD d i)
    · rw [if_pos (by rw [e]), pz_nm_, pz_n1, nI_add]
    · rw [if_neg (fun h => e ((oX_inj hd' hd).mp h))]
      have hhome : homeD d (pbD d i) = some p := by
        cases hq : homeD d (pbD d i) with
        | none => exact absurd (by rw [hq]; exact home_none hq) e
        | some p0 =>
          by_cases e2 : p0 = p
          · rw [e2]
          · exact absurd (by rw [hq]; exact home_keep hq e2) e
      cases ho : homeD (dSetO d p false) (pbD d i) with
      | none =>
        rw [if_pos (show oX none = -15 by decide), hhome]
        exact hstep _
      | some b =>
        have hb := (homeD_lt ho).1
        have hb8 : b < 8 := Nat.lt_of_lt_of_le hb h8
        have hbit : nbX d p (cntD d) b = true := by
          rw [nb_same hd]
          unfold nbM
          rw [List.any_eq_true]
          exact ⟨pbD d i, List.mem_range.mpr hpb, by rw [Bool.and_eq_true, decide_eq_true_eq, decide_eq_true_eq]; exact ⟨hhome, ho⟩⟩
        rw [pz_n15, pz_neg, if_neg (show ¬ oX (some b) = mI 15 from pz_nm (by omega) (by omega) (by omega))]
        have h1 := btS_at (nbX d p (cntD d)) hb8 hbit
        rw [pz_n1, if_pos (show ((btS (nbX d p (cntD d)) >>> (oX (some b) &&& 31)) &&& nI 1) = nI 1 from h1), hhome]
        exact hstep _
theorem pz_allNear {σ : St} {d : HD} (hd : dOk d) (H : XH 0 σ d) (hc : cirOk 0 σ d) (hm : moorX σ d (dB d)) : ∃ σ', fX6_closingsStayNear σ = some (nI 1, σ') ∧ scr σ σ' := by
  have h8 := hd.1
  unfold fX6_closingsStayNear
  rw [pz_n0]
  refine pz_loop (F := fun m τ i => fX6_closingsStayNear_L2 (fun σ => fX6_closingsStayNear_B41 σ) m τ (nI i)) (P := fun o => ∃ σ', o = some (nI 1, σ') ∧ scr σ σ') (fun _ τ => scr σ τ) (dP d) ?_ ?_ (dP d) 0 σ 1000 (by omega) (by omega) (fun _ _ => rfl)
  · intro n τ h1
    have HX : XH 0 τ d := H.congr (fun k x1 x2 => h1 k (by omega))
    refine ⟨τ, ?_, h1⟩
    show fX6_closingsStayNear_L2 _ (n + 1) τ (nI (dP d)) = _
    rw [fX6_closingsStayNear_L2, show τ 33 4 = nI (dP d) from HX.1, if_pos (nI_le (Nat.le_refl _) (by omega))]
    rfl
  · intro n p τ hp h1
    right
    have HX : XH 0 τ d := H.congr (fun k x1 x2 => h1 k (by omega))
    have x35 : τ 35 p = bI (dop d p) := HX.2.2.2.2.2.1 p hp
    show ∃ b', _ ∧ fX6_closingsStayNear_L2 _ (n + 1) τ (nI p) = fX6_closingsStayNear_L2 _ n b' (nI (p + 1))
    rw [fX6_closingsStayNear_L2, show τ 33 4 = nI (dP d) from HX.1, if_neg (nI_ge hp (by omega)), pz_gd (by omega) (by omega), pz_cl (by omega), x35, pz_n0]
    cases dop d p with
    | false =>
      rw [if_pos (show bI false = nI 0 from rfl), pz_nm_, pz_n1, nI_add]
      exact ⟨τ, h1, rfl⟩
    | true =>
      rw [if_neg (show ¬ bI true = nI 0 from pz_10)]
      obtain ⟨τ2, g1, g2⟩ := pz_near hd HX (hc.congr (fun k x1 x2 => h1 k (by omega))) (hm.congr (fun k x1 x2 => h1 k (by omega))) hp
      rw [g1, pz_bd]
      dsimp only
      rw [if_neg pz_10, pz_nm_, pz_n1, nI_add]
      exact ⟨τ2, fun k hk => by rw [g2 k hk, h1 k hk], rfl⟩
theorem sm_isBalanced {σX σM : St} (hR : allR σX σM) : ∃ r σX', fX6_isBalanced σX = some (r, σX') ∧ fX7_isBalanced σM = some r ∧ allR σX' σM := by
  have hR0 := hR
  obtain ⟨⟨d, ⟨hd, c2, c3, c4⟩, c5, c6⟩, -⟩ := hR
  obtain ⟨τ, g1, g2⟩ := pz_allNear hd c2 c5 c6
  refine ⟨nI 1, τ, ?_, rfl, hR0.scratch g2 (fun _ _ => rfl) rfl rfl (fun _ _ _ _ _ => rfl)⟩
  unfold fX6_isBalanced
  rw [pz_homesAgree hd c2 c5, pz_bd, pz_fillRing hd c2 c5, pz_bd, pz_noExcess hd c2 c6, pz_bd, g1, pz_bd, pz_n0]
  dsimp only
  rw [if_neg pz_10, if_neg pz_10, if_neg pz_10, if_neg pz_10]
  rfl
