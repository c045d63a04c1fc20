/-! Pure rows: sums over piers and barges, in both systems. -/
theorem sum_loop {F : Nat → Int32 → Int32 → Option Int32} {f : Nat → Nat} {N : Nat} {K : Int32 → Option Int32} (hN : N < 1000) (hend : ∀ n, F (n + 1) (nI (sumTo f N)) (nI N) = K (nI (sumTo f N))) (hstep : ∀ n i, i < N → F (n + 1) (nI (sumTo f i)) (nI i) = F n (nI (sumTo f i + f i)) (nI (i + 1))) : F 1000 (nI 0) (nI 0) = K (nI (sumTo f N)) := by
  show F 1000 (nI (sumTo f 0)) (nI 0) = _
  exact pz_loop (F := fun m (_ : Unit) i => F m (nI (sumTo f i)) (nI i)) (P := fun o => o = K (nI (sumTo f N))) (fun _ _ => True) N (fun n _ _ => hend n) (fun n i _ hi _ => Or.inr ⟨(), trivial, hstep n i hi⟩) N 0 () 1000 (by omega) (by omega) trivial
theorem sumTo_congr {f g : Nat → Nat} : ∀ n, (∀ j, j < n → f j = g j) → sumTo f n = sumTo g n := by
  intro n
  induction n with
  | zero => intro _; rfl
  | succ n ih =>
    intro h
    show sumTo f n + f n = sumTo g n + g n
    rw [ih (fun j hj => h j (by omega)), h n (by omega)]
def opD (d : HD) : Nat := sumTo (fun p => if dop d p = true then 1 else 0) (dP d)
def arD (d : HD) : Nat := sumTo (roomD d) (dP d)
def atD (d : HD) : Nat := sumTo (dto d) (dB d)
def alD (d : HD) : Nat := sumTo (tkD d (dB d)) (dP d)
def hotD (d : HD) (p : Nat) : Bool := decide (roomD d p < htD d (dB d) p)
def nhD (d : HD) : Nat := sumTo (fun p => if hotD d p = true then 1 else 0) (dP d)
def noD (d : HD) (n : Nat) : Nat := sumTo (fun j => if lieD d j = none then 1 else 0) n
theorem pz_openPiers {h : Nat} {σ : St} {d : HD} (hd : dOk d) (H : XH h σ d) : fX1_openPiers h σ = some (nI (opD d)) := by
  have h8 := hd.1
  unfold fX1_openPiers
  rw [pz_n0]
  refine sum_loop (F := fun m x i => fX1_openPiers_L4 h σ (fun y1 => fX1_openPiers_B30 h σ y1) m x i) (f := fun p => if dop d p = true then 1 else 0) (K := fun y1 => fX1_openPiers_B30 h σ y1) (by omega) (fun n => ?_) (fun n i hi => ?_)
  · show fX1_openPiers_L4 h σ _ (n + 1) _ _ = _
    rw [fX1_openPiers_L4, H.1, if_pos (nI_le (Nat.le_refl _) (by omega))]
  · show fX1_openPiers_L4 h σ _ (n + 1) _ _ = _
    rw [fX1_openPiers_L4, H.1, if_neg (nI_ge hi (by omega))]
    simp (disch := omega) only [pz_gd, pz_cl, pz_nm_, H.2.2.2.2.2.1 i hi, pz_n0, pz_n1, nI_add]
    cases dop d i with
    | true => rw [if_neg (show ¬ bI true = nI 0 from pz_10)]; rfl
    | false => rw [if_pos (show bI false = nI 0 from rfl)]; rfl
theorem pz_allRoom {h : Nat} {σ : St} {d : HD} (hd : dOk d) (H : XH h σ d) : fX1_allRoom h σ = some (nI (arD d)) := by
  have h8 := hd.1
  unfold fX1_allRoom
  rw [pz_n0]
  refine sum_loop (F := fun m x i => fX1_allRoom_L4 h σ (fun y1 => fX1_allRoom_B26 h σ y1) m x i) (f := roomD d) (K := fun y1 => fX1_allRoom_B26 h σ y1) (by omega) (fun n => ?_) (fun n i hi => ?_)
  · show fX1_allRoom_L4 h σ _ (n + 1) _ _ = _
    rw [fX1_allRoom_L4, H.1, if_pos (nI_le (Nat.le_refl _) (by omega))]
  · show fX1_allRoom_L4 h σ _ (n + 1) _ _ = _
    rw [fX1_allRoom_L4, H.1, if_neg (nI_ge hi (by omega)), pz_roomOf hd H hi, pz_bd]
    simp only [pz_nm_, pz_n1, nI_add]
theorem pz_allTons {h : Nat} {σ : St} {d : HD} (hd : dOk d) (H : XH h σ d) : fX1_allTons h σ = some (nI (atD d)) := by
  have h24 := hd.2.1
  unfold fX1_allTons
  rw [pz_n0]
  refine sum_loop (F := fun m x i => fX1_allTons_L4 h σ (fun y1 => fX1_allTons_B27 h σ y1) m x i) (f := dto d) (K := fun y1 => fX1_allTons_B27 h σ y1) (by omega) (fun n => ?_) (fun n i hi => ?_)
  · show fX1_allTons_L4 h σ _ (n + 1) _ _ = _
    rw [fX1_allTons_L4, H.2.1, if_pos (nI_le (Nat.le_refl _) (by omega))]
  · show fX1_allTons_L4 h σ _ (n + 1) _ _ = _
    rw [fX1_allTons_L4, H.2.1, if_neg (nI_ge hi (by omega))]
    simp (disch := omega) only [pz_gd, pz_cl, pz_nm_, H.2.2.2.2.2.2.2.1 i hi, pz_n1, nI_add]
theorem tkD_0 (d : HD) {p : Nat} (hp : dP d ≤ p) : ∀ b, tkD d b p = 0 := by
  intro b
  induction b with
  | zero => rfl
  | succ b ih =>
    rw [tkD_s, ih, if_neg (fun h => by have := lieD_lt h; omega)]
theorem al_8 {d : HD} (hd : dOk d) : sumTo (tkD d (dB d)) 8 = alD d := by
  have h8 := hd.1
  have h : ∀ k, sumTo (tkD d (dB d)) (dP d + k) = alD d := by
    intro k
    induction k with
    | zero => rfl
    | succ k ih =>
      show sumTo (tkD d (dB d)) (dP d + k) + tkD d (dB d) (dP d + k) = _
      rw [ih, tkD_0 d (by omega)]
      rfl
  have := h (8 - dP d)
  rw [show dP d + (8 - dP d) = 8 by omega] at this
  exact this
theorem pz_allLying {σ : St} {d : HD} (hd : dOk d) (hm : moorX σ d (dB d)) : fX4_allLyingTons σ = some (nI (alD d)) := by
  rw [← al_8 hd]
  unfold fX4_allLyingTons
  rw [pz_n0]
  refine sum_loop (F := fun m x i => fX4_allLyingTons_L4 σ (fun y1 => fX4_allLyingTons_B25 σ y1) m x i) (f := tkD d (dB d)) (K := fun y1 => fX4_allLyingTons_B25 σ y1) (by omega) (fun n => ?_) (fun n i hi => ?_)
  · show fX4_allLyingTons_L4 σ _ (n + 1) _ _ = _
    rw [fX4_allLyingTons_L4, pz_n8, if_pos (nI_le (Nat.le_refl _) (by omega))]
  · show fX4_allLyingTons_L4 σ _ (n + 1) _ _ = _
    rw [fX4_allLyingTons_L4, pz_n8, if_neg (nI_ge hi (by omega))]
    simp (disch := omega) only [pz_gd, pz_cl, pz_nm_, (hm.2.1 i hi).2.2.2, pz_n1, nI_add]
theorem htD_le {d : HD} (hd : dOk d) (p : Nat) : ∀ b, b ≤ dB d → htD d b p ≤ 99 * b := by
  intro b
  induction b with
  | zero => intro _; exact Nat.le_refl _
  | succ b ih =>
    intro hb
    have h1 := ih (by omega)
    have h2 := (hd.2.2.2.2 b (by omega)).2.2
    rw [htD_s]
    split <;> omega
theorem pz_sub_le0 {a b : Nat} (ha : a < 2 ^ 30) (hb : b < 2 ^ 30) : nI a - nI b ≤ nI 0 ↔ a ≤ b := by
  rw [Int32.le_iff_toInt_le, pk_sub_toInt ha hb, nI_toInt (by omega)]
  omega
theorem pz_beyond {σ : St} {d : HD} (hd : dOk d) (H : XH 0 σ d) (hm : moorX σ d (dB d)) {p : Nat} (hp : p < dP d) : fX6_tonsBeyond σ (nI p) = some (nI (htD d (dB d) p) - nI (roomD d p)) := by
  have h8 := hd.1
  unfold fX6_tonsBeyond
  rw [pz_gd (by omega) (by omega), pz_roomOf hd H hp, pz_bd, pz_cl (by omega), (hm.2.1 p (by omega)).2.1]
theorem pz_isHot {σ : St} {d : HD} (hd : dOk d) (H : XH 0 σ d) (hm : moorX σ d (dB d)) {p : Nat} (hp : p < dP d) : fX6_isHot σ (nI p) = some (bI (hotD d p)) := by
  have h24 := hd.2.1
  have h1 := htD_le hd p (dB d) (Nat.le_refl _)
  have h2 := roomD_le hd hp
  unfold fX6_isHot hotD
  rw [pz_beyond hd H hm hp, pz_bd, pz_n0, pz_n1]
  by_cases e : htD d (dB d) p ≤ roomD d p
  · rw [if_pos ((pz_sub_le0 (by omega) (by omega)).mpr e), decide_eq_false (by omega)]; rfl
  · rw [if_neg (fun h => e ((pz_sub_le0 (by omega) (by omega)).mp h)), decide_eq_true (by omega)]; rfl
theorem pz_hotPiers {σ : St} {d : HD} (hd : dOk d) (H : XH 0 σ d) (hm : moorX σ d (dB d)) : fX6_hotPiers σ = some (nI (nhD d)) := by
  have h8 := hd.1
  unfold fX6_hotPiers
  rw [pz_n0]
  refine sum_loop (F := fun m x i => fX6_hotPiers_L4 σ (fun y1 => fX6_hotPiers_B32 σ y1) m x i) (f := fun p => if hotD d p = true then 1 else 0) (K := fun y1 => fX6_hotPiers_B32 σ y1) (by omega) (fun n => ?_) (fun n i hi => ?_)
  · show fX6_hotPiers_L4 σ _ (n + 1) _ _ = _
    rw [fX6_hotPiers_L4, show σ 33 4 = nI (dP d) from H.1, if_pos (nI_le (Nat.le_refl _) (by omega))]
  · show fX6_hotPiers_L4 σ _ (n + 1) _ _ = _
    rw [fX6_hotPiers_L4, show σ 33 4 = nI (dP d) from H.1, if_neg (nI_ge hi (by omega)), pz_isHot hd H hm hi, pz_bd]
    simp only [pz_nm_, pz_n0, pz_n1, nI_add]
    cases hotD d i with
    | true => rw [if_neg (show ¬ bI true = nI 0 from pz_10)]; rfl
    | false => rw [if_pos (show bI false = nI 0 from rfl)]; rfl
/-! the model's -/
theorem oM_p {d : HD} (hd : dOk d) {q p : Nat} (hp : p < 2 ^ 31) : oM (homeD d q) = nI p ↔ homeD d q = some p := by
  have h8 := hd.1
  cases e : homeD d q with
  | none => exact ⟨fun h => absurd h (pz_mn hp (by omega) (by omega)), fun h => by cases h⟩
  | some p' =>
    have := (homeD_lt e).1
    show nI p' = nI p ↔ _
    rw [nI_eq (by omega) hp]
    exact ⟨fun h => by rw [h], fun h => Option.some.inj h⟩
theorem oM_l {d : HD} (hd : dOk d) {b p : Nat} (hp : p < 2 ^ 31) : oM (lieD d b) = nI p ↔ lieD d b = some p := by
  have h8 := hd.1
  cases e : lieD d b with
  | none => exact ⟨fun h => absurd h (pz_mn hp (by omega) (by omega)), fun h => by cases h⟩
  | some p' =>
    have := lieD_lt e
    show nI p' = nI p ↔ _
    rw [nI_eq (by omega) hp]
    exact ⟨fun h => by rw [h], fun h => Option.some.inj h⟩
theorem oM_n {d : HD} (hd : dOk d) {b : Nat} : oM (lieD d b) = mI 1 ↔ lieD d b = none := by
  have h8 := hd.1
  cases e : lieD d b with
  | none => exact ⟨fun _ => rfl, fun _ => rfl⟩
  | some p' =>
    have := lieD_lt e
    exact ⟨fun h => absurd h (pz_nm (by omega) (by omega) (by omega)), fun h => by cases h⟩
theorem pm_ofHome0 {σ : St} {d : HD} (hd : dOk d) (H : MH (σ 1) d) (hr : ringM σ d) {p : Nat} (hp : p < dP d) : fX7_ofHome σ (nI p) (nI 0) = some (nI (hcD d (dB d) p)) := by
  have h8 := hd.1
  have h24 := hd.2.1
  unfold fX7_ofHome
  rw [pz_n0]
  refine sum_loop (F := fun m x i => fX7_ofHome_L5 σ (nI p) (nI 0) (fun y3 => fX7_ofHome_B54 σ y3) m x i) (f := fun j => if homeD d (pbD d j) = some p then 1 else 0) (K := fun y3 => fX7_ofHome_B54 σ y3) (by omega) (fun n => ?_) (fun n i hi => ?_)
  · show fX7_ofHome_L5 σ _ _ _ (n + 1) _ _ = _
    rw [fX7_ofHome_L5, pz_n1, pz_cl (by omega), H.2.1, if_pos (nI_le (Nat.le_refl _) (by omega))]
  · show fX7_ofHome_L5 σ _ _ _ (n + 1) _ _ = _
    rw [fX7_ofHome_L5, pz_n1, pz_cl (by omega), H.2.1, if_neg (nI_ge hi (by omega)), pm_homeAt hd H hr hi, pz_bd]
    simp (disch := omega) only [pz_nm_, pz_n0, nI_add, oM_p hd, if_true]
    by_cases e : homeD d (pbD d i) = some p
    · rw [if_pos e, if_pos e]
    · rw [if_neg e, if_neg e]
theorem pm_ofHome1 {σ : St} {d : HD} (hd : dOk d) (H : MH (σ 1) d) (hr : ringM σ d) {p : Nat} (hp : p < dP d) : fX7_ofHome σ (nI p) (nI 1) = some (nI (htD d (dB d) p)) := by
  have h8 := hd.1
  have h24 := hd.2.1
  unfold fX7_ofHome
  rw [pz_n0]
  refine sum_loop (F := fun m x i => fX7_ofHome_L5 σ (nI p) (nI 1) (fun y3 => fX7_ofHome_B54 σ y3) m x i) (f := fun j => if homeD d (pbD d j) = some p then dto d j else 0) (K := fun y3 => fX7_ofHome_B54 σ y3) (by omega) (fun n => ?_) (fun n i hi => ?_)
  · show fX7_ofHome_L5 σ _ _ _ (n + 1) _ _ = _
    rw [fX7_ofHome_L5, pz_n1, pz_cl (by omega), H.2.1, if_pos (nI_le (Nat.le_refl _) (by omega))]
  · show fX7_ofHome_L5 σ _ _ _ (n + 1) _ _ = _
    rw [fX7_ofHome_L5, pz_n1, pz_cl (by omega), H.2.1, if_neg (nI_ge hi (by omega)), pm_homeAt hd H hr hi, pz_bd]
    simp (disch := omega) only [pz_nm_, pz_n0, nI_add, oM_p hd, pz_10, if_false, pm_b1 hd H hi, pz_bd]
    by_cases e : homeD d (pbD d i) = some p
    · rw [if_pos e, if_pos e]
    · rw [if_neg e, if_neg e]
theorem pm_lyingAt {σ : St} {d : HD} (hd : dOk d) (H : MH (σ 1) d) (hl : laidM σ d) {p : Nat} (hp : p < dP d) : fX7_lyingAt σ (nI p) = some (nI (lcD d (dB d) p)) := by
  have h8 := hd.1
  have h24 := hd.2.1
  unfold fX7_lyingAt
  rw [pz_n0]
  refine sum_loop (F := fun m x i => fX7_lyingAt_L4 σ (nI p) (fun y2 => fX7_lyingAt_B38 σ y2) m x i) (f := fun j => if lieD d j = some p then 1 else 0) (K := fun y2 => fX7_lyingAt_B38 σ y2) (by omega) (fun n => ?_) (fun n i hi => ?_)
  · show fX7_lyingAt_L4 σ _ _ (n + 1) _ _ = _
    rw [fX7_lyingAt_L4, pz_n1, pz_cl (by omega), H.2.1, if_pos (nI_le (Nat.le_refl _) (by omega))]
  · show fX7_lyingAt_L4 σ _ _ (n + 1) _ _ = _
    rw [fX7_lyingAt_L4, pz_n1, pz_cl (by omega), H.2.1, if_neg (nI_ge hi (by omega))]
    simp (disch := omega) only [pz_gd, pz_cl, pz_nm_, pz_n0, nI_add, (hl.2.1 i hi).1, oM_l hd]
    by_cases e : lieD d i = some p
    · rw [if_pos e, if_pos e]
    · rw [if_neg e, if_neg e]
theorem pm_isHot {σ : St} {d : HD} (hd : dOk d) (H : MH (σ 1) d) (hr : ringM σ d) {p : Nat} (hp : p < dP d) : fX7_isHot σ (nI p) = some (bI (hotD d p)) := by
  have h24 := hd.2.1
  have h1 := htD_le hd p (dB d) (Nat.le_refl _)
  have h2 := roomD_le hd hp
  unfold fX7_isHot hotD
  rw [pz_n1, pm_ofHome1 hd H hr hp, pz_bd, pm_room hd H hp, pz_bd, pz_n0]
  by_cases e : htD d (dB d) p ≤ roomD d p
  · rw [if_pos (nI_le e (by omega)), decide_eq_false (by omega)]; rfl
  · rw [if_neg (nI_ge (by omega) (by omega)), decide_eq_true (by omega)]; rfl
theorem pm_sum {σ : St} {d : HD} (hd : dOk d) (H : MH (σ 1) d) (w : Nat) (f : Nat → Nat) (hstep : ∀ n i x, i < dP d → fX7_sum_L4 σ (nI w) (fun y2 => fX7_sum_B89 σ y2) (n + 1) (nI x) (nI i) = fX7_sum_L4 σ (nI w) (fun y2 => fX7_sum_B89 σ y2) n (nI (x + f i)) (nI (i + 1))) : fX7_sum σ (nI w) = some (nI (sumTo f (dP d))) := by
  have h8 := hd.1
  unfold fX7_sum
  rw [pz_n0]
  refine sum_loop (F := fun m x i => fX7_sum_L4 σ (nI w) (fun y2 => fX7_sum_B89 σ y2) m x i) (f := f) (K := fun y2 => fX7_sum_B89 σ y2) (by omega) (fun n => ?_) (fun n i hi => hstep n i _ hi)
  show fX7_sum_L4 σ _ _ (n + 1) _ _ = _
  rw [fX7_sum_L4, pz_n0, pz_cl (by omega), H.1, if_pos (nI_le (Nat.le_refl _) (by omega))]
theorem pm_sum0 {σ : St} {d : HD} (hd : dOk d) (H : MH (σ 1) d) : fX7_sum σ (nI 0) = some (nI (opD d)) := by
  have h8 := hd.1
  refine pm_sum hd H 0 (fun p => if dop d p = true then 1 else 0) (fun n i x hi => ?_)
  rw [fX7_sum_L4, pz_n0, pz_cl (by omega), H.1, if_neg (nI_ge hi (by omega)), if_pos rfl, pz_n1, pm_p1 hd H hi, pz_bd]
  cases dop d i with
  | true => simp only [bI_t, pz_nm_, nI_add, if_true]
  | false => simp only [bI_f, pz_nm_, nI_add]; rfl
theorem pz_20 : ¬ nI 2 = nI 0 := by decide
theorem pz_21 : ¬ nI 2 = nI 1 := by decide
theorem pz_30 : ¬ nI 3 = nI 0 := by decide
theorem pz_31 : ¬ nI 3 = nI 1 := by decide
theorem pz_32 : ¬ nI 3 = nI 2 := by decide
theorem pz_40 : ¬ nI 4 = nI 0 := by decide
theorem pz_41 : ¬ nI 4 = nI 1 := by decide
theorem pz_42 : ¬ nI 4 = nI 2 := by decide
theorem pz_43 : ¬ nI 4 = nI 3 := by decide
theorem off_sum (d : HD) : ∀ n, sumTo (nptD d) n = offD d n := by
  intro n
  induction n with
  | zero => rfl
  | succ n ih =>
    show sumTo (nptD d) n + nptD d n = offD d n + nptD d n
    rw [ih]
theorem pm_sum1 {σ : St} {d : HD} (hd : dOk d) (H : MH (σ 1) d) : fX7_sum σ (nI 1) = some (nI (cntD d)) := by
  have h8 := hd.1
  unfold cntD
  rw [← off_sum]
  refine pm_sum hd H 1 (nptD d) (fun n i x hi => ?_)
  rw [fX7_sum_L4, pz_n0, pz_cl (by omega), H.1, if_neg (nI_ge hi (by omega)), if_neg pz_10, pz_n1, if_pos rfl, pm_points hd H hi, pz_bd]
  simp only [pz_nm_, nI_add]
theorem pm_sum2 {σ : St} {d : HD} (hd : dOk d) (H : MH (σ 1) d) : fX7_sum σ (nI 2) = some (nI (arD d)) := by
  have h8 := hd.1
  refine pm_sum hd H 2 (roomD d) (fun n i x hi => ?_)
  rw [fX7_sum_L4, pz_n0, pz_cl (by omega), H.1, if_neg (nI_ge hi (by omega)), if_neg pz_20, pz_n1, if_neg pz_21, pz_n2, if_pos rfl, pm_room hd H hi, pz_bd]
  simp only [pz_nm_, nI_add]
theorem pm_sum3 {σ : St} {d : HD} (hd : dOk d) (H : MH (σ 1) d) (hl : laidM σ d) : fX7_sum σ (nI 3) = some (nI (alD d)) := by
  have h8 := hd.1
  refine pm_sum hd H 3 (tkD d (dB d)) (fun n i x hi => ?_)
  rw [fX7_sum_L4, pz_n0, pz_cl (by omega), H.1, if_neg (nI_ge hi (by omega)), if_neg pz_30, pz_n1, if_neg pz_31, pz_n2, if_neg pz_32, pz_n3, if_pos rfl, pz_gd (by omega) (by omega), pz_cl (by omega), hl.2.2 i (by omega)]
  simp only [pz_nm_, nI_add]
theorem pm_sum4 {σ : St} {d : HD} (hd : dOk d) (H : MH (σ 1) d) (hr : ringM σ d) : fX7_sum σ (nI 4) = some (nI (nhD d)) := by
  have h8 := hd.1
  refine pm_sum hd H 4 (fun p => if hotD d p = true then 1 else 0) (fun n i x hi => ?_)
  rw [fX7_sum_L4, pz_n0, pz_cl (by omega), H.1, if_neg (nI_ge hi (by omega)), if_neg pz_40, pz_n1, if_neg pz_41, pz_n2, if_neg pz_42, pz_n3, if_neg pz_43, pm_isHot hd H hr hi, pz_bd]
  simp only [pz_nm_, nI_add]
  cases hotD d i with
  | true => rw [if_neg (show ¬ bI true = nI 0 from pz_10)]; rfl
  | false => rw [if_pos (show bI false = nI 0 from rfl)]; rfl
theorem pm_tons {σ : St} {d : HD} (hd : dOk d) (H : MH (σ 1) d) : fX7_tons σ = some (nI (atD d)) := by
  have h24 := hd.2.1
  unfold fX7_tons
  rw [pz_n0]
  refine sum_loop (F := fun m x i => fX7_tons_L4 σ (fun y1 => fX7_tons_B29 σ y1) m x i) (f := dto d) (K := fun y1 => fX7_tons_B29 σ y1) (by omega) (fun n => ?_) (fun n i hi => ?_)
  · show fX7_tons_L4 σ _ (n + 1) _ _ = _
    rw [fX7_tons_L4, pz_n1, pz_cl (by omega), H.2.1, if_pos (nI_le (Nat.le_refl _) (by omega))]
  · show fX7_tons_L4 σ _ (n + 1) _ _ = _
    rw [fX7_tons_L4, pz_n1, pz_cl (by omega), H.2.1, if_neg (nI_ge hi (by omega)), pm_b1 hd H hi, pz_bd]
    simp only [pz_nm_, nI_add]
theorem oM_lh {d : HD} (hd : dOk d) {b q : Nat} (hn : ¬ lieD d b = none) : oM (lieD d b) = oM (homeD d q) ↔ lieD d b = homeD d q := by
  have h8 := hd.1
  cases e : lieD d b with
  | none => exact absurd e hn
  | some p =>
    have h1 := lieD_lt e
    have h2 := oM_p hd (q := q) (p := p) (by omega)
    constructor
    · intro h
      exact (h2.mp h.symm).symm
    · intro h
      exact (h2.mpr h.symm).symm
theorem pm_lying {σ : St} {d : HD} (hd : dOk d) (H : MH (σ 1) d) (hl : laidM σ d) (w : Nat) (f : Nat → Nat) (hw : w ≤ 2) (hf : ∀ j, f j = if (if lieD d j = none then 2 else if lieD d j = homeD d (pbD d j) then 0 else 1) = w then 1 else 0) : fX7_lying σ (nI w) = some (nI (sumTo f (dB d))) := by
  have h24 := hd.2.1
  unfold fX7_lying
  rw [pz_n0]
  refine sum_loop (F := fun m x i => fX7_lying_L4 σ (nI w) (fun y2 => fX7_lying_B65 σ y2) m x i) (f := f) (K := fun y2 => fX7_lying_B65 σ y2) (by omega) (fun n => ?_) (fun n i hi => ?_)
  · show fX7_lying_L4 σ _ _ (n + 1) _ _ = _
    rw [fX7_lying_L4, pz_n1, pz_cl (by omega), H.2.1, if_pos (nI_le (Nat.le_refl _) (by omega))]
  · show fX7_lying_L4 σ _ _ (n + 1) _ _ = _
    rw [fX7_lying_L4, pz_n1, pz_cl (by omega), H.2.1, if_neg (nI_ge hi (by omega)), hf i]
    simp (disch := omega) only [pz_gd, pz_cl, pz_nm_, pz_n0, pz_n2, pz_neg, nI_add, (hl.2.1 i hi).1, pm_homeAt hd H hl.1 hi, pz_bd, oM_n hd, nI_eq]
    by_cases e : lieD d i = none
    · rw [if_pos e, if_pos e]
      by_cases e2 : 2 = w
      · rw [if_pos e2, if_pos e2]
      · rw [if_neg e2, if_neg e2]
    · rw [if_neg e, if_neg e]
      by_cases e3 : lieD d i = homeD d (pbD d i)
      · rw [if_pos ((oM_lh hd e).mpr e3), if_pos e3]
        by_cases e2 : 0 = w
        · rw [if_pos e2, if_pos e2]
        · rw [if_neg e2, if_neg e2]
      · rw [if_neg (fun h => e3 ((oM_lh hd e).mp h)), if_neg e3]
        by_cases e2 : 1 = w
        · rw [if_pos e2, if_pos e2]
        · rw [if_neg e2, if_neg e2]
theorem lie_all (d : HD) : ∀ n, ahD d n + elD d n + noD d n = n := by
  intro n
  induction n with
  | zero => rfl
  | succ n ih =>
    rw [ahD_s, elD_s]
    have : noD d (n + 1) = noD d n + (if lieD d n = none then 1 else 0) := rfl
    rw [this]
    by_cases e : lieD d n = none
    · simp [e]; omega
    · by_cases e2 : lieD d n = homeD d (pbD d n)
      · rw [if_pos ⟨e, e2⟩, if_neg (fun h => h.2 e2), if_neg e]; omega
      · rw [if_neg (fun h => e2 h.2), if_pos ⟨e, e2⟩, if_neg e]; omega
