/-! Pure rows: the class settles the barges. -/
theorem find_at {Q : Nat → Bool} : ∀ (l : List Nat) (s : Nat), (∀ t, t < s → Q (l.getD t 0) = false) → s < l.length → Q (l.getD s 0) = true → l.find? Q = some (l.getD s 0) ∧ l.findIdx Q = s := by
  intro l
  induction l with
  | nil => intro s _ h; exact absurd h (Nat.not_lt_zero _)
  | cons x l ih =>
    intro s h1 h2 h3
    cases s with
    | zero =>
      have h4 : Q x = true := h3
      rw [List.find?_cons_of_pos h4, List.findIdx_cons, h4]
      exact ⟨rfl, rfl⟩
    | succ s =>
      have h4 : Q x = false := h1 0 (by omega)
      obtain ⟨a, b⟩ := ih s (fun t ht => h1 (t + 1) (by omega)) (by simpa using h2) h3
      rw [List.find?_cons_of_neg (by simp [h4]), List.findIdx_cons, h4]
      exact ⟨a, by simp [b]⟩
theorem find_no {Q : Nat → Bool} : ∀ (l : List Nat), (∀ t, t < l.length → Q (l.getD t 0) = false) → l.find? Q = none ∧ l.findIdx Q = l.length := by
  intro l
  induction l with
  | nil => intro _; exact ⟨rfl, rfl⟩
  | cons x l ih =>
    intro h1
    have h4 : Q x = false := h1 0 (by simp)
    obtain ⟨a, b⟩ := ih (fun t ht => h1 (t + 1) (by simpa using ht))
    rw [List.find?_cons_of_neg (by simp [h4]), List.findIdx_cons, h4]
    exact ⟨a, by simp [b]⟩
theorem w_len {d : HD} (hd : dOk d) {q : Nat} (hq : q < 360) : (wl (cP d) 360 q).length = cntD d := by
  have h := congrArg List.length (rot_eq d hq)
  rw [List.length_map, List.length_append, List.length_drop, List.length_take, psD_len hd] at h
  have := rkD_mono d (a := q) (b := 360) (by omega)
  rw [rkD_360 hd] at this
  omega
theorem w_get {d : HD} (hd : dOk d) {q s : Nat} (hq : q < 360) (hs : s < cntD d) : (wl (cP d) 360 q).getD s 0 % 360 = paD d ((rkD d q + s) % cntD d) := by
  have hl := w_len hd hq
  have hr := rkD_mono d (a := q) (b := 360) (by omega)
  rw [rkD_360 hd] at hr
  have h1 : ((wl (cP d) 360 q).map (fun i => i % 360))[s]? = ((psD d).drop (rkD d q) ++ (psD d).take (rkD d q))[s]? := by rw [rot_eq d hq]
  rw [List.getElem?_map, List.getElem?_eq_getElem (by omega)] at h1
  rw [List.getD_eq_getElem?_getD, List.getElem?_eq_getElem (by omega)]
  show (wl (cP d) 360 q)[s] % 360 = _
  have h2 : some ((wl (cP d) 360 q)[s] % 360) = ((psD d).drop (rkD d q) ++ (psD d).take (rkD d q))[s]? := h1
  have hpl := psD_len hd
  unfold paD
  rw [List.getD_eq_getElem?_getD]
  by_cases h3 : rkD d q + s < cntD d
  · rw [Nat.mod_eq_of_lt h3]
    rw [List.getElem?_append_left (by rw [List.length_drop]; omega), List.getElem?_drop] at h2
    rw [← h2]
    rfl
  · have h4 : (rkD d q + s) % cntD d = s - (cntD d - rkD d q) := by
      rw [show rkD d q + s = (s - (cntD d - rkD d q)) + cntD d by omega, Nat.add_mod_right, Nat.mod_eq_of_lt (by omega)]
    rw [h4]
    rw [List.getElem?_append_right (by rw [List.length_drop]; omega), List.length_drop, hpl, List.getElem?_take_of_lt (by omega)] at h2
    rw [← h2]
    rfl
theorem pz_placeFrom {cx q : Nat} {σ : St} {d : HD} (hd : dOk d) (hq : q < 360) (hc : cirOk cx σ d) : ∃ st, fX0_placeFrom cx σ (nI q) = some (nI st) ∧ st ≤ 80 ∧ ∀ s, (st + s) % cntD d = (rkD d q + s) % cntD d := by
  have h80 := cntD_le hd
  have hr := rkD_mono d (a := q) (b := 360) (by omega)
  rw [rkD_360 hd] at hr
  obtain ⟨⟨c1, c2, c3, c4, c5, c6, c7, c8⟩, cp⟩ := hc
  unfold fX0_placeFrom
  rw [pz_n0]
  refine pz_loop (F := fun m (_ : Unit) s => fX0_placeFrom_L2 cx σ (nI q) (fX0_placeFrom_B33 cx σ) m (nI s)) (P := fun o => ∃ st, o = some (nI st) ∧ st ≤ 80 ∧ ∀ s, (st + s) % cntD d = (rkD d q + s) % cntD d) (fun s _ => s ≤ rkD d q) (cntD d) ?_ ?_ (cntD d) 0 () 1000 (by omega) (by omega) (Nat.zero_le _)
  · intro n _ h1
    refine ⟨0, ?_, by omega, fun s => ?_⟩
    · show fX0_placeFrom_L2 cx σ (nI q) _ (n + 1) (nI (cntD d)) = _
      rw [fX0_placeFrom_L2, c1, if_pos (nI_le (Nat.le_refl _) (by omega))]
      rfl
    · rw [show rkD d q = cntD d by omega, Nat.add_mod_left, Nat.zero_add]
  · intro n s _ hs h1
    have hp := paD_facts hd hs
    have hx := nix_facts hp.1 hp.2.1
    show (∃ st, fX0_placeFrom_L2 cx σ (nI q) _ (n + 1) (nI s) = some (nI st) ∧ _) ∨ ∃ b', _ ∧ fX0_placeFrom_L2 cx σ (nI q) _ (n + 1) (nI s) = fX0_placeFrom_L2 cx σ (nI q) _ n (nI (s + 1))
    rw [fX0_placeFrom_L2, c1, if_neg (nI_ge hs (by omega))]
    simp (disch := omega) only [pz_n1, pz_gd, pz_nm_, pz_cl, nI_add, cp s hs, c3 _ hx.1, hx.2]
    by_cases hlt : paD d s < q
    · right
      rw [if_pos (nI_lt hlt (by omega))]
      refine ⟨(), ?_, rfl⟩
      have h2 := rkD_s d (paD d s)
      rw [if_pos hp.2.1] at h2
      have h3 := rkD_mono d (a := paD d s + 1) (b := q) hlt
      omega
    · left
      rw [if_neg (nI_nlt (by omega) (by omega))]
      have h3 := rkD_mono d (a := q) (b := paD d s) (by omega)
      exact ⟨s, rfl, by omega, fun t => by rw [show s = rkD d q by omega]⟩
/-- what the class keeps of the barges -/
def hcD (d : HD) (i p : Nat) : Nat := sumTo (fun j => if homeD d (pbD d j) = some p then 1 else 0) i
def htD (d : HD) (i p : Nat) : Nat := sumTo (fun j => if homeD d (pbD d j) = some p then dto d j else 0) i
def lcD (d : HD) (i p : Nat) : Nat := sumTo (fun j => if lieD d j = some p then 1 else 0) i
def ahD (d : HD) (i : Nat) : Nat := sumTo (fun j => if lieD d j ≠ none ∧ lieD d j = homeD d (pbD d j) then 1 else 0) i
def elD (d : HD) (i : Nat) : Nat := sumTo (fun j => if lieD d j ≠ none ∧ lieD d j ≠ homeD d (pbD d j) then 1 else 0) i
theorem hcD_s (d : HD) (b p : Nat) : hcD d (b + 1) p = hcD d b p + (if homeD d (pbD d b) = some p then 1 else 0) := rfl
theorem htD_s (d : HD) (b p : Nat) : htD d (b + 1) p = htD d b p + (if homeD d (pbD d b) = some p then dto d b else 0) := rfl
theorem lcD_s (d : HD) (b p : Nat) : lcD d (b + 1) p = lcD d b p + (if lieD d b = some p then 1 else 0) := rfl
theorem ahD_s (d : HD) (b : Nat) : ahD d (b + 1) = ahD d b + (if lieD d b ≠ none ∧ lieD d b = homeD d (pbD d b) then 1 else 0) := rfl
theorem elD_s (d : HD) (b : Nat) : elD d (b + 1) = elD d b + (if lieD d b ≠ none ∧ lieD d b ≠ homeD d (pbD d b) then 1 else 0) := rfl
def moorX (σ : St) (d : HD) (n : Nat) : Prop :=
  (∀ j, j < n → σ 8 j = oX (homeD d (pbD d j)) ∧ σ 9 j = oX (lieD d j) ∧ σ 10 j = nI (pasD d j)) ∧
  (∀ p, p < 8 → σ 11 p = nI (hcD d n p) ∧ σ 12 p = nI (htD d n p) ∧ σ 13 p = nI (lcD d n p) ∧ σ 14 p = nI (tkD d n p)) ∧
  σ 7 7 = nI (ahD d n) ∧ σ 7 8 = nI (elD d n)
theorem moorX.congr {σ σ' : St} {d : HD} {n : Nat} (h : moorX σ d n) (hf : ∀ a, 7 ≤ a → a < 15 → σ' a = σ a) : moorX σ' d n := by
  unfold moorX at h ⊢
  rw [hf 7 (by omega) (by omega), hf 8 (by omega) (by omega), hf 9 (by omega) (by omega), hf 10 (by omega) (by omega), hf 11 (by omega) (by omega), hf 12 (by omega) (by omega), hf 13 (by omega) (by omega), hf 14 (by omega) (by omega)]
  exact h
theorem cirOk.congr {cx : Nat} {σ σ' : St} {d : HD} (h : cirOk cx σ d) (hf : ∀ a, 15 + 9 * cx ≤ a → a < 24 + 9 * cx → σ' a = σ a) : cirOk cx σ' d := by
  unfold cirOk cirX at h ⊢
  rw [hf (15 + 9 * cx) (by omega) (by omega), hf ((15 + 9 * cx) + 1) (by omega) (by omega), hf ((15 + 9 * cx) + 2) (by omega) (by omega), hf ((15 + 9 * cx) + 3) (by omega) (by omega), hf ((15 + 9 * cx) + 4) (by omega) (by omega), hf ((15 + 9 * cx) + 5) (by omega) (by omega), hf ((15 + 9 * cx) + 6) (by omega) (by omega), hf ((15 + 9 * cx) + 7) (by omega) (by omega), hf ((15 + 9 * cx) + 8) (by omega) (by omega)]
  exact h
theorem pz_findRoom {h cx b : Nat} {σ : St} {d : HD} (hd : dOk d) (hcx : cx < 2) (H : XH h σ d) (hc : cirOk cx σ d) (hb : b < dB d) (h14 : ∀ p, p < 8 → σ 14 p = nI (tkD d b p)) :
    ∃ σ', fX4_findRoom h cx σ (nI b) = some σ' ∧ σ' 9 = upd (σ 9) b (oX (lieD d b)) ∧ σ' 10 = upd (σ 10) b (nI (pasD d b)) ∧ ∀ a, a ≠ 9 → a ≠ 10 → σ' a = σ a := by
  have h80 := cntD_le hd
  have h8 := hd.1
  have h24 := hd.2.1
  have hpb := pbD_lt d b
  have hto := (hd.2.2.2.2 b hb).2.2
  unfold fX4_findRoom
  rw [pz_pointOf hd H hb, pz_bd]
  obtain ⟨st, e1, e2, e3⟩ := pz_placeFrom hd hpb hc
  rw [e1, pz_bd]
  obtain ⟨⟨c1, c2, c3, c4, c5, c6, c7, c8⟩, cp⟩ := hc
  simp (disch := omega) only [pz_n15, pz_neg, pz_gd, pz_nm_, pz_cl, pz_n0]
  rw [pz_su_n σ _ (by omega), c1]
  obtain ⟨σ1, f1⟩ : ∃ z, z = su (su σ 9 b (mI 15)) 10 b (nI (cntD d)) := ⟨_, rfl⟩
  rw [← f1]
  have fo : ∀ a, a ≠ 9 → a ≠ 10 → σ1 a = σ a := fun a h1 h2 => by rw [f1, pz_su_r _ _ h2, pz_su_r _ _ h1]
  have f9 : σ1 9 = upd (σ 9) b (mI 15) := by rw [f1, pz_su_r _ _ (by omega), pz_su_w]
  have f10 : σ1 10 = upd (σ 10) b (nI (cntD d)) := by rw [f1, pz_su_w, pz_su_r _ _ (by omega)]
  have hX : XH h σ1 d := H.congr (fun a a1 a2 => fo a (by omega) (by omega))
  have hwl := w_len hd hpb
  refine pz_loop (F := fun m (_ : Unit) s => fX4_findRoom_L32 h cx (nI b) (nI st) (fun σ => fX4_findRoom_B109 h cx σ) m σ1 (nI s)) (P := fun o => ∃ σ', o = some σ' ∧ σ' 9 = upd (σ 9) b (oX (lieD d b)) ∧ σ' 10 = upd (σ 10) b (nI (pasD d b)) ∧ ∀ a, a ≠ 9 → a ≠ 10 → σ' a = σ a) (fun s _ => ∀ t, t < s → fitD d (tkD d b) b ((wD d b).getD t 0) = false) (cntD d) ?_ ?_ (cntD d) 0 () 1000 (by omega) (by omega) (fun t h => absurd h (Nat.not_lt_zero _))
  · intro n _ h1
    show ∃ σ', fX4_findRoom_L32 h cx (nI b) (nI st) _ (n + 1) σ1 (nI (cntD d)) = some σ' ∧ _
    rw [fX4_findRoom_L32, fo _ (by omega) (by omega), c1, if_pos (nI_le (Nat.le_refl _) (by omega))]
    obtain ⟨a, b2⟩ := find_no (Q := fitD d (tkD d b) b) (wD d b) (by unfold wD at *; rw [hwl]; exact h1)
    have e5 : lieD d b = none := by unfold lieD lieW; rw [a]; rfl
    have e6 : pasD d b = cntD d := by unfold pasD; rw [b2]; exact hwl
    exact ⟨σ1, rfl, by rw [f9, e5]; rfl, by rw [f10, e6], fo⟩
  · intro n s _ hs h1
    show (∃ σ', fX4_findRoom_L32 h cx (nI b) (nI st) _ (n + 1) σ1 (nI s) = some σ' ∧ _) ∨ ∃ b', _ ∧ fX4_findRoom_L32 h cx (nI b) (nI st) _ (n + 1) σ1 (nI s) = fX4_findRoom_L32 h cx (nI b) (nI st) _ n σ1 (nI (s + 1))
    have hk : (st + s) % cntD d < cntD d := Nat.mod_lt _ (by omega)
    have hp := paD_facts hd hk
    have hx := nix_facts hp.1 hp.2.1
    have hwg := w_get hd hpb hs
    rw [← e3 s] at hwg
    have hp8 : paD d ((st + s) % cntD d) % 8 = (wD d b).getD s 0 % 8 := by
      unfold wD
      rw [← hwg]
      omega
    have hpP : paD d ((st + s) % cntD d) % 8 < dP d := (isD_iff.mp hp.2.1).1
    have hro := roomD_le hd hpP
    have htk := tkD_le hd (paD d ((st + s) % cntD d) % 8) b (by omega)
    have hfit : fitD d (tkD d b) b ((wD d b).getD s 0) = decide (tkD d b (paD d ((st + s) % cntD d) % 8) + dto d b ≤ roomD d (paD d ((st + s) % cntD d) % 8)) := by
      unfold fitD
      rw [hp8]
    have t14 : σ1 14 (paD d ((st + s) % cntD d) % 8) = nI (tkD d b (paD d ((st + s) % cntD d) % 8)) := by
      rw [fo _ (by omega) (by omega)]
      exact h14 _ (by omega)
    have tto : σ1 ((33 + 5 * h) + 4) b = nI (dto d b) := hX.2.2.2.2.2.2.2.1 b hb
    have r1 : σ1 ((15 + 9 * cx) + 1) ((st + s) % cntD d) = nI (nixD d (paD d ((st + s) % cntD d))) := by rw [fo _ (by omega) (by omega)]; exact cp _ hk
    have r3 : σ1 ((15 + 9 * cx) + 3) (nixD d (paD d ((st + s) % cntD d))) = nI (paD d ((st + s) % cntD d) % 8) := by rw [fo _ (by omega) (by omega), c4 _ hx.1, hx.2]
    rw [fX4_findRoom_L32, fo (15 + 9 * cx) (by omega) (by omega), c1, if_neg (nI_ge hs (by omega))]
    simp (disch := omega) only [pz_n1, pz_gd, pz_gz, pz_nm_, pz_cl, nI_add, pz_rem, r1, r3, pz_roomOf hd hX hpP, pz_bd, t14, tto]
    by_cases hf : tkD d b (paD d ((st + s) % cntD d) % 8) + dto d b ≤ roomD d (paD d ((st + s) % cntD d) % 8)
    · left
      rw [if_neg (nI_nlt hf (by omega))]
      obtain ⟨a, b2⟩ := find_at (Q := fitD d (tkD d b) b) (wD d b) s h1 (by unfold wD; rw [hwl]; exact hs) (by rw [hfit]; simpa using hf)
      have e5 : lieD d b = some (paD d ((st + s) % cntD d) % 8) := by unfold lieD lieW; rw [a, hp8]; rfl
      have e6 : pasD d b = s := b2
      refine ⟨_, rfl, ?_, ?_, fun a h1 h2 => by rw [pz_su_r _ _ h2, pz_su_r _ _ h1, fo a h1 h2]⟩
      · rw [pz_su_r _ _ (by omega), pz_su_w, f9, e5]
        funext j
        unfold upd
        split <;> rfl
      · rw [pz_su_w, pz_su_r _ _ (by omega), f10, e6]
        funext j
        unfold upd
        split <;> rfl
    · right
      rw [if_pos (nI_lt (by omega) (by omega))]
      refine ⟨(), fun t ht => ?_, rfl⟩
      by_cases e : t = s
      · rw [e, hfit]; simpa using hf
      · exact h1 t (by omega)
