/-! Pure rows: barges leave and are loaded anew, in both systems. -/
def dSetL (d : HD) (i t : Nat) : HD := (dP d, dB d, dT d, 0, dbe d, dop d, dna d, fun j => if j = i then t else dto d j)
theorem op_load {σX σM : St} {d : HD} (hc : coreR σX σM d) (hr : reasonR σX σM) (a w : Int32) : ∃ r σX' σM', fX6_setTons σX a w = some (r, σX') ∧ fX7_loads σM a w = some (r, σM') ∧ opR r σX σM σX' σM' d := by
  have hc0 := hc
  obtain ⟨⟨hd, c2, c3, c4⟩, c5, c6⟩ := hc
  have h8 := hd.1
  have h24 := hd.2.1
  have m1 : σM 1 1 = nI (dB d) := c3.2.1
  unfold fX6_setTons fX7_loads
  simp only [pz_n11, pz_n0, pz_n1, pz_n99, pz_n12, pz_neg]
  rcases pz_ask a (n := dB d) (by omega) with ⟨h1, h2⟩ | ⟨i, hi, rfl⟩
  · rw [pz_hasBarge0 (h := 0) c2.2.1 h1, pm_isBarge0 m1 h2, pz_bd, pz_bd, if_pos rfl, if_pos rfl]
    exact ⟨_, _, _, rfl, rfl, op_code 11 (by omega) (by omega) hc0 hr⟩
  have x37 : σX 37 i = nI (dto d i) := c2.2.2.2.2.2.2.2.1 i hi
  have hto := hd.2.2.2.2 i hi
  rw [pz_hasBarge1 (h := 0) c2.2.1 (by omega) hi, pm_isBarge1 m1 (by omega) hi, pz_bd, pz_bd, if_neg pz_10, if_neg pz_10]
  by_cases hbad : w < nI 1 ∨ (¬ w < nI 1 ∧ nI 99 < w)
  · rw [pm_in0 hbad, pz_bd, if_pos rfl]
    refine ⟨mI 12, σX, σM, ?_, rfl, op_code 12 (by omega) (by omega) hc0 hr⟩
    rcases hbad with h | ⟨h1, h2⟩
    · rw [if_pos h]
    · rw [if_neg h1, if_neg (pz_le_of h2)]
  obtain ⟨t, ht1, ht2, rfl⟩ : ∃ b, 1 ≤ b ∧ b ≤ 99 ∧ w = nI b := by
    rcases pz_rng w 1 99 (by omega) (by omega) with h | h | h
    · exact absurd (Or.inl h) hbad
    · exact absurd (Or.inr h) hbad
    · exact h
  rw [pm_in1 (by omega) (by omega) (by omega) ht1 ht2, pz_bd, if_neg pz_10, if_neg (nI_nlt ht1 (by omega)), if_pos (nI_le ht2 (by omega)), pm_b1 hd c3 hi, pz_bd]
  simp (disch := omega) only [pz_n2, pz_n3, pz_n20, pk_mul, nI_add, pz_gd, pz_nm_, pz_cl, x37, nI_eq]
  by_cases e : dto d i = t
  · rw [if_pos e, if_pos e]
    obtain ⟨σX', σM', e1, e2, e3⟩ := op_refuse hc0 (why := 3) (det := nI t) (by omega) (by omega)
    rw [e1, e2, pz_bd, pz_bd]
    exact ⟨_, _, _, rfl, rfl, e3⟩
  · rw [if_neg e, if_neg e]
    have hd' : dOk (dSetL d i t) := ⟨hd.1, hd.2.1, hd.2.2.1, hd.2.2.2.1, fun j hj => by
      show dna d j ≤ 9999 ∧ 1 ≤ (if j = i then t else dto d j) ∧ (if j = i then t else dto d j) ≤ 99
      have := hd.2.2.2.2 j hj
      by_cases e2 : j = i
      · rw [if_pos e2]; exact ⟨this.1, ht1, ht2⟩
      · rw [if_neg e2]; exact this⟩
    obtain ⟨k1, k2, k3, k4, k5, k6, k7, k8, k9⟩ := c2
    obtain ⟨l1, l2, l3, l4, l5, l6, l7, l8⟩ := c3
    obtain ⟨σX', z1, z2, z3, z4, z5⟩ := op_settle (τX := su σX 37 i (nI t)) (τM := su σM 1 (20 + 2 * i + 1) (nI t)) (d' := dSetL d i t) hc0 hr hd' ⟨rfl, rfl, rfl⟩
      ⟨by rw [pz_su_r _ _ (by omega)]; exact k1, by rw [pz_su_r _ _ (by omega)]; exact k2, by rw [pz_su_r _ _ (by omega)]; exact k3, trivial, fun q hq => by rw [pz_su_r _ _ (by omega)]; exact k5 q hq, fun q hq => by rw [pz_su_r _ _ (by omega)]; exact k6 q hq, fun j hj => by rw [pz_su_r _ _ (by omega)]; exact k7 j hj, fun j hj => by
          rw [pz_su_w]
          show _ = nI (if j = i then t else dto d j)
          by_cases e2 : j = i
          · rw [if_pos e2, e2, pk_us]
          · rw [if_neg e2, pk_un e2]; exact k8 j hj, fun q hq => by rw [pz_su_r _ _ (by omega)]; exact k9 q hq⟩
      (fun a ha => by rw [pz_su_r _ _ (by omega)]) (by rw [pz_su_r _ _ (by omega)])
      (by
        rw [pz_su_w]
        refine ⟨by rw [pk_un (by omega)]; exact l1, by rw [pk_un (by omega)]; exact l2, by rw [pk_un (by omega)]; exact l3, trivial, fun p hp => ?_, fun p hp => ?_, fun j hj => by rw [pk_un (by omega)]; exact l7 j hj, fun j hj => ?_⟩
        · have hp2 : p < dP d := hp
          rw [pk_un (by omega)]; exact l5 p hp
        · have hp2 : p < dP d := hp
          rw [pk_un (by omega)]; exact l6 p hp
        · show _ = nI (if j = i then t else dto d j)
          by_cases e2 : j = i
          · rw [if_pos e2, e2, pk_us]
          · rw [if_neg e2, pk_un (by omega)]; exact l8 j hj)
      (fun j hj => by rw [pz_su_n _ _ (by omega)]) (by rw [pz_su_n _ _ (by omega)]) (fun a ha => by rw [pz_su_r _ _ ha])
    rw [z1, pz_bd]
    exact ⟨_, _, _, rfl, rfl, z2, z3, z4, Or.inr ⟨dto d i, _, by omega, rfl, z5, by first | exact Nat.le_refl _ | exact Nat.le_succ _⟩⟩
def dRm (d : HD) (i : Nat) : HD := (dP d, dB d - 1, dT d, 0, dbe d, dop d, fun j => if j < i then dna d j else dna d (j + 1), fun j => if j < i then dto d j else dto d (j + 1))
theorem dRm_ok {d : HD} (hd : dOk d) {i : Nat} (hi : i < dB d) : dOk (dRm d i) := by
  obtain ⟨a1, a2, a3, a4, a5⟩ := hd
  refine ⟨a1, by show dB d - 1 ≤ 24; omega, a3, a4, fun j hj => ?_⟩
  have hj2 : j < dB d - 1 := hj
  show (if j < i then dna d j else dna d (j + 1)) ≤ 9999 ∧ 1 ≤ (if j < i then dto d j else dto d (j + 1)) ∧ (if j < i then dto d j else dto d (j + 1)) ≤ 99
  by_cases e : j < i
  · rw [if_pos e, if_pos e]; exact a5 j (by omega)
  · rw [if_neg e, if_neg e]; exact a5 (j + 1) (by omega)
theorem pz_okC {a b n m : Nat} (ha : a + n ≤ m) (hb : b + n ≤ m) (hm : m < 2 ^ 31) : okC (nI a) (nI b) (nI n) m m = true := by
  unfold okC
  rw [nI_clamp (by omega), nI_clamp (by omega), nI_clamp (by omega)]
  simp [nI_pos (n := a) (by omega), nI_pos (n := b) (by omega), nI_pos (n := n) (by omega), ha, hb]
theorem cpy_rm {f : Nat → Int32} {i n j : Nat} (hj : j < i + n) : va_cpy f f (i + 1) i n j = f (if j < i then j else j + 1) := by
  unfold va_cpy
  by_cases e : j < i
  · rw [if_neg (by omega), if_pos e]
  · rw [if_pos (by omega), if_neg e]
    congr 1
    omega
theorem rmBarge_ok {h i : Nat} {σ : St} {d : HD} (hd : dOk d) (H : XH h σ d) (hi : i < dB d) : ∃ σ', fX1_removeBarge h σ (nI i) = some σ' ∧ XH h σ' (dRm d i) ∧ (∀ a, a < 33 + 5 * h ∨ 38 + 5 * h ≤ a → σ' a = σ a) ∧ σ' (33 + 5 * h) 7 = σ (33 + 5 * h) 7 := by
  have h24 := hd.2.1
  have e5 := H.2.1
  unfold fX1_removeBarge
  rw [pz_hasBarge1 e5 (by omega) hi, pz_bd, pz_n0, if_neg pz_10]
  obtain ⟨k1, k2, k3, k4, k5, k6, k7, k8, k9⟩ := H
  have e3 : nI (dB d) - nI i - nI 1 = nI (dB d - i - 1) := by rw [pz_sub (by omega), pz_sub (by omega)]
  have eC : okC (nI (i + 1)) (nI i) (nI (dB d - i - 1)) 24 24 = true := pz_okC (by omega) (by omega) (by omega)
  simp (disch := omega) only [pz_nm_, k2, pz_n1, nI_add, e3, pz_gt eC, pz_cl]
  obtain ⟨τ, et⟩ : ∃ z, z = sr (sr σ ((33 + 5 * h) + 3) (va_cpy (σ ((33 + 5 * h) + 3)) (σ ((33 + 5 * h) + 3)) (i + 1) i (dB d - i - 1))) ((33 + 5 * h) + 4) (va_cpy (sr σ ((33 + 5 * h) + 3) (va_cpy (σ ((33 + 5 * h) + 3)) (σ ((33 + 5 * h) + 3)) (i + 1) i (dB d - i - 1)) ((33 + 5 * h) + 4)) (sr σ ((33 + 5 * h) + 3) (va_cpy (σ ((33 + 5 * h) + 3)) (σ ((33 + 5 * h) + 3)) (i + 1) i (dB d - i - 1)) ((33 + 5 * h) + 4)) (i + 1) i (dB d - i - 1)) := ⟨_, rfl⟩
  rw [← et]
  have t3 : τ ((33 + 5 * h) + 3) = va_cpy (σ ((33 + 5 * h) + 3)) (σ ((33 + 5 * h) + 3)) (i + 1) i (dB d - i - 1) := by rw [et, sr_ne _ _ (by omega), sr_self]
  have t4 : τ ((33 + 5 * h) + 4) = va_cpy (σ ((33 + 5 * h) + 4)) (σ ((33 + 5 * h) + 4)) (i + 1) i (dB d - i - 1) := by rw [et, sr_self, sr_ne _ _ (by omega)]
  have to : ∀ a, a ≠ (33 + 5 * h) + 3 → a ≠ (33 + 5 * h) + 4 → τ a = σ a := fun a h1 h2 => by rw [et, sr_ne _ _ h2, sr_ne _ _ h1]
  rw [to _ (by omega) (by omega), k2, pz_sub (by omega)]
  refine ⟨_, rfl, ⟨?_, pz_su_s _ _ _ _, ?_, trivial, fun p hp => ?_, fun p hp => ?_, fun j hj => ?_, fun j hj => ?_, fun p hp => ?_⟩, fun a ha => ?_, ?_⟩
  · rw [pz_su_n _ _ (by omega), to _ (by omega) (by omega)]; exact k1
  · rw [pz_su_n _ _ (by omega), to _ (by omega) (by omega)]; exact k3
  · rw [pz_su_r _ _ (by omega), to _ (by omega) (by omega)]; exact k5 p hp
  · rw [pz_su_r _ _ (by omega), to _ (by omega) (by omega)]; exact k6 p hp
  · have hj2 : j < dB d - 1 := hj
    rw [pz_su_r _ _ (by omega), t3, cpy_rm (by omega)]
    show _ = nI (if j < i then dna d j else dna d (j + 1))
    by_cases e : j < i
    · rw [if_pos e, if_pos e]; exact k7 j (by omega)
    · rw [if_neg e, if_neg e]; exact k7 (j + 1) (by omega)
  · have hj2 : j < dB d - 1 := hj
    rw [pz_su_r _ _ (by omega), t4, cpy_rm (by omega)]
    show _ = nI (if j < i then dto d j else dto d (j + 1))
    by_cases e : j < i
    · rw [if_pos e, if_pos e]; exact k8 j (by omega)
    · rw [if_neg e, if_neg e]; exact k8 (j + 1) (by omega)
  · rw [pz_su_r _ _ (by omega), to _ (by omega) (by omega)]; exact k9 p hp
  · rw [pz_su_r _ _ (by omega), to _ (by omega) (by omega)]
  · rw [pz_su_n _ _ (by omega), to _ (by omega) (by omega)]
theorem leaves_loop {i n : Nat} {σ : St} {K : St → Option (Int32 × St)} (hin : i ≤ n) (hn : n < 24) :
    ∃ σ', fX7_leaves_L32 (nI n) K 1000 σ (nI (2 * i)) = K σ' ∧ (∀ j, σ' 1 j = if 20 + 2 * i ≤ j ∧ j < 20 + 2 * n then σ 1 (j + 2) else σ 1 j) ∧ ∀ a, a ≠ 1 → σ' a = σ a := by
  refine pz_loop (F := fun m τ k => fX7_leaves_L32 (nI n) K m τ (nI (2 * i + k))) (P := fun o => ∃ σ', o = K σ' ∧ (∀ j, σ' 1 j = if 20 + 2 * i ≤ j ∧ j < 20 + 2 * n then σ 1 (j + 2) else σ 1 j) ∧ ∀ a, a ≠ 1 → σ' a = σ a) (fun k τ => (∀ j, τ 1 j = if 20 + 2 * i ≤ j ∧ j < 20 + 2 * i + k then σ 1 (j + 2) else σ 1 j) ∧ ∀ a, a ≠ 1 → τ a = σ a) (2 * n - 2 * i) ?_ ?_ (2 * n - 2 * i) 0 σ 1000 (by omega) (by omega) ⟨fun j => (if_neg (by omega)).symm, fun _ _ => rfl⟩
  · intro m τ ⟨h1, h2⟩
    refine ⟨τ, ?_, fun j => ?_, h2⟩
    · show fX7_leaves_L32 (nI n) K (m + 1) τ (nI (2 * i + (2 * n - 2 * i))) = K τ
      rw [fX7_leaves_L32, pz_n2, pk_mul, if_pos (nI_le (by omega) (by omega))]
    · rw [h1 j]
      by_cases e : 20 + 2 * i ≤ j ∧ j < 20 + 2 * n
      · rw [if_pos e, if_pos (by omega)]
      · rw [if_neg e, if_neg (by omega)]
  · intro m k τ hk ⟨h1, h2⟩
    right
    show ∃ b', _ ∧ fX7_leaves_L32 (nI n) K (m + 1) τ (nI (2 * i + k)) = fX7_leaves_L32 (nI n) K m b' (nI (2 * i + (k + 1)))
    rw [fX7_leaves_L32]
    simp (disch := omega) only [pz_n2, pz_n1, pz_n20, pk_mul, nI_add, nI_ge, if_false, pz_gd, pz_nm_, pz_cl]
    refine ⟨_, ⟨fun j => ?_, fun a ha => by rw [pz_su_r _ _ ha]; exact h2 a ha⟩, rfl⟩
    rw [pz_su_w]
    by_cases e : j = 20 + (2 * i + k)
    · subst e
      rw [pk_us, h1, if_neg (by omega), if_pos (by omega)]
    · rw [pk_un e, h1]
      by_cases e2 : 20 + 2 * i ≤ j ∧ j < 20 + 2 * i + k
      · rw [if_pos e2, if_pos (by omega)]
      · rw [if_neg e2, if_neg (by omega)]
theorem op_go {σX σM : St} {d : HD} (hc : coreR σX σM d) (hr : reasonR σX σM) (a : Int32) : ∃ r σX' σM', fX6_letGo σX a = some (r, σX') ∧ fX7_leaves σM a = some (r, σM') ∧ opR r σX σM σX' σM' d := by
  have hc0 := hc
  obtain ⟨⟨hd, c2, c3, c4⟩, c5, c6⟩ := hc
  have h8 := hd.1
  have h24 := hd.2.1
  have m1 : σM 1 1 = nI (dB d) := c3.2.1
  unfold fX6_letGo fX7_leaves
  simp only [pz_n11, pz_n0, pz_neg]
  rcases pz_ask a (n := dB d) (by omega) with ⟨h1, h2⟩ | ⟨i, hi, rfl⟩
  · rw [pz_hasBarge0 (h := 0) c2.2.1 h1, pm_isBarge0 m1 h2, pz_bd, pz_bd, if_pos rfl, if_pos rfl]
    exact ⟨_, _, _, rfl, rfl, op_code 11 (by omega) (by omega) hc0 hr⟩
  rw [pz_hasBarge1 (h := 0) c2.2.1 (by omega) hi, pm_isBarge1 m1 (by omega) hi, pz_bd, pz_bd, if_neg pz_10, if_neg pz_10]
  obtain ⟨τX, x1, x2, x3, x4⟩ := rmBarge_ok (h := 0) hd c2 hi
  rw [x1, pz_bd]
  simp (disch := omega) only [pz_n1, pz_n2, pk_mul, pz_nm_, pz_cl, m1, pz_sub, pz_su_s]
  obtain ⟨τ0, e0⟩ : ∃ z, z = su σM 1 1 (nI (dB d - 1)) := ⟨_, rfl⟩
  rw [← e0]
  obtain ⟨τ1, y1, y2, y3⟩ := leaves_loop (i := i) (n := dB d - 1) (σ := τ0) (K := fun σ => fX7_leaves_B65 σ (nI (dB d - 1))) (by omega) (by omega)
  rw [y1]
  unfold fX7_leaves_B65
  simp (disch := omega) only [pz_n1, pz_n2, pz_n20, pz_n0, pk_mul, nI_add, pz_gd, pz_nm_, pz_cl]
  obtain ⟨τM, e2⟩ : ∃ z, z = su (su τ1 1 (20 + 2 * (dB d - 1)) (nI 0)) 1 (20 + 2 * (dB d - 1) + 1) (nI 0) := ⟨_, rfl⟩
  rw [← e2]
  have r0 : ∀ j, j ≠ 1 → τ0 1 j = σM 1 j := fun j hj => by rw [e0, pz_su_n _ _ (by omega)]
  have rM : ∀ j, j < 20 + 2 * (dB d - 1) ∨ 20 + 2 * (dB d - 1) + 2 ≤ j → τM 1 j = τ1 1 j := fun j hj => by rw [e2, pz_su_n _ _ (by omega), pz_su_n _ _ (by omega)]
  have rk : ∀ j, j < 20 + 2 * i ∨ 68 ≤ j → j ≠ 1 → τM 1 j = σM 1 j := fun j hj h1 => by rw [rM j (by omega), y2 j, if_neg (by omega), r0 j h1]
  have HM : MH (τM 1) (dRm d i) := by
    obtain ⟨k1, k2, k3, k4, k5, k6, k7, k8⟩ := c3
    refine ⟨by rw [rk 0 (by omega) (by omega)]; exact k1, ?_, by rw [rk 2 (by omega) (by omega)]; exact k3, trivial, fun p hp => ?_, fun p hp => ?_, fun j hj => ?_, fun j hj => ?_⟩
    · rw [rM 1 (by omega), y2 1, if_neg (by omega), e0, pz_su_s]; rfl
    · have hp2 : p < dP d := hp
      rw [rk _ (by omega) (by omega)]; exact k5 p hp
    · have hp2 : p < dP d := hp
      rw [rk _ (by omega) (by omega)]; exact k6 p hp
    · have hj2 : j < dB d - 1 := hj
      rw [rM _ (by omega), y2]
      show _ = nI (if j < i then dna d j else dna d (j + 1))
      by_cases e : j < i
      · rw [if_neg (by omega), if_pos e, r0 _ (by omega)]; exact k7 j (by omega)
      · rw [if_pos (by omega), if_neg e, r0 _ (by omega)]; exact k7 (j + 1) (by omega)
    · have hj2 : j < dB d - 1 := hj
      rw [rM _ (by omega), y2]
      show _ = nI (if j < i then dto d j else dto d (j + 1))
      by_cases e : j < i
      · rw [if_neg (by omega), if_pos e, r0 _ (by omega)]; exact k8 j (by omega)
      · rw [if_pos (by omega), if_neg e, r0 _ (by omega)]; exact k8 (j + 1) (by omega)
  obtain ⟨σX', z1, z2, z3, z4, z5⟩ := op_settle (τX := τX) (τM := τM) (d' := dRm d i) hc0 hr (dRm_ok hd hi) ⟨rfl, rfl, rfl⟩ x2 (fun a ha => x3 a (by omega)) x4 HM (fun j hj => rk j (by omega) (by omega)) (rk 3 (by omega) (by omega)) (fun a ha => by rw [e2, pz_su_r _ _ ha, pz_su_r _ _ ha, y3 a ha, e0, pz_su_r _ _ ha])
  rw [z1, pz_bd]
  have e7 : σX' 33 5 = nI (dB d - 1) := z5.1.2.1.2.1
  rw [e7]
  exact ⟨_, _, _, rfl, rfl, z2, z3, z4, Or.inr ⟨dB d - 1, _, by omega, rfl, z5, by first | exact Nat.le_refl _ | exact Nat.le_succ _⟩⟩
