/-! Pure rows: neighbours, as sets of bits. -/
def bt8 (s0 s1 s2 s3 s4 s5 s6 s7 : Bool) : Int32 :=
  (if s0 then nI 1 else nI 0) ||| (if s1 then nI 2 else nI 0) ||| (if s2 then nI 4 else nI 0) ||| (if s3 then nI 8 else nI 0) ||| (if s4 then nI 16 else nI 0) ||| (if s5 then nI 32 else nI 0) ||| (if s6 then nI 64 else nI 0) ||| (if s7 then nI 128 else nI 0)
theorem bt8_or : ∀ (s0 s1 s2 s3 s4 s5 s6 s7 : Bool) (b : Fin 8), bt8 s0 s1 s2 s3 s4 s5 s6 s7 ||| (nI 1 <<< (nI b.val &&& 31)) = bt8 (s0 || 0 == b.val) (s1 || 1 == b.val) (s2 || 2 == b.val) (s3 || 3 == b.val) (s4 || 4 == b.val) (s5 || 5 == b.val) (s6 || 6 == b.val) (s7 || 7 == b.val) := by decide +kernel
theorem bt8_at : ∀ (s0 s1 s2 s3 s4 s5 s6 s7 : Bool) (b : Fin 8), ((bt8 s0 s1 s2 s3 s4 s5 s6 s7 >>> (nI b.val &&& 31)) &&& nI 1) = nI (if [s0, s1, s2, s3, s4, s5, s6, s7].getD b.val false = true then 1 else 0) := by decide +kernel
def btS (S : Nat → Bool) : Int32 := bt8 (S 0) (S 1) (S 2) (S 3) (S 4) (S 5) (S 6) (S 7)
theorem btS_or (S : Nat → Bool) {b : Nat} (hb : b < 8) : btS S ||| (nI 1 <<< (nI b &&& 31)) = btS (fun x => S x || x == b) := bt8_or _ _ _ _ _ _ _ _ ⟨b, hb⟩
theorem btS_at (S : Nat → Bool) {b : Nat} (hb : b < 8) (h : S b = true) : ((btS S >>> (nI b &&& 31)) &&& nI 1) = nI 1 := by
  have h1 := bt8_at (S 0) (S 1) (S 2) (S 3) (S 4) (S 5) (S 6) (S 7) ⟨b, hb⟩
  have h2 : [S 0, S 1, S 2, S 3, S 4, S 5, S 6, S 7].getD b false = S b := by
    rcases (show b = 0 ∨ b = 1 ∨ b = 2 ∨ b = 3 ∨ b = 4 ∨ b = 5 ∨ b = 6 ∨ b = 7 by omega) with e | e | e | e | e | e | e | e <;> subst e <;> rfl
  have h3 : [S 0, S 1, S 2, S 3, S 4, S 5, S 6, S 7].getD (⟨b, hb⟩ : Fin 8).val false = true := by
    show [S 0, S 1, S 2, S 3, S 4, S 5, S 6, S 7].getD b false = true
    rw [h2, h]
  rw [if_pos h3] at h1
  exact h1
theorem btS_congr {S T : Nat → Bool} (h : ∀ b, b < 8 → S b = T b) : btS S = btS T := by
  unfold btS
  rw [h 0 (by omega), h 1 (by omega), h 2 (by omega), h 3 (by omega), h 4 (by omega), h 5 (by omega), h 6 (by omega), h 7 (by omega)]
theorem btS_0 : btS (fun _ => false) = nI 0 := by decide
theorem pz_or0 (x : Int32) : x ||| nI 0 = x := by
  rw [← pz_n0]
  exact Int32.or_zero
/-! a pier closed -/
theorem isD_close (d : HD) (p q : Nat) : isD (dSetO d p false) q = (isD d q && !decide (q % 8 = p)) := by
  rw [Bool.eq_iff_iff, Bool.and_eq_true, isD_iff, isD_iff]
  have h1 : nptD (dSetO d p false) (q % 8) = if q % 8 = p then 0 else nptD d (q % 8) := by
    unfold nptD
    show (if (if q % 8 = p then false else dop d (q % 8)) = true then 2 * dbe d (q % 8) else 0) = _
    by_cases e : q % 8 = p
    · rw [if_pos e, if_pos e]; rfl
    · rw [if_neg e, if_neg e]
  rw [h1]
  show (q % 8 < dP d ∧ _) ↔ _
  by_cases e : q % 8 = p
  · rw [if_pos e]
    simp [e]
  · rw [if_neg e]
    simp [e]
theorem cP_close (d : HD) (p i : Nat) : cP (dSetO d p false) i = (cP d i && !decide (i % 8 = p)) := by
  unfold cP
  rw [isD_close, show i % 360 % 8 = i % 8 by omega]
theorem hf_close (d : HD) (p q : Nat) : hfD (dSetO d p false) q = (wl (cP d) 360 q).find? (fun i => !decide (i % 8 = p)) := by
  unfold hfD
  rw [← fh_find]
  exact fh_congr (fun j _ _ => cP_close d p j)
theorem fh_skip {P : Nat → Bool} {m : Nat} : ∀ c k, (∀ j, k ≤ j → j < k + c → P j = false) → fh P (c + m) k = fh P m (k + c) := by
  intro c
  induction c with
  | zero => intro k _; rw [Nat.zero_add]; rfl
  | succ c ih =>
    intro k h
    rw [show c + 1 + m = (c + m) + 1 by omega]
    show (if P k = true then some k else fh P (c + m) (k + 1)) = _
    rw [if_neg (by rw [h k (Nat.le_refl _) (by omega)]; decide), ih (k + 1) (fun j a b => h j (by omega) (by omega)), show k + 1 + c = k + (c + 1) by omega]
theorem fh_shift {P : Nat → Bool} (hp : ∀ i, P (i + 360) = P i) : ∀ m k, fh P m (k + 360) = (fh P m k).map (fun i => i + 360) := by
  intro m
  induction m with
  | zero => intro k; rfl
  | succ m ih =>
    intro k
    show (if P (k + 360) = true then some (k + 360) else fh P m (k + 360 + 1)) = ((if P k = true then some k else fh P m (k + 1)) : Option Nat).map _
    rw [hp, show k + 360 + 1 = k + 1 + 360 by omega, ih]
    by_cases h : P k = true
    · rw [if_pos h, if_pos h]; rfl
    · rw [if_neg h, if_neg h]
theorem home_mod (d : HD) (i : Nat) (h : i < 720) : homeD d (i % 360) = homeD d i := by
  by_cases e : i < 360
  · rw [Nat.mod_eq_of_lt e]
  · obtain ⟨k, rfl⟩ : ∃ k, i = k + 360 := ⟨i - 360, by omega⟩
    rw [show (k + 360) % 360 = k by omega]
    unfold homeD hfD
    rw [fh_shift (cP_per d)]
    cases fh (cP d) 360 k with
    | none => rfl
    | some x =>
      show some (x % 8) = some ((x + 360) % 8)
      rw [show (x + 360) % 8 = x % 8 by omega]
/-- with its home closed, a point has the home of that home's point -/
theorem home_skip {d : HD} {q i p : Nat} (h : hfD d q = some i) : homeD (dSetO d p false) q = homeD (dSetO d p false) i := by
  unfold hfD at h
  obtain ⟨h1, h2, h3, h4⟩ := fh_some.mp h
  unfold homeD
  rw [← hf_more (dSetO d p false) (q := q) (m := (i - q) + 360) (by omega), fh_skip (i - q) q (fun j a b => by rw [cP_close, h4 j a (by omega)]; rfl), show q + (i - q) = i by omega]
  rfl
theorem home_keep {d : HD} {q p p0 : Nat} (h : homeD d q = some p0) (hne : p0 ≠ p) : homeD (dSetO d p false) q = some p0 := by
  unfold homeD at h
  cases hf : hfD d q with
  | none => rw [hf] at h; cases h
  | some i =>
    rw [hf] at h
    have h0 : i % 8 = p0 := Option.some.inj h
    unfold hfD at hf
    obtain ⟨h1, h2, h3, h4⟩ := fh_some.mp hf
    have : hfD (dSetO d p false) q = some i := by
      unfold hfD
      rw [fh_some]
      refine ⟨h1, h2, ?_, fun j a b => by rw [cP_close, h4 j a b]; rfl⟩
      rw [cP_close, h3, h0]
      simp [hne]
    unfold homeD
    rw [this]
    exact h
theorem home_none {d : HD} {q p : Nat} (h : homeD d q = none) : homeD (dSetO d p false) q = none := by
  unfold homeD at h ⊢
  cases hf : hfD d q with
  | some i => rw [hf] at h; cases h
  | none =>
    have : hfD (dSetO d p false) q = none := by
      unfold hfD at hf ⊢
      rw [fh_none] at hf ⊢
      intro j a b
      rw [cP_close, hf j a b]
      rfl
    rw [this]
    rfl
/-! the set of neighbours -/
def nbX (d : HD) (p n : Nat) (b : Nat) : Bool := (List.range n).any (fun i => decide (paD d i % 8 = p) && decide (homeD (dSetO d p false) (paD d i) = some b))
def nbM (d : HD) (p n : Nat) (b : Nat) : Bool := (List.range n).any (fun q => decide (homeD d q = some p) && decide (homeD (dSetO d p false) q = some b))
theorem nbX_s (d : HD) (p n b : Nat) : nbX d p (n + 1) b = (nbX d p n b || (decide (paD d n % 8 = p) && decide (homeD (dSetO d p false) (paD d n) = some b))) := by
  unfold nbX
  rw [List.range_succ, List.any_append]
  simp
theorem nbM_s (d : HD) (p n b : Nat) : nbM d p (n + 1) b = (nbM d p n b || (decide (homeD d n = some p) && decide (homeD (dSetO d p false) n = some b))) := by
  unfold nbM
  rw [List.range_succ, List.any_append]
  simp
theorem hf_pt {d : HD} {q : Nat} (hq : q < 360) (h : isD d q = true) : hfD d q = some q := by
  unfold hfD
  rw [fh_some]
  exact ⟨Nat.le_refl _, by omega, by rw [cP_lt d hq]; exact h, fun j a b => by omega⟩
theorem nb_same {d : HD} (hd : dOk d) (p b : Nat) : nbX d p (cntD d) b = nbM d p 360 b := by
  rw [Bool.eq_iff_iff]
  unfold nbX nbM
  rw [List.any_eq_true, List.any_eq_true]
  constructor
  · rintro ⟨i, hi, h⟩
    rw [Bool.and_eq_true, decide_eq_true_eq, decide_eq_true_eq] at h
    have hp := paD_facts hd (List.mem_range.mp hi)
    refine ⟨paD d i, List.mem_range.mpr hp.1, ?_⟩
    rw [Bool.and_eq_true, decide_eq_true_eq, decide_eq_true_eq]
    refine ⟨?_, h.2⟩
    unfold homeD
    rw [hf_pt hp.1 hp.2.1]
    show some (paD d i % 8) = some p
    rw [h.1]
  · rintro ⟨q, hq, h⟩
    rw [Bool.and_eq_true, decide_eq_true_eq, decide_eq_true_eq] at h
    have hq2 := List.mem_range.mp hq
    cases hf : hfD d q with
    | none =>
      have := h.1
      unfold homeD at this
      rw [hf] at this
      cases this
    | some i =>
      have h1 := h.1
      unfold homeD at h1
      rw [hf] at h1
      have h2 : i % 8 = p := Option.some.inj h1
      have hf2 := hf
      unfold hfD at hf2
      obtain ⟨g1, g2, g3, g4⟩ := fh_some.mp hf2
      have hm : i % 360 < 360 := Nat.mod_lt _ (by omega)
      have hi : isD d (i % 360) = true := g3
      refine ⟨rkD d (i % 360), List.mem_range.mpr (rkD_lt hd hm hi), ?_⟩
      rw [paD_rk hm hi, Bool.and_eq_true, decide_eq_true_eq, decide_eq_true_eq]
      refine ⟨by omega, ?_⟩
      rw [home_mod _ i (by omega), ← home_skip hf]
      exact h.2
theorem pz_ownerBehind {cx p i : Nat} {σ : St} {d : HD} (hd : dOk d) (hc : cirOk cx σ d) (hp : p < dP d) (hi : i < cntD d) (hpi : paD d i % 8 = p) : fX0_ownerBehind cx σ (nI i) (nI p) = some (oM (homeD (dSetO d p false) (paD d i))) := by
  have h80 := cntD_le hd
  have h8 := hd.1
  obtain ⟨⟨c1, c2, c3, c4, c5, c6, c7, c8⟩, cp⟩ := hc
  have hpf := paD_facts hd hi
  have hwl := w_len hd hpf.1
  unfold fX0_ownerBehind homeD
  rw [hf_close, pz_n1]
  refine pz_loop (F := fun m (_ : Unit) s => fX0_ownerBehind_L2 cx σ (nI i) (nI p) (fX0_ownerBehind_B45 cx σ) m (nI (s + 1))) (P := fun o => o = some (oM (((wl (cP d) 360 (paD d i)).find? (fun i => !decide (i % 8 = p))).map (fun i => i % 8)))) (fun s _ => ∀ t, t < s + 1 → (fun i => !decide (i % 8 = p)) ((wl (cP d) 360 (paD d i)).getD t 0) = false) (cntD d - 1) ?_ ?_ (cntD d - 1) 0 () 1000 (by omega) (by omega) (fun t ht => ?_)
  · intro n _ h1
    show fX0_ownerBehind_L2 cx σ (nI i) (nI p) _ (n + 1) (nI (cntD d - 1 + 1)) = _
    rw [show cntD d - 1 + 1 = cntD d by omega] at h1 ⊢
    rw [fX0_ownerBehind_L2, c1, if_pos (nI_le (Nat.le_refl _) (by omega)), (find_no (wl (cP d) 360 (paD d i)) (by rw [hwl]; exact h1)).1]
    unfold fX0_ownerBehind_B45
    rw [pz_n1, pz_neg]
    rfl
  · intro n s _ hs h1
    show fX0_ownerBehind_L2 cx σ (nI i) (nI p) _ (n + 1) (nI (s + 1)) = _ ∨ ∃ b', _ ∧ fX0_ownerBehind_L2 cx σ (nI i) (nI p) _ (n + 1) (nI (s + 1)) = fX0_ownerBehind_L2 cx σ (nI i) (nI p) _ n (nI (s + 1 + 1))
    have hk : (i + (s + 1)) % cntD d < cntD d := Nat.mod_lt _ (by omega)
    have hq := paD_facts hd hk
    have hx := nix_facts hq.1 hq.2.1
    have hwg := w_get hd hpf.1 (s := s + 1) (by omega)
    rw [hpf.2.2] at hwg
    have hq8 : paD d ((i + (s + 1)) % cntD d) % 8 = (wl (cP d) 360 (paD d i)).getD (s + 1) 0 % 8 := by rw [← hwg]; omega
    have hqP : paD d ((i + (s + 1)) % cntD d) % 8 < dP d := (isD_iff.mp hq.2.1).1
    rw [fX0_ownerBehind_L2, c1, if_neg (nI_ge (by omega) (by omega))]
    simp (disch := omega) only [pz_gd, pz_gz, pz_cl, pz_nm_, pz_n1, nI_add, pz_rem, cp _ hk, c4 _ hx.1, hx.2, nI_eq]
    by_cases e : paD d ((i + (s + 1)) % cntD d) % 8 = p
    · right
      rw [if_pos e]
      refine ⟨(), fun t ht => ?_, rfl⟩
      by_cases e2 : t = s + 1
      · rw [e2]
        show (!decide ((wl (cP d) 360 (paD d i)).getD (s + 1) 0 % 8 = p)) = false
        rw [← hq8, e]
        simp
      · exact h1 t (by omega)
    · left
      rw [if_neg e]
      have hf := (find_at (Q := fun i => !decide (i % 8 = p)) (wl (cP d) 360 (paD d i)) (s + 1) h1 (by rw [hwl]; omega) (by
        show (!decide ((wl (cP d) 360 (paD d i)).getD (s + 1) 0 % 8 = p)) = true
        rw [← hq8]
        simp [e])).1
      rw [hf]
      show _ = some (nI ((wl (cP d) 360 (paD d i)).getD (s + 1) 0 % 8))
      rw [← hq8]
  · have : t = 0 := by omega
    subst this
    have hwg := w_get hd hpf.1 (s := 0) (by omega)
    rw [hpf.2.2, Nat.add_zero, Nat.mod_eq_of_lt hi] at hwg
    have : (wl (cP d) 360 (paD d i)).getD 0 0 % 8 = p := by
      have h9 : (wl (cP d) 360 (paD d i)).getD 0 0 % 360 % 8 = p := by
        rw [hwg]
        exact hpi
      omega
    show (!decide ((wl (cP d) 360 (paD d i)).getD 0 0 % 8 = p)) = false
    rw [this]
    simp
theorem pz_neighbours {cx p : Nat} {σ : St} {d : HD} (hd : dOk d) (hc : cirOk cx σ d) (hp : p < dP d) : fX0_neighboursOf cx σ (nI p) = some (btS (nbX d p (cntD d))) := by
  have h80 := cntD_le hd
  have h8 := hd.1
  have hc0 := hc
  obtain ⟨⟨c1, c2, c3, c4, c5, c6, c7, c8⟩, cp⟩ := hc
  unfold fX0_neighboursOf
  rw [pz_n0]
  have h0 : nI 0 = btS (nbX d p 0) := by
    rw [← btS_0]
    exact btS_congr (fun b _ => rfl)
  show fX0_neighboursOf_L4 cx σ (nI p) _ 1000 (nI 0) (nI 0) = _
  refine pz_loop (F := fun m (x : Int32) i => fX0_neighboursOf_L4 cx σ (nI p) (fun y2 => fX0_neighboursOf_B58 cx σ y2) m x (nI i)) (P := fun o => o = some (btS (nbX d p (cntD d)))) (fun i x => x = btS (nbX d p i)) (cntD d) ?_ ?_ (cntD d) 0 (nI 0) 1000 (by omega) (by omega) h0
  · intro n x h1
    show fX0_neighboursOf_L4 cx σ (nI p) _ (n + 1) x (nI (cntD d)) = _
    rw [fX0_neighboursOf_L4, c1, if_pos (nI_le (Nat.le_refl _) (by omega)), h1]
    rfl
  · intro n i x hi h1
    right
    show ∃ b', _ ∧ fX0_neighboursOf_L4 cx σ (nI p) _ (n + 1) x (nI i) = fX0_neighboursOf_L4 cx σ (nI p) _ n b' (nI (i + 1))
    have hq := paD_facts hd hi
    have hx := nix_facts hq.1 hq.2.1
    have hqP : paD d i % 8 < dP d := (isD_iff.mp hq.2.1).1
    rw [fX0_neighboursOf_L4, c1, if_neg (nI_ge hi (by omega))]
    simp (disch := omega) only [pz_gd, pz_cl, pz_nm_, pz_n1, pz_n0, pz_neg, nI_add, cp i hi, c4 _ hx.1, hx.2, nI_eq, pz_or0]
    by_cases e : paD d i % 8 = p
    · rw [if_pos e, pz_ownerBehind hd hc0 hp hi e, pz_bd]
      cases ho : homeD (dSetO d p false) (paD d i) with
      | none =>
        rw [if_pos (show oM none = mI 1 from rfl)]
        refine ⟨x, ?_, rfl⟩
        rw [h1]
        refine btS_congr (fun b _ => ?_)
        rw [nbX_s, ho]
        simp
      | some b0 =>
        have hb0 := (homeD_lt ho).1
        have hb8 : b0 < 8 := Nat.lt_of_lt_of_le hb0 h8
        rw [if_neg (show ¬ oM (some b0) = mI 1 from pz_nm (by omega) (by omega) (by omega))]
        refine ⟨_, ?_, rfl⟩
        show x ||| (nI 1 <<< (nI b0 &&& 31)) = _
        rw [h1, btS_or _ hb8]
        refine btS_congr (fun b _ => ?_)
        show (nbX d p i b || b == b0) = _
        rw [nbX_s, ho]
        congr 1
        rw [decide_eq_true e, Bool.true_and, Bool.eq_iff_iff, beq_iff_eq, decide_eq_true_eq]
        exact ⟨fun h => by rw [h], fun h => (Option.some.inj h).symm⟩
    · rw [if_neg e]
      refine ⟨x, ?_, rfl⟩
      rw [h1]
      refine btS_congr (fun b _ => ?_)
      rw [nbX_s]
      simp [e]
theorem nb_copy {σ : St} {K : St → Option (Int32 × St)} : ∃ σ', fX7_neighbours_L27 K 1000 σ (nI 0) = K σ' ∧ (∀ q, q < 360 → σ' 8 q = σ 3 q) ∧ ∀ a, a ≠ 8 → σ' a = σ a := by
  refine pz_loop (F := fun m τ i => fX7_neighbours_L27 K m τ (nI i)) (P := fun o => ∃ σ', o = K σ' ∧ (∀ q, q < 360 → σ' 8 q = σ 3 q) ∧ ∀ a, a ≠ 8 → σ' a = σ a) (fun i τ => (∀ q, q < i → τ 8 q = σ 3 q) ∧ ∀ a, a ≠ 8 → τ a = σ a) 360 ?_ ?_ 360 0 σ 1000 (by omega) (by omega) ⟨fun q h => absurd h (Nat.not_lt_zero _), fun _ _ => rfl⟩
  · intro n τ ⟨a1, a2⟩
    refine ⟨τ, ?_, a1, a2⟩
    show fX7_neighbours_L27 K (n + 1) τ (nI 360) = K τ
    rw [fX7_neighbours_L27, pz_n360, if_pos (nI_le (Nat.le_refl _) (by omega))]
  · intro n i τ hi ⟨a1, a2⟩
    right
    show ∃ b', _ ∧ fX7_neighbours_L27 K (n + 1) τ (nI i) = fX7_neighbours_L27 K n b' (nI (i + 1))
    rw [fX7_neighbours_L27, pz_n360, if_neg (nI_ge hi (by omega))]
    simp (disch := omega) only [pz_n1, pz_gd, pz_nm_, pz_cl, nI_add]
    refine ⟨_, ⟨fun q hq => ?_, fun a ha => by rw [pz_su_r _ _ ha]; exact a2 a ha⟩, rfl⟩
    rw [pz_su_w]
    by_cases e : q = i
    · subst e; rw [pk_us, a2 3 (by omega)]
    · rw [pk_un e]; exact a1 q (by omega)
theorem nb_loop {σ : St} {d : HD} {p : Nat} {K : St → Int32 → Option (Int32 × St)} (hd : dOk d) (hp : p < dP d) (h8 : ∀ q, q < 360 → σ 8 q = oM (homeD d q)) (h3 : ∀ q, q < 360 → σ 3 q = oM (homeD (dSetO d p false) q)) :
    fX7_neighbours_L86 (nI p) K 1000 σ (nI 0) (nI 0) = K σ (btS (nbM d p 360)) := by
  have hP := hd.1
  have h0 : nI 0 = btS (nbM d p 0) := by
    rw [← btS_0]
    exact btS_congr (fun b _ => rfl)
  refine pz_loop (F := fun m (x : Int32) i => fX7_neighbours_L86 (nI p) K m σ x (nI i)) (P := fun o => o = K σ (btS (nbM d p 360))) (fun i x => x = btS (nbM d p i)) 360 ?_ ?_ 360 0 (nI 0) 1000 (by omega) (by omega) h0
  · intro n x h1
    show fX7_neighbours_L86 (nI p) K (n + 1) σ x (nI 360) = _
    rw [fX7_neighbours_L86, pz_n360, if_pos (nI_le (Nat.le_refl _) (by omega)), h1]
  · intro n i x hi h1
    right
    show ∃ b', _ ∧ fX7_neighbours_L86 (nI p) K (n + 1) σ x (nI i) = fX7_neighbours_L86 (nI p) K n σ b' (nI (i + 1))
    rw [fX7_neighbours_L86, pz_n360, if_neg (nI_ge hi (by omega))]
    simp (disch := omega) only [pz_gd, pz_cl, pz_nm_, pz_n1, pz_n0, pz_neg, nI_add, h8 i hi, h3 i hi, oM_p hd, pz_or0]
    by_cases e : homeD d i = some p
    · rw [if_pos e]
      cases ho : homeD (dSetO d p false) i with
      | none =>
        rw [if_pos (show oM none = mI 1 from rfl)]
        refine ⟨x, ?_, rfl⟩
        rw [h1]
        refine btS_congr (fun b _ => ?_)
        rw [nbM_s, ho]
        simp
      | some b0 =>
        have hb0 := (homeD_lt ho).1
        have hb8 : b0 < 8 := Nat.lt_of_lt_of_le hb0 hP
        rw [if_neg (show ¬ oM (some b0) = mI 1 from pz_nm (by omega) (by omega) (by omega))]
        refine ⟨_, ?_, rfl⟩
        show x ||| (nI 1 <<< (nI b0 &&& 31)) = _
        rw [h1, btS_or _ hb8]
        refine btS_congr (fun b _ => ?_)
        show (nbM d p i b || b == b0) = _
        rw [nbM_s, ho]
        congr 1
        rw [decide_eq_true e, Bool.true_and, Bool.eq_iff_iff, beq_iff_eq, decide_eq_true_eq]
        exact ⟨fun h => by rw [h], fun h => (Option.some.inj h).symm⟩
    · rw [if_neg e]
      refine ⟨x, ?_, rfl⟩
      rw [h1]
      refine btS_congr (fun b _ => ?_)
      rw [nbM_s]
      simp [e]
theorem no_home_closed {d : HD} {p q : Nat} (h : dop d p = false) : ¬ homeD d q = some p := fun e => by
  have := (homeD_lt e).2
  rw [h] at this
  cases this
theorem sm_neighbours {σX σM : St} (hR : allR σX σM) (a : Int32) : ∃ r σM', fX6_neighbours σX a = some r ∧ fX7_neighbours σM a = some (r, σM') ∧ allR σX σM' := by
  have hR0 := hR
  obtain ⟨⟨d, ⟨hd, c2, c3, c4⟩, c5, c6⟩, -⟩ := hR
  have h8 := hd.1
  have h24 := hd.2.1
  have m0 : σM 1 0 = nI (dP d) := c3.1
  unfold fX6_neighbours fX7_neighbours
  simp only [pz_n0, pz_n11, pz_neg]
  rcases pz_ask a (n := dP d) (by omega) with ⟨h1, h2⟩ | ⟨p, hp, rfl⟩
  · rw [pz_hasPier0 (h := 0) c2.1 h1, pm_isPier0 m0 h2, pz_bd, pz_bd, if_pos rfl, if_pos rfl]
    exact ⟨_, _, rfl, rfl, hR0⟩
  rw [pz_hasPier1 (h := 0) c2.1 (by omega) hp, pm_isPier1 m0 (by omega) hp, pz_bd, pz_bd, if_neg pz_10, if_neg pz_10, pz_neighbours hd c5 hp, pz_bd, pm_isOpen hd c3 hp, pz_bd]
  cases hop : dop d p with
  | false =>
    rw [if_pos (show bI false = nI 0 from rfl)]
    have : btS (nbX d p (cntD d)) = nI 0 := by
      rw [← btS_0]
      refine btS_congr (fun b _ => ?_)
      rw [nb_same hd]
      unfold nbM
      rw [Bool.eq_false_iff]
      intro h
      rw [List.any_eq_true] at h
      obtain ⟨q, -, hq⟩ := h
      rw [Bool.and_eq_true, decide_eq_true_eq] at hq
      exact no_home_closed hop hq.1
    rw [this]
    exact ⟨_, _, rfl, rfl, hR0⟩
  | true =>
    rw [if_neg (show ¬ bI true = nI 0 from pz_10)]
    obtain ⟨s1, q1, q2, q3⟩ := laysRing_ok hd c3
    rw [q1, pz_bd]
    obtain ⟨s2, q4, q5, q6⟩ := nb_copy (σ := s1) (K := fun σ => fX7_neighbours_B52 σ (nI p))
    rw [q4]
    unfold fX7_neighbours_B52
    have e21 : s2 1 = σM 1 := by rw [q6 1 (by omega), q3 1 (by omega) (by omega)]
    simp (disch := omega) only [pz_n4, pz_n2, pz_n1, pz_n0, pk_mul, nI_add, pz_gd, pz_cl, pz_nm_]
    have hd' : dOk (dSetO d p false) := ⟨hd.1, hd.2.1, hd.2.2.1, hd.2.2.2.1, hd.2.2.2.2⟩
    have HM : MH ((su s2 1 (4 + 2 * p + 1) (nI 0)) 1) (dSetO d p false) := by
      rw [pz_su_w, e21]
      exact MH_setO c3 hd hp false
    obtain ⟨s3, q7, q8, q9⟩ := laysRing_ok hd' HM
    rw [q7, pz_bd]
    rw [nb_loop (σ := su s3 1 (4 + 2 * p + 1) (nI 1)) hd hp (fun q hq => by rw [pz_su_r _ _ (by omega), q9 8 (by omega) (by omega), pz_su_r _ _ (by omega), q5 q hq]; exact q2.2 q hq) (fun q hq => by rw [pz_su_r _ _ (by omega)]; exact q8.2 q hq)]
    have : btS (nbX d p (cntD d)) = btS (nbM d p 360) := btS_congr (fun b _ => nb_same hd p b)
    rw [this]
    refine ⟨_, _, rfl, rfl, hR0.scratch (fun _ _ => rfl) (fun j hj => ?_) ?_ ?_ (fun j _ _ _ _ => ?_)⟩
    · have e41 : s3 1 = upd (σM 1) (4 + 2 * p + 1) (nI 0) := by rw [q9 1 (by omega) (by omega), pz_su_w, e21]
      rw [pz_su_w, e41]
      by_cases e : j = 4 + 2 * p + 1
      · rw [e, pk_us]
        have := c3.2.2.2.2.2.1 p hp
        rw [hop] at this
        exact this.symm
      · rw [pk_un e, pk_un e]
    · rw [pz_su_r _ _ (by omega), q9 13 (by omega) (by omega), pz_su_r _ _ (by omega), q6 13 (by omega), q3 13 (by omega) (by omega)]
    · rw [pz_su_r _ _ (by omega), q9 15 (by omega) (by omega), pz_su_r _ _ (by omega), q6 15 (by omega), q3 15 (by omega) (by omega)]
    · rw [pz_su_r _ _ (by omega), q9 0 (by omega) (by omega), pz_su_r _ _ (by omega), q6 0 (by omega), q3 0 (by omega) (by omega)]
