/-! Pure rows: texts are read, in words of their own. -/
def sgT (t : Nat → Nat) (n pos : Nat) : Nat := if pos < n then t pos else 0
def mtL (t : Nat → Nat) (n : Nat) : List Nat → Nat → Nat
  | [], _ => 0
  | c :: cs, pos => if sgT t n pos = c then mtL t n cs (pos + 1) + 1 else 0
def wdT (w : Nat) : List Nat := [[112, 105, 101, 114, 32], [99, 108, 111, 115, 101, 32], [111, 112, 101, 110, 32], [119, 101, 105, 103, 104, 32], [98, 97, 114, 103, 101, 32], [103, 111, 110, 101, 32], [108, 111, 97, 100, 32], [98, 101, 114, 116, 104, 32]].getD w []
def stC (t : Nat → Nat) (n : Nat) (s : Nat ⊕ Nat) (c : Nat) : Nat ⊕ Nat := match s with
  | .inl f => .inl f
  | .inr p => if sgT t n p = c then .inr (p + 1) else .inl p
def stL (t : Nat → Nat) (n : Nat) (s : Nat ⊕ Nat) (cs : List Nat) : Nat ⊕ Nat := cs.foldl (stC t n) s
theorem stL_inl (t : Nat → Nat) (n f : Nat) : ∀ cs, stL t n (.inl f) cs = .inl f := by
  intro cs
  induction cs with
  | nil => rfl
  | cons c cs ih => exact ih
theorem stL_inr (t : Nat → Nat) (n : Nat) : ∀ cs p, stL t n (.inr p) cs = if mtL t n cs p = cs.length then .inr (p + cs.length) else .inl (p + mtL t n cs p) := by
  intro cs
  induction cs with
  | nil => intro p; rfl
  | cons c cs ih =>
    intro p
    show stL t n (if sgT t n p = c then .inr (p + 1) else .inl p) cs = if (if sgT t n p = c then mtL t n cs (p + 1) + 1 else 0) = cs.length + 1 then .inr (p + (cs.length + 1)) else .inl (p + (if sgT t n p = c then mtL t n cs (p + 1) + 1 else 0))
    by_cases e : sgT t n p = c
    · rw [if_pos e, if_pos e, ih]
      by_cases e2 : mtL t n cs (p + 1) = cs.length
      · rw [if_pos e2, if_pos (by omega), show p + 1 + cs.length = p + (cs.length + 1) by omega]
      · rw [if_neg e2, if_neg (by omega), show p + 1 + mtL t n cs (p + 1) = p + (mtL t n cs (p + 1) + 1) by omega]
    · rw [if_neg e, if_neg e, stL_inl, if_neg (by omega)]
      rfl
theorem stL_app (t : Nat → Nat) (n : Nat) (s : Nat ⊕ Nat) (a b : List Nat) : stL t n s (a ++ b) = stL t n (stL t n s a) b := List.foldl_append
theorem mtL_le (t : Nat → Nat) (n : Nat) : ∀ cs p, mtL t n cs p ≤ cs.length := by
  intro cs
  induction cs with
  | nil => intro p; exact Nat.le_refl _
  | cons c cs ih =>
    intro p
    have := ih (p + 1)
    show (if sgT t n p = c then mtL t n cs (p + 1) + 1 else 0) ≤ cs.length + 1
    split <;> omega
/-- the kind of an order, and where its first number begins -/
def fwT (t : Nat → Nat) (n pos k : Nat) (cs : List Nat) : Nat ⊕ (Nat × Nat) := match stL t n (.inr (pos + 1)) cs with
  | .inl f => .inl f
  | .inr p => .inr (k, p)
def kdT (t : Nat → Nat) (n pos : Nat) : Nat ⊕ (Nat × Nat) :=
  if sgT t n pos = 112 then fwT t n pos 0 [105, 101, 114, 32]
  else if sgT t n pos = 99 then fwT t n pos 1 [108, 111, 115, 101, 32]
  else if sgT t n pos = 111 then fwT t n pos 2 [112, 101, 110, 32]
  else if sgT t n pos = 119 then fwT t n pos 3 [101, 105, 103, 104, 32]
  else if sgT t n pos = 103 then fwT t n pos 5 [111, 110, 101, 32]
  else if sgT t n pos = 108 then fwT t n pos 6 [111, 97, 100, 32]
  else if sgT t n pos = 98 then (if sgT t n (pos + 1) = 101 then fwT t n pos 7 [101, 114, 116, 104, 32] else fwT t n pos 4 [97, 114, 103, 101, 32])
  else .inl pos
def lgT (t : Nat → Nat) (n pos : Nat) : Nat → Nat
  | 0 => 0
  | w + 1 => max (lgT t n pos w) (mtL t n (wdT w) pos)
theorem mt0 {t : Nat → Nat} {n pos c : Nat} {cs : List Nat} (h : sgT t n pos ≠ c) : mtL t n (c :: cs) pos = 0 := if_neg h
theorem mt1 {t : Nat → Nat} {n pos c : Nat} {cs : List Nat} (h : sgT t n pos = c) : mtL t n (c :: cs) pos = mtL t n cs (pos + 1) + 1 := if_pos h
theorem lg8 (t : Nat → Nat) (n pos : Nat) : lgT t n pos 8 = max (max (max (max (max (max (max (max 0 (mtL t n (wdT 0) pos)) (mtL t n (wdT 1) pos)) (mtL t n (wdT 2) pos)) (mtL t n (wdT 3) pos)) (mtL t n (wdT 4) pos)) (mtL t n (wdT 5) pos)) (mtL t n (wdT 6) pos)) (mtL t n (wdT 7) pos) := rfl
/-- what the longest beginning of a word says of it -/
theorem kd_one {t : Nat → Nat} {n pos k : Nat} {cs : List Nat} (hk : k < 8) (hw : mtL t n (wdT k) pos = mtL t n cs (pos + 1) + 1) (hl : (wdT k).length = cs.length + 1) (ho : ∀ w, w < 8 → w ≠ k → mtL t n (wdT w) pos ≤ 1 ∧ mtL t n (wdT w) pos < (wdT w).length) :
    (∀ w, w < 8 → mtL t n (wdT w) pos = (wdT w).length → fwT t n pos k cs = .inr (w, pos + (wdT w).length)) ∧ ((∀ w, w < 8 → mtL t n (wdT w) pos ≠ (wdT w).length) → fwT t n pos k cs = .inl (pos + lgT t n pos 8)) := by
  unfold fwT
  rw [stL_inr]
  constructor
  · intro w hw8 h
    by_cases e : w = k
    · subst e
      rw [if_pos (by omega), hl, show pos + 1 + cs.length = pos + (cs.length + 1) by omega]
    · have := (ho w hw8 e).2
      omega
  · intro h
    have h1 := h k hk
    have hle := mtL_le t n cs (pos + 1)
    have h2 : lgT t n pos 8 = mtL t n cs (pos + 1) + 1 := by
      have g : ∀ m, m ≤ 8 → lgT t n pos m ≤ mtL t n cs (pos + 1) + 1 ∧ (k < m → lgT t n pos m = mtL t n cs (pos + 1) + 1) := by
        intro m
        induction m with
        | zero => intro _; exact ⟨Nat.zero_le _, fun h => absurd h (Nat.not_lt_zero _)⟩
        | succ m ih =>
          intro hm
          obtain ⟨i1, i2⟩ := ih (by omega)
          show max (lgT t n pos m) (mtL t n (wdT m) pos) ≤ _ ∧ (_ → max (lgT t n pos m) (mtL t n (wdT m) pos) = _)
          by_cases e : m = k
          · subst e
            rw [hw]
            exact ⟨by omega, fun _ => by omega⟩
          · have h3 := (ho m (by omega) e).1
            refine ⟨by omega, fun h4 => ?_⟩
            have := i2 (by omega)
            omega
      exact (g 8 (Nat.le_refl _)).2 hk
    rw [if_neg (by omega), h2, show pos + 1 + mtL t n cs (pos + 1) = pos + (mtL t n cs (pos + 1) + 1) by omega]
theorem w8 {P : Nat → Prop} (h0 : P 0) (h1 : P 1) (h2 : P 2) (h3 : P 3) (h4 : P 4) (h5 : P 5) (h6 : P 6) (h7 : P 7) : ∀ w, w < 8 → P w := by
  intro w hw
  rcases (show w = 0 ∨ w = 1 ∨ w = 2 ∨ w = 3 ∨ w = 4 ∨ w = 5 ∨ w = 6 ∨ w = 7 by omega) with e | e | e | e | e | e | e | e <;> subst e <;> assumption
theorem mt_first {t : Nat → Nat} {n pos c : Nat} {cs : List Nat} (h : sgT t n pos ≠ c) (hl : 0 < cs.length) : mtL t n (c :: cs) pos ≤ 1 ∧ mtL t n (c :: cs) pos < (c :: cs).length := by
  rw [mt0 h]
  exact ⟨by omega, by simp⟩
theorem kd_ok (t : Nat → Nat) (n pos : Nat) : (∀ w, w < 8 → mtL t n (wdT w) pos = (wdT w).length → kdT t n pos = .inr (w, pos + (wdT w).length)) ∧ ((∀ w, w < 8 → mtL t n (wdT w) pos ≠ (wdT w).length) → kdT t n pos = .inl (pos + lgT t n pos 8)) := by
  unfold kdT
  by_cases c1 : sgT t n pos = 112
  · rw [if_pos c1]
    exact kd_one (k := 0) (by omega) (mt1 c1) rfl (w8 (fun h => absurd rfl h) (fun _ => mt_first (by omega) (by decide)) (fun _ => mt_first (by omega) (by decide)) (fun _ => mt_first (by omega) (by decide)) (fun _ => mt_first (by omega) (by decide)) (fun _ => mt_first (by omega) (by decide)) (fun _ => mt_first (by omega) (by decide)) (fun _ => mt_first (by omega) (by decide)))
  rw [if_neg c1]
  by_cases c2 : sgT t n pos = 99
  · rw [if_pos c2]
    exact kd_one (k := 1) (by omega) (mt1 c2) rfl (w8 (fun _ => mt_first (by omega) (by decide)) (fun h => absurd rfl h) (fun _ => mt_first (by omega) (by decide)) (fun _ => mt_first (by omega) (by decide)) (fun _ => mt_first (by omega) (by decide)) (fun _ => mt_first (by omega) (by decide)) (fun _ => mt_first (by omega) (by decide)) (fun _ => mt_first (by omega) (by decide)))
  rw [if_neg c2]
  by_cases c3 : sgT t n pos = 111
  · rw [if_pos c3]
    exact kd_one (k := 2) (by omega) (mt1 c3) rfl (w8 (fun _ => mt_first (by omega) (by decide)) (fun _ => mt_first (by omega) (by decide)) (fun h => absurd rfl h) (fun _ => mt_first (by omega) (by decide)) (fun _ => mt_first (by omega) (by decide)) (fun _ => mt_first (by omega) (by decide)) (fun _ => mt_first (by omega) (by decide)) (fun _ => mt_first (by omega) (by decide)))
  rw [if_neg c3]
  by_cases c4 : sgT t n pos = 119
  · rw [if_pos c4]
    exact kd_one (k := 3) (by omega) (mt1 c4) rfl (w8 (fun _ => mt_first (by omega) (by decide)) (fun _ => mt_first (by omega) (by decide)) (fun _ => mt_first (by omega) (by decide)) (fun h => absurd rfl h) (fun _ => mt_first (by omega) (by decide)) (fun _ => mt_first (by omega) (by decide)) (fun _ => mt_first (by omega) (by decide)) (fun _ => mt_first (by omega) (by decide)))
  rw [if_neg c4]
  by_cases c5 : sgT t n pos = 103
  · rw [if_pos c5]
    exact kd_one (k := 5) (by omega) (mt1 c5) rfl (w8 (fun _ => mt_first (by omega) (by decide)) (fun _ => mt_first (by omega) (by decide)) (fun _ => mt_first (by omega) (by decide)) (fun _ => mt_first (by omega) (by decide)) (fun _ => mt_first (by omega) (by decide)) (fun h => absurd rfl h) (fun _ => mt_first (by omega) (by decide)) (fun _ => mt_first (by omega) (by decide)))
  rw [if_neg c5]
  by_cases c6 : sgT t n pos = 108
  · rw [if_pos c6]
    exact kd_one (k := 6) (by omega) (mt1 c6) rfl (w8 (fun _ => mt_first (by omega) (by decide)) (fun _ => mt_first (by omega) (by decide)) (fun _ => mt_first (by omega) (by decide)) (fun _ => mt_first (by omega) (by decide)) (fun _ => mt_first (by omega) (by decide)) (fun _ => mt_first (by omega) (by decide)) (fun h => absurd rfl h) (fun _ => mt_first (by omega) (by decide)))
  rw [if_neg c6]
  by_cases c7 : sgT t n pos = 98
  · rw [if_pos c7]
    by_cases c8 : sgT t n (pos + 1) = 101
    · rw [if_pos c8]
      refine kd_one (k := 7) (by omega) (mt1 c7) rfl (w8 (fun _ => mt_first (by omega) (by decide)) (fun _ => mt_first (by omega) (by decide)) (fun _ => mt_first (by omega) (by decide)) (fun _ => mt_first (by omega) (by decide)) (fun _ => ?_) (fun _ => mt_first (by omega) (by decide)) (fun _ => mt_first (by omega) (by decide)) (fun h => absurd rfl h))
      have : mtL t n (wdT 4) pos = 1 := by
        show mtL t n (98 :: [97, 114, 103, 101, 32]) pos = 1
        rw [mt1 c7, mt0 (by omega)]
      rw [this]
      exact ⟨by omega, by decide⟩
    · rw [if_neg c8]
      refine kd_one (k := 4) (by omega) (mt1 c7) rfl (w8 (fun _ => mt_first (by omega) (by decide)) (fun _ => mt_first (by omega) (by decide)) (fun _ => mt_first (by omega) (by decide)) (fun _ => mt_first (by omega) (by decide)) (fun h => absurd rfl h) (fun _ => mt_first (by omega) (by decide)) (fun _ => mt_first (by omega) (by decide)) (fun _ => ?_))
      have : mtL t n (wdT 7) pos = 1 := by
        show mtL t n (98 :: [101, 114, 116, 104, 32]) pos = 1
        rw [mt1 c7, mt0 c8]
      rw [this]
      exact ⟨by omega, by decide⟩
  rw [if_neg c7]
  have hz : ∀ w, w < 8 → mtL t n (wdT w) pos = 0 ∧ 0 < (wdT w).length := w8 ⟨mt0 c1, by decide⟩ ⟨mt0 c2, by decide⟩ ⟨mt0 c3, by decide⟩ ⟨mt0 c4, by decide⟩ ⟨mt0 c7, by decide⟩ ⟨mt0 c5, by decide⟩ ⟨mt0 c6, by decide⟩ ⟨mt0 c7, by decide⟩
  refine ⟨fun w hw h => ?_, fun _ => ?_⟩
  · have := hz w hw
    omega
  · rw [lg8, (hz 0 (by omega)).1, (hz 1 (by omega)).1, (hz 2 (by omega)).1, (hz 3 (by omega)).1, (hz 4 (by omega)).1, (hz 5 (by omega)).1, (hz 6 (by omega)).1, (hz 7 (by omega)).1]
    rfl
/-! numbers -/
def dgT (t : Nat → Nat) (n p : Nat) : Bool := decide (48 ≤ sgT t n p) && decide (sgT t n p ≤ 57)
def ndT (t : Nat → Nat) (n : Nat) : Nat → Nat → Nat
  | 0, _ => 0
  | d + 1, p => if dgT t n p = true then ndT t n d (p + 1) + 1 else 0
def nvT (t : Nat → Nat) (n : Nat) : Nat → Nat → Nat → Nat
  | 0, _, a => a
  | d + 1, p, a => if dgT t n p = true then nvT t n d (p + 1) (10 * a + sgT t n p - 48) else a
theorem dgT_iff {t : Nat → Nat} {n p : Nat} : dgT t n p = true ↔ 48 ≤ sgT t n p ∧ sgT t n p ≤ 57 := by
  unfold dgT
  simp
theorem nvT_lt (t : Nat → Nat) (n : Nat) : ∀ d p a, nvT t n d p a < (a + 1) * 10 ^ d := by
  intro d
  induction d with
  | zero => intro p a; show a < (a + 1) * 1; omega
  | succ d ih =>
    intro p a
    show (if dgT t n p = true then nvT t n d (p + 1) (10 * a + sgT t n p - 48) else a) < (a + 1) * 10 ^ (d + 1)
    by_cases e : dgT t n p = true
    · rw [if_pos e]
      have h1 := ih (p + 1) (10 * a + sgT t n p - 48)
      have h2 := dgT_iff.mp e
      have h3 : (10 * a + sgT t n p - 48 + 1) * 10 ^ d ≤ (10 * (a + 1)) * 10 ^ d := Nat.mul_le_mul_right _ (by omega)
      have h4 : (10 * (a + 1)) * 10 ^ d = (a + 1) * 10 ^ (d + 1) := by
        rw [Nat.pow_succ, Nat.mul_comm 10, Nat.mul_assoc, Nat.mul_comm 10]
      omega
    · rw [if_neg e]
      have h5 : 0 < 10 ^ (d + 1) := Nat.pow_pos (by omega)
      calc a < (a + 1) * 1 := by omega
        _ ≤ (a + 1) * 10 ^ (d + 1) := Nat.mul_le_mul_left _ h5
theorem ndT_pos {t : Nat → Nat} {n d p : Nat} (hd : 0 < d) : ndT t n d p = 0 ↔ dgT t n p = false := by
  obtain ⟨d, rfl⟩ : ∃ z, d = z + 1 := ⟨d - 1, by omega⟩
  show (if dgT t n p = true then ndT t n d (p + 1) + 1 else 0) = 0 ↔ _
  cases dgT t n p with
  | true => simp
  | false => simp
def nuT (t : Nat → Nat) (n d p : Nat) : Nat ⊕ (Nat × Nat) := if ndT t n d p = 0 then .inl p else .inr (nvT t n d p 0, p + ndT t n d p)
def dFT (k : Nat) : Nat := [1, 1, 1, 1, 4, 2, 2, 3].getD k 0
def dST (k : Nat) : Nat := [0, 0, 0, 1, 2, 0, 2, 0].getD k 0
/-- an order from pos on: its kind, its numbers, where it ends -/
def orT (t : Nat → Nat) (n pos : Nat) : Nat ⊕ (Nat × Nat × Nat × Nat) := match kdT t n pos with
  | .inl f => .inl f
  | .inr (k, p) => match nuT t n (dFT k) p with
    | .inl f => .inl f
    | .inr (a, p2) => if dST k = 0 then .inr (k, a, 0, p2) else if sgT t n p2 = 32 then (match nuT t n (dST k) (p2 + 1) with
      | .inl f => .inl f
      | .inr (b, p3) => .inr (k, a, b, p3)) else .inl p2
def nxT (t : Nat → Nat) (n pos : Nat) : Nat ⊕ (Nat × Nat × Nat × Nat) := if pos = 0 then orT t n 0 else if sgT t n pos = 59 then orT t n (pos + 1) else .inl pos
def paT (t : Nat → Nat) (n : Nat) : Nat → Nat → Nat ⊕ List (Nat × Nat × Nat × Nat)
  | 0, pos => .inl pos
  | m + 1, pos => match nxT t n pos with
    | .inl f => .inl f
    | .inr (k, a, b, p) => if p = n then .inr [(k, a, b, p)] else match paT t n m p with
      | .inl f => .inl f
      | .inr l => .inr ((k, a, b, p) :: l)
theorem sg_lt {t : Nat → Nat} {n p c : Nat} (h : sgT t n p = c) (hc : c ≠ 0) : p < n := by
  unfold sgT at h
  by_cases e : p < n
  · exact e
  · rw [if_neg e] at h; exact absurd h.symm hc
theorem kdT_lt {t : Nat → Nat} {n pos k p : Nat} (h : kdT t n pos = .inr (k, p)) : k < 8 ∧ pos < p ∧ p ≤ n := by
  have key : ∀ k' cs, cs ≠ [] → (∀ c ∈ cs, c ≠ 0) → k' < 8 → fwT t n pos k' cs = .inr (k, p) → k < 8 ∧ pos < p ∧ p ≤ n := by
    intro k' cs hne hc hk h
    have g : ∀ cs q q', (∀ c ∈ cs, c ≠ 0) → cs ≠ [] → stL t n (.inr q) cs = .inr q' → q < q' ∧ q' ≤ n := by
      intro cs
      induction cs with
      | nil => intro q q' _ h1; exact absurd rfl h1
      | cons c cs ih =>
        intro q q' h0 _ h2
        have h3 : stL t n (if sgT t n q = c then .inr (q + 1) else .inl q) cs = .inr q' := h2
        by_cases e : sgT t n q = c
        · rw [if_pos e] at h3
          have h4 := sg_lt e (h0 c List.mem_cons_self)
          by_cases e2 : cs = []
          · subst e2
            have : q + 1 = q' := Sum.inr.inj h3
            omega
          · have := ih (q + 1) q' (fun c hc => h0 c (List.mem_cons_of_mem _ hc)) e2 h3
            omega
        · rw [if_neg e, stL_inl] at h3
          cases h3
    unfold fwT at h
    cases hs : stL t n (.inr (pos + 1)) cs with
    | inl f => rw [hs] at h; cases h
    | inr q =>
      rw [hs] at h
      have h1 : (k', q) = (k, p) := Sum.inr.inj h
      have h2 := g cs (pos + 1) q hc hne hs
      cases h1
      exact ⟨hk, by omega, by omega⟩
  unfold kdT at h
  split at h
  · exact key 0 _ (by decide) (by decide) (by omega) h
  split at h
  · exact key 1 _ (by decide) (by decide) (by omega) h
  split at h
  · exact key 2 _ (by decide) (by decide) (by omega) h
  split at h
  · exact key 3 _ (by decide) (by decide) (by omega) h
  split at h
  · exact key 5 _ (by decide) (by decide) (by omega) h
  split at h
  · exact key 6 _ (by decide) (by decide) (by omega) h
  split at h
  · split at h
    · exact key 7 _ (by decide) (by decide) (by omega) h
    · exact key 4 _ (by decide) (by decide) (by omega) h
  · cases h
theorem ndT_le {t : Nat → Nat} {n : Nat} : ∀ d p, p ≤ n → p + ndT t n d p ≤ n := by
  intro d
  induction d with
  | zero => intro p h; exact h
  | succ d ih =>
    intro p h
    show p + (if dgT t n p = true then ndT t n d (p + 1) + 1 else 0) ≤ n
    by_cases e : dgT t n p = true
    · rw [if_pos e]
      have h1 := dgT_iff.mp e
      have h2 := sg_lt (t := t) (n := n) (p := p) rfl (by omega)
      have := ih (p + 1) (by omega)
      omega
    · rw [if_neg e]; exact h
theorem nuT_lt {t : Nat → Nat} {n d p v q : Nat} (hp : p ≤ n) (h : nuT t n d p = .inr (v, q)) : p < q ∧ q ≤ n ∧ v < 10 ^ d := by
  unfold nuT at h
  split at h
  · cases h
  · have h1 : (nvT t n d p 0, p + ndT t n d p) = (v, q) := Sum.inr.inj h
    cases h1
    have h2 := ndT_le (t := t) d p hp
    have h3 := nvT_lt t n d p 0
    refine ⟨by omega, h2, ?_⟩
    rw [Nat.zero_add, Nat.one_mul] at h3
    exact h3
theorem dFT_b : ∀ k, k < 8 → 0 < dFT k ∧ dFT k ≤ 4 := by decide
theorem dST_b : ∀ k, k < 8 → dST k ≤ 2 := by decide
theorem orT_lt {t : Nat → Nat} {n pos k a b p : Nat} (h : orT t n pos = .inr (k, a, b, p)) : k < 8 ∧ pos < p ∧ p ≤ n ∧ a ≤ 9999 ∧ b ≤ 99 := by
  unfold orT at h
  cases hk : kdT t n pos with
  | inl f => rw [hk] at h; cases h
  | inr x =>
    obtain ⟨k', p1⟩ := x
    rw [hk] at h
    obtain ⟨g1, g2, g3⟩ := kdT_lt hk
    have g4 := dFT_b k' g1
    have g5 := dST_b k' g1
    have p4 : ∀ d, d ≤ 4 → 10 ^ d ≤ 10000 := fun d hd => Nat.pow_le_pow_right (n := 10) (j := 4) (by omega) hd
    have p2 : ∀ d, d ≤ 2 → 10 ^ d ≤ 100 := fun d hd => Nat.pow_le_pow_right (n := 10) (j := 2) (by omega) hd
    dsimp only at h
    cases hn : nuT t n (dFT k') p1 with
    | inl f => rw [hn] at h; cases h
    | inr y =>
      obtain ⟨a', p2'⟩ := y
      rw [hn] at h
      obtain ⟨n1, n2, n3⟩ := nuT_lt g3 hn
      have n4 := p4 _ g4.2
      dsimp only at h
      split at h
      · cases h
        exact ⟨g1, by omega, n2, by omega, by omega⟩
      · split at h
        · rename_i hs
          have hlt := sg_lt hs (by omega)
          cases hm : nuT t n (dST k') (p2' + 1) with
          | inl f => rw [hm] at h; cases h
          | inr z =>
            obtain ⟨b', p3⟩ := z
            rw [hm] at h
            obtain ⟨m1, m2, m3⟩ := nuT_lt (by omega) hm
            have m4 := p2 _ g5
            cases h
            exact ⟨g1, by omega, m2, by omega, by omega⟩
        · cases h
theorem nxT_lt {t : Nat → Nat} {n pos k a b p : Nat} (h : nxT t n pos = .inr (k, a, b, p)) : k < 8 ∧ pos < p ∧ p ≤ n ∧ a ≤ 9999 ∧ b ≤ 99 := by
  unfold nxT at h
  split at h
  · rename_i e
    have := orT_lt h
    exact ⟨this.1, by omega, this.2.2.1, this.2.2.2⟩
  · split at h
    · have := orT_lt h
      exact ⟨this.1, by omega, this.2.2.1, this.2.2.2⟩
    · cases h
