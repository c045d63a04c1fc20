/-! Pure rows: the first hit, all hits, places on the ring, homes. -/
def fh (P : Nat → Bool) : Nat → Nat → Option Nat
  | 0, _ => none
  | m + 1, k => if P k = true then some k else fh P m (k + 1)
def wl (P : Nat → Bool) : Nat → Nat → List Nat
  | 0, _ => []
  | m + 1, k => if P k = true then k :: wl P m (k + 1) else wl P m (k + 1)
theorem fh_none {P : Nat → Bool} : ∀ {m k : Nat}, fh P m k = none ↔ ∀ j, k ≤ j → j < k + m → P j = false := by
  intro m
  induction m with
  | zero => intro k; exact ⟨fun _ j a b => by omega, fun _ => rfl⟩
  | succ m ih =>
    intro k
    unfold fh
    by_cases h : P k = true
    · rw [if_pos h]
      exact ⟨fun q => (by cases q), fun q => (by have := q k (Nat.le_refl _) (by omega); rw [h] at this; cases this)⟩
    · rw [if_neg h, ih]
      constructor
      · intro q j a b
        by_cases e : j = k
        · subst e; simpa using h
        · exact q j (by omega) (by omega)
      · intro q j a b
        exact q j (by omega) (by omega)
theorem fh_some {P : Nat → Bool} : ∀ {m k i : Nat}, fh P m k = some i ↔ k ≤ i ∧ i < k + m ∧ P i = true ∧ ∀ j, k ≤ j → j < i → P j = false := by
  intro m
  induction m with
  | zero => intro k i; exact ⟨fun h => (by cases h), fun h => by omega⟩
  | succ m ih =>
    intro k i
    unfold fh
    by_cases h : P k = true
    · rw [if_pos h]
      constructor
      · intro q
        cases q
        exact ⟨Nat.le_refl _, by omega, h, fun j a b => by omega⟩
      · intro ⟨a, b, c, d⟩
        by_cases e : i = k
        · rw [e]
        · have := d k (Nat.le_refl _) (by omega)
          rw [h] at this
          cases this
    · rw [if_neg h, ih]
      constructor
      · intro ⟨a, b, c, d⟩
        refine ⟨by omega, by omega, c, fun j x y => ?_⟩
        by_cases e : j = k
        · subst e; simpa using h
        · exact d j (by omega) y
      · intro ⟨a, b, c, d⟩
        have : i ≠ k := fun e => h (by rw [← e]; exact c)
        exact ⟨by omega, by omega, c, fun j x y => d j (by omega) y⟩
theorem fh_congr {P Q : Nat → Bool} : ∀ {m k : Nat}, (∀ j, k ≤ j → j < k + m → P j = Q j) → fh P m k = fh Q m k := by
  intro m
  induction m with
  | zero => intro k _; rfl
  | succ m ih =>
    intro k h
    unfold fh
    rw [h k (Nat.le_refl _) (by omega), ih (fun j a b => h j (by omega) (by omega))]
theorem wl_congr {P Q : Nat → Bool} : ∀ {m k : Nat}, (∀ j, k ≤ j → j < k + m → P j = Q j) → wl P m k = wl Q m k := by
  intro m
  induction m with
  | zero => intro k _; rfl
  | succ m ih =>
    intro k h
    unfold wl
    rw [h k (Nat.le_refl _) (by omega), ih (fun j a b => h j (by omega) (by omega))]
theorem fh_head (P : Nat → Bool) : ∀ m k, fh P m k = (wl P m k).head? := by
  intro m
  induction m with
  | zero => intro k; rfl
  | succ m ih =>
    intro k
    unfold fh wl
    split
    · rfl
    · exact ih _
theorem fh_find (P Q : Nat → Bool) : ∀ m k, fh (fun i => P i && Q i) m k = (wl P m k).find? Q := by
  intro m
  induction m with
  | zero => intro k; rfl
  | succ m ih =>
    intro k
    unfold fh wl
    by_cases h : P k = true
    · by_cases hq : Q k = true
      · simp [h, hq]
      · simp [h, hq, ih]
    · simp [h, ih]
theorem wl_s (P : Nat → Bool) (m k : Nat) : wl P (m + 1) k = if P k = true then k :: wl P m (k + 1) else wl P m (k + 1) := rfl
theorem wl_append (P : Nat → Bool) : ∀ a b k, wl P (a + b) k = wl P a k ++ wl P b (k + a) := by
  intro a
  induction a with
  | zero => intro b k; rw [Nat.zero_add]; rfl
  | succ a ih =>
    intro b k
    rw [show a + 1 + b = (a + b) + 1 by omega, wl_s, wl_s, ih, show k + 1 + a = k + (a + 1) by omega]
    split
    · rw [List.cons_append]
    · rfl
theorem wl_mem {P : Nat → Bool} : ∀ {m k x : Nat}, x ∈ wl P m k ↔ k ≤ x ∧ x < k + m ∧ P x = true := by
  intro m
  induction m with
  | zero => intro k x; exact ⟨fun h => (by cases h), fun h => by omega⟩
  | succ m ih =>
    intro k x
    unfold wl
    by_cases h : P k = true
    · rw [if_pos h, List.mem_cons, ih]
      constructor
      · rintro (e | ⟨a, b, c⟩)
        · subst e; exact ⟨Nat.le_refl _, by omega, h⟩
        · exact ⟨by omega, by omega, c⟩
      · intro ⟨a, b, c⟩
        by_cases e : x = k
        · exact Or.inl e
        · exact Or.inr ⟨by omega, by omega, c⟩
    · rw [if_neg h, ih]
      constructor
      · intro ⟨a, b, c⟩
        exact ⟨by omega, by omega, c⟩
      · intro ⟨a, b, c⟩
        have : x ≠ k := fun e => h (by rw [← e]; exact c)
        exact ⟨by omega, by omega, c⟩
theorem wl_map {P Q : Nat → Bool} {f : Nat → Nat} : ∀ {m k k' : Nat}, (∀ i, i < m → P (k + i) = Q (k' + i) ∧ f (k + i) = k' + i) → (wl P m k).map f = wl Q m k' := by
  intro m
  induction m with
  | zero => intro k k' _; rfl
  | succ m ih =>
    intro k k' h
    have h0 := h 0 (by omega)
    have h1 := ih (k := k + 1) (k' := k' + 1) (fun i hi => by
      have := h (i + 1) (by omega)
      rw [show k + 1 + i = k + (i + 1) by omega, show k' + 1 + i = k' + (i + 1) by omega]
      exact this)
    simp only [Nat.add_zero] at h0
    unfold wl
    rw [h0.1]
    split
    · rw [List.map_cons, h1, h0.2]
    · exact h1
theorem wl_range (P : Nat → Bool) : ∀ m, wl P m 0 = (List.range m).filter P := by
  intro m
  induction m with
  | zero => rfl
  | succ m ih =>
    rw [wl_append, List.range_succ, List.filter_append, ih]
    congr 1
    show wl P 1 (0 + m) = _
    rw [Nat.zero_add]
    unfold wl wl
    by_cases h : P m = true <;> simp [h]
/-- the points of piers by their places -/
def psD (d : HD) : List Nat := wl (isD d) 360 0
def rkD (d : HD) (q : Nat) : Nat := (wl (isD d) q 0).length
def paD (d : HD) (i : Nat) : Nat := (psD d).getD i 0
theorem psD_len {d : HD} (hd : dOk d) : (psD d).length = cntD d := by
  unfold psD
  rw [wl_range]
  exact ps_all hd
theorem rkD_0 (d : HD) : rkD d 0 = 0 := rfl
theorem rkD_s (d : HD) (q : Nat) : rkD d (q + 1) = rkD d q + if isD d q = true then 1 else 0 := by
  unfold rkD
  rw [wl_append, List.length_append, Nat.zero_add]
  congr 1
  unfold wl wl
  split <;> rfl
theorem rkD_mono (d : HD) {a b : Nat} (h : a ≤ b) : rkD d a ≤ rkD d b := by
  induction b with
  | zero => rw [Nat.le_zero.mp h]; exact Nat.le_refl _
  | succ b ih =>
    by_cases hb : a = b + 1
    · subst hb; exact Nat.le_refl _
    · have := ih (by omega)
      rw [rkD_s]
      omega
theorem rkD_360 {d : HD} (hd : dOk d) : rkD d 360 = cntD d := psD_len hd
theorem psD_split (d : HD) {q : Nat} (hq : q ≤ 360) : psD d = wl (isD d) q 0 ++ wl (isD d) (360 - q) q := by
  have h := wl_append (isD d) q (360 - q) 0
  rw [show q + (360 - q) = 360 by omega, Nat.zero_add] at h
  exact h
theorem paD_rk {d : HD} {q : Nat} (hq : q < 360) (h : isD d q = true) : paD d (rkD d q) = q := by
  unfold paD rkD
  rw [psD_split d (q := q) (by omega), List.getD_eq_getElem?_getD, List.getElem?_append_right (Nat.le_refl _), Nat.sub_self]
  rw [show 360 - q = (359 - q) + 1 by omega, wl_s, if_pos h]
  rfl
theorem rk_ex (d : HD) : ∀ m i, i < rkD d m → ∃ q, q < m ∧ isD d q = true ∧ rkD d q = i := by
  intro m
  induction m with
  | zero => intro i h; exact absurd h (Nat.not_lt_zero _)
  | succ m ih =>
    intro i h
    by_cases h1 : i < rkD d m
    · obtain ⟨q, a, b, c⟩ := ih i h1
      exact ⟨q, by omega, b, c⟩
    · rw [rkD_s] at h
      by_cases h2 : isD d m = true
      · rw [if_pos h2] at h
        exact ⟨m, by omega, h2, by omega⟩
      · rw [if_neg h2] at h
        omega
theorem paD_facts {d : HD} (hd : dOk d) {i : Nat} (h : i < cntD d) : paD d i < 360 ∧ isD d (paD d i) = true ∧ rkD d (paD d i) = i := by
  rw [← rkD_360 hd] at h
  obtain ⟨q, a, b, c⟩ := rk_ex d 360 i h
  have := paD_rk a b
  rw [c] at this
  rw [this]
  exact ⟨a, b, c⟩
theorem rkD_lt {d : HD} (hd : dOk d) {q : Nat} (hq : q < 360) (h : isD d q = true) : rkD d q < cntD d := by
  have h1 := rkD_s d q
  rw [if_pos h] at h1
  have h2 := rkD_mono d (a := q + 1) (b := 360) (by omega)
  rw [rkD_360 hd] at h2
  omega
theorem paD_mono {d : HD} (hd : dOk d) {i j : Nat} (hij : i < j) (hj : j < cntD d) : paD d i < paD d j := by
  have h1 := paD_facts hd (i := i) (by omega)
  have h2 := paD_facts hd hj
  by_cases h : paD d i < paD d j
  · exact h
  · have := rkD_mono d (a := paD d j) (b := paD d i) (by omega)
    omega
/-- homes -/
def cP (d : HD) (i : Nat) : Bool := isD d (i % 360)
def hfD (d : HD) (q : Nat) : Option Nat := fh (cP d) 360 q
def homeD (d : HD) (q : Nat) : Option Nat := (hfD d q).map (fun i => i % 8)
def oX : Option Nat → Int32
  | none => mI 15
  | some p => nI p
def oM : Option Nat → Int32
  | none => mI 1
  | some p => nI p
theorem cP_per (d : HD) (i : Nat) : cP d (i + 360) = cP d i := by
  unfold cP
  rw [Nat.add_mod_right]
theorem cP_lt (d : HD) {i : Nat} (h : i < 360) : cP d i = isD d i := by
  unfold cP
  rw [Nat.mod_eq_of_lt h]
theorem hf_more (d : HD) {q m : Nat} (hm : 360 ≤ m) : fh (cP d) m q = hfD d q := by
  unfold hfD
  cases h : fh (cP d) 360 q with
  | some i =>
    rw [fh_some] at h ⊢
    exact ⟨h.1, by omega, h.2.2⟩
  | none =>
    rw [fh_none] at h ⊢
    have hall : ∀ n j, q ≤ j → j < q + n → cP d j = false := by
      intro n
      induction n with
      | zero => intro j a b; omega
      | succ n ih =>
        intro j a b
        by_cases hj : j < q + 360
        · exact h j a hj
        · have := ih (j - 360) (by omega) (by omega)
          rw [← cP_per, show j - 360 + 360 = j by omega] at this
          exact this
    intro j a b
    exact hall m j a b
theorem homeD_lt {d : HD} {q p : Nat} (h : homeD d q = some p) : p < dP d ∧ dop d p = true := by
  unfold homeD at h
  cases hf : hfD d q with
  | none => rw [hf] at h; cases h
  | some i =>
    rw [hf] at h
    cases h
    unfold hfD at hf
    have h1 := (fh_some.mp hf).2.2.1
    unfold cP at h1
    rw [isD_iff] at h1
    have h3 : i % 360 % 8 = i % 8 := by omega
    rw [h3] at h1
    refine ⟨h1.1, ?_⟩
    have h2 := h1.2
    unfold nptD at h2
    by_cases e : dop d (i % 8) = true
    · exact e
    · rw [if_neg e] at h2
      omega
theorem rot_eq (d : HD) {q : Nat} (hq : q < 360) : (wl (cP d) 360 q).map (fun i => i % 360) = (psD d).drop (rkD d q) ++ (psD d).take (rkD d q) := by
  have h1 : psD d = wl (isD d) q 0 ++ wl (isD d) (360 - q) q := psD_split d (by omega)
  rw [h1]
  unfold rkD
  rw [List.drop_left, List.take_left]
  have h2 := wl_append (cP d) (360 - q) q q
  rw [show 360 - q + q = 360 by omega, show q + (360 - q) = 360 by omega] at h2
  rw [h2, List.map_append]
  congr 1
  · refine wl_map (fun i hi => ?_)
    have : (q + i) % 360 = q + i := Nat.mod_eq_of_lt (by omega)
    refine ⟨?_, this⟩
    unfold cP
    rw [this]
  · refine wl_map (fun i hi => ?_)
    have : (360 + i) % 360 = 0 + i := by omega
    refine ⟨?_, this⟩
    unfold cP
    rw [this]
