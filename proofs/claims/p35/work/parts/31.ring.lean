/-! Pure rows: the data of a harbour, its points. -/
abbrev HD : Type := Nat × Nat × Nat × Int32 × (Nat → Nat) × (Nat → Bool) × (Nat → Nat) × (Nat → Nat)
def dP (d : HD) : Nat := d.1
def dB (d : HD) : Nat := d.2.1
def dT (d : HD) : Nat := d.2.2.1
def dM (d : HD) : Int32 := d.2.2.2.1
def dbe (d : HD) : Nat → Nat := d.2.2.2.2.1
def dop (d : HD) : Nat → Bool := d.2.2.2.2.2.1
def dna (d : HD) : Nat → Nat := d.2.2.2.2.2.2.1
def dto (d : HD) : Nat → Nat := d.2.2.2.2.2.2.2
def dOk (d : HD) : Prop := dP d ≤ 8 ∧ dB d ≤ 24 ∧ (10 ≤ dT d ∧ dT d ≤ 200) ∧ (∀ p, p < dP d → 1 ≤ dbe d p ∧ dbe d p ≤ 5) ∧ (∀ i, i < dB d → dna d i ≤ 9999 ∧ 1 ≤ dto d i ∧ dto d i ≤ 99)
def nptD (d : HD) (p : Nat) : Nat := if dop d p = true then 2 * dbe d p else 0
def roomD (d : HD) (p : Nat) : Nat := if dop d p = true then dbe d p * dT d else 0
def offD (d : HD) : Nat → Nat
  | 0 => 0
  | p + 1 => offD d p + nptD d p
def ptD (p j : Nat) : Nat := 8 * ((17 * p + 7 * j) % 45) + p
def KpD (d : HD) : Nat → Nat → Nat
  | 0, _ => 0
  | p + 1, i => if i < offD d p then KpD d p i else ptD p (i - offD d p)
def kD (d : HD) (i : Nat) : Nat := KpD d (dP d) i
def cntD (d : HD) : Nat := offD d (dP d)
def jqD (q : Nat) : Nat := (13 * (q / 8) + 4 * (q % 8)) % 45
def isD (d : HD) (q : Nat) : Bool := decide (q % 8 < dP d) && decide (jqD q < nptD d (q % 8))
def nixD (d : HD) (q : Nat) : Nat := offD d (q % 8) + jqD q
def pbD (d : HD) (i : Nat) : Nat := (37 * dna d i + 11) % 360
theorem pbD_lt (d : HD) (i : Nat) : pbD d i < 360 := Nat.mod_lt _ (by omega)
theorem isD_iff {d : HD} {q : Nat} : isD d q = true ↔ q % 8 < dP d ∧ jqD q < nptD d (q % 8) := by
  unfold isD
  simp
theorem nptD_le {d : HD} (h : dOk d) {p : Nat} (hp : p < dP d) : nptD d p ≤ 10 := by
  unfold nptD
  have := h.2.2.2.1 p hp
  split <;> omega
theorem roomD_le {d : HD} (h : dOk d) {p : Nat} (hp : p < dP d) : roomD d p ≤ 1000 := by
  unfold roomD
  have h1 := h.2.2.2.1 p hp
  have h2 := h.2.2.1
  split
  · exact Nat.le_trans (Nat.mul_le_mul h1.2 h2.2) (by omega)
  · omega
theorem offD_mono (d : HD) {a b : Nat} (h : a ≤ b) : offD d a ≤ offD d b := by
  induction b with
  | zero => rw [Nat.le_zero.mp h]; exact Nat.le_refl _
  | succ b ih =>
    by_cases hb : a = b + 1
    · subst hb; exact Nat.le_refl _
    · have := ih (by omega)
      show _ ≤ offD d b + nptD d b
      omega
theorem offD_le {d : HD} (h : dOk d) : ∀ p, p ≤ dP d → offD d p ≤ 10 * p := by
  intro p
  induction p with
  | zero => intro _; exact Nat.le_refl _
  | succ p ih =>
    intro hp
    have h1 := ih (by omega)
    have h2 := nptD_le h (p := p) (by omega)
    show offD d p + nptD d p ≤ _
    omega
theorem cntD_le {d : HD} (h : dOk d) : cntD d ≤ 80 := by
  have h1 := offD_le h (dP d) (Nat.le_refl _)
  have h2 := h.1
  unfold cntD
  omega
theorem ptD_mod {p j : Nat} (hp : p < 8) : ptD p j % 8 = p := by
  unfold ptD
  omega
theorem ptD_lt {p j : Nat} (hp : p < 8) : ptD p j < 360 := by
  unfold ptD
  omega
theorem jqD_pt {p j : Nat} (hp : p < 8) (hj : j < 45) : jqD (ptD p j) = j := by
  unfold jqD
  rw [ptD_mod hp]
  have h1 : ptD p j / 8 = (17 * p + 7 * j) % 45 := by
    unfold ptD
    omega
  rw [h1]
  omega
theorem ptD_jq {q : Nat} (hq : q < 360) : ptD (q % 8) (jqD q) = q := by
  unfold ptD jqD
  omega
theorem jqD_lt (q : Nat) : jqD q < 45 := Nat.mod_lt _ (by omega)
theorem KpD_ext (d : HD) {p p' i : Nat} (h : p ≤ p') (hi : i < offD d p) : KpD d p' i = KpD d p i := by
  induction p' with
  | zero => rw [Nat.le_zero.mp h]
  | succ p' ih =>
    by_cases e : p = p' + 1
    · rw [e]
    · have h1 : p ≤ p' := by omega
      have h2 := offD_mono d h1
      show (if i < offD d p' then KpD d p' i else ptD p' (i - offD d p')) = _
      rw [if_pos (by omega), ih h1]
theorem kD_at {d : HD} {p j : Nat} (hp : p < dP d) (hj : j < nptD d p) : kD d (offD d p + j) = ptD p j := by
  unfold kD
  rw [KpD_ext d (p := p + 1) hp (by show _ < offD d p + nptD d p; omega)]
  show (if offD d p + j < offD d p then _ else ptD p (offD d p + j - offD d p)) = _
  rw [if_neg (by omega), Nat.add_sub_cancel_left]
theorem off_lt {d : HD} {p j : Nat} (hp : p < dP d) (hj : j < nptD d p) : offD d p + j < cntD d := by
  have h1 := offD_mono d (a := p + 1) (b := dP d) hp
  have h2 : offD d (p + 1) = offD d p + nptD d p := rfl
  unfold cntD
  omega
theorem off_split (d : HD) : ∀ P n, n < offD d P → ∃ p j, p < P ∧ j < nptD d p ∧ n = offD d p + j := by
  intro P
  induction P with
  | zero => intro n h; exact absurd h (Nat.not_lt_zero _)
  | succ P ih =>
    intro n h
    by_cases h1 : n < offD d P
    · obtain ⟨p, j, a, b, c⟩ := ih n h1
      exact ⟨p, j, by omega, b, c⟩
    · have h2 : n < offD d P + nptD d P := h
      exact ⟨P, n - offD d P, by omega, by omega, by omega⟩
theorem kD_facts {d : HD} (hd : dOk d) {n : Nat} (h : n < cntD d) : kD d n < 360 ∧ isD d (kD d n) = true ∧ nixD d (kD d n) = n := by
  obtain ⟨p, j, hp, hj, rfl⟩ := off_split d (dP d) n h
  have h8 : p < 8 := Nat.lt_of_lt_of_le hp hd.1
  have h10 := nptD_le hd hp
  rw [kD_at hp hj]
  refine ⟨ptD_lt h8, ?_, ?_⟩
  · rw [isD_iff, ptD_mod h8, jqD_pt h8 (by omega)]
    exact ⟨hp, hj⟩
  · unfold nixD
    rw [ptD_mod h8, jqD_pt h8 (by omega)]
theorem nix_facts {d : HD} {q : Nat} (hq : q < 360) (h : isD d q = true) : nixD d q < cntD d ∧ kD d (nixD d q) = q := by
  rw [isD_iff] at h
  unfold nixD
  exact ⟨off_lt h.1 h.2, by rw [kD_at h.1 h.2, ptD_jq hq]⟩
theorem kD_inj {d : HD} (hd : dOk d) {a b : Nat} (ha : a < cntD d) (hb : b < cntD d) (h : kD d a = kD d b) : a = b := by
  rw [← (kD_facts hd ha).2.2, ← (kD_facts hd hb).2.2, h]
/-- a step of laying the points out -/
theorem nix_step {d : HD} (hd : dOk d) {n q : Nat} (hn : n < cntD d) (hq : q < 360) : (isD d q = true ∧ nixD d q < n + 1) ↔ ((isD d q = true ∧ nixD d q < n) ∨ q = kD d n) := by
  constructor
  · intro ⟨h1, h2⟩
    by_cases h3 : nixD d q = n
    · right
      rw [← h3, (nix_facts hq h1).2]
    · left
      exact ⟨h1, by omega⟩
  · intro h
    rcases h with ⟨h1, h2⟩ | h
    · exact ⟨h1, by omega⟩
    · have := kD_facts hd hn
      rw [h]
      exact ⟨this.2.1, by omega⟩
/-- how many of the points have been laid out -/
theorem cnt_add (p : Nat → Bool) {a : Nat} (h : p a = false) : ∀ m, a < m → ((List.range m).filter (fun q => p q || q == a)).length = ((List.range m).filter p).length + 1 := by
  intro m
  induction m with
  | zero => intro h; omega
  | succ m ih =>
    intro hm
    rw [List.range_succ, List.filter_append, List.filter_append, List.length_append, List.length_append]
    by_cases e : a = m
    · subst e
      have h1 : (List.range a).filter (fun q => p q || q == a) = (List.range a).filter p := by
        apply List.filter_congr
        intro x hx
        have := List.mem_range.mp hx
        have h2 : (x == a) = false := by simp; omega
        rw [h2, Bool.or_false]
      rw [h1]
      simp [h]
    · have h1 := ih (by omega)
      rw [h1]
      have h2 : (m == a) = false := by simp; omega
      have h3 : List.filter (fun q => p q || q == a) [m] = List.filter p [m] := by simp only [List.filter_cons, List.filter_nil, h2, Bool.or_false]
      rw [h3]
      omega
theorem ps_len {d : HD} (hd : dOk d) : ∀ n, n ≤ cntD d → ((List.range 360).filter (fun q => isD d q && decide (nixD d q < n))).length = n := by
  intro n
  induction n with
  | zero => intro _; simp
  | succ n ih =>
    intro hn
    have h1 := ih (by omega)
    have hk := kD_facts hd (n := n) (by omega)
    have h2 : (List.range 360).filter (fun q => isD d q && decide (nixD d q < n + 1)) = (List.range 360).filter (fun q => (isD d q && decide (nixD d q < n)) || q == kD d n) := by
      apply List.filter_congr
      intro q hq
      have h3 := nix_step hd (n := n) (q := q) (by omega) (List.mem_range.mp hq)
      rw [Bool.eq_iff_iff]
      simp only [Bool.and_eq_true, Bool.or_eq_true, decide_eq_true_eq, beq_iff_eq]
      exact h3
    rw [h2, cnt_add _ (by simp [hk.2.2]) 360 hk.1, h1]
theorem ps_all {d : HD} (hd : dOk d) : ((List.range 360).filter (isD d)).length = cntD d := by
  rw [← ps_len hd (cntD d) (Nat.le_refl _)]
  congr 1
  apply List.filter_congr
  intro q hq
  by_cases h : isD d q = true
  · have := (nix_facts (List.mem_range.mp hq) h).1
    simp [h, this]
  · simp [h]
