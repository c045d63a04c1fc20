/-! How many points lie on the path to a point: the law's count is the tree's depth. -/
theorem off_mono {d : HD} : ∀ b a, a < b → offD d a + nptD d a ≤ offD d b := by
  intro b
  induction b with
  | zero => intro a h; omega
  | succ b ih =>
    intro a h
    show _ ≤ offD d b + nptD d b
    by_cases e : a = b
    · rw [e]; exact Nat.le_refl _
    · have := ih a (by omega)
      omega
def plD (d : HD) (w : Nat) : Nat := rkD d (kD d w)
theorem pl_facts {d : HD} (hd : dOk d) {w : Nat} (hw : w < cntD d) : plD d w < cntD d ∧ paD d (plD d w) = kD d w ∧ nixD d (kD d w) = w ∧ ordD d (plD d w) = 10 * (kD d w % 8) + jqD (kD d w) := by
  have h1 := kD_facts hd hw
  have h2 := rkD_lt hd h1.1 h1.2.1
  have h3 := paD_rk h1.1 h1.2.1
  exact ⟨h2, h3, h1.2.2, by unfold ordD plD; rw [h3]⟩
theorem pl_inj {d : HD} (hd : dOk d) {w w2 : Nat} (hw : w < cntD d) (hw2 : w2 < cntD d) (h : plD d w = plD d w2) : w = w2 := by
  have h1 := pl_facts hd hw
  have h2 := pl_facts hd hw2
  rw [← h1.2.2.1, ← h2.2.2.1, ← h1.2.1, ← h2.2.1, h]
theorem pl_ord {d : HD} (hd : dOk d) {w w2 : Nat} (hw : w < cntD d) (hw2 : w2 < cntD d) : ordD d (plD d w) < ordD d (plD d w2) ↔ w < w2 := by
  have h1 := pl_facts hd hw
  have h2 := pl_facts hd hw2
  rw [h1.2.2.2, h2.2.2.2]
  have k1 := kD_facts hd hw
  have k2 := kD_facts hd hw2
  have j1 := (isD_iff.mp k1.2.1)
  have j2 := (isD_iff.mp k2.2.1)
  have n1 := nptD_le hd j1.1
  have n2 := nptD_le hd j2.1
  have e1 : offD d (kD d w % 8) + jqD (kD d w) = w := k1.2.2
  have e2 : offD d (kD d w2 % 8) + jqD (kD d w2) = w2 := k2.2.2
  by_cases h3 : kD d w % 8 < kD d w2 % 8
  · have := off_mono (d := d) _ _ h3
    omega
  · by_cases h4 : kD d w2 % 8 < kD d w % 8
    · have := off_mono (d := d) _ _ h4
      omega
    · have h5 : kD d w % 8 = kD d w2 % 8 := by omega
      rw [h5] at e1
      omega
theorem pl_lt {d : HD} (hd : dOk d) {w w2 : Nat} (hw : w < cntD d) (hw2 : w2 < cntD d) : plD d w < plD d w2 ↔ kD d w < kD d w2 := by
  have h1 := pl_facts hd hw
  have h2 := pl_facts hd hw2
  constructor
  · intro h
    have := paD_mono hd h h2.1
    rw [h1.2.1, h2.2.1] at this
    exact this
  · intro h
    by_cases e : plD d w < plD d w2
    · exact e
    · exfalso
      by_cases e2 : plD d w = plD d w2
      · rw [pl_inj hd hw hw2 e2] at h
        omega
      · have := paD_mono hd (show plD d w2 < plD d w by omega) h1.1
        rw [h1.2.1, h2.2.1] at this
        omega
theorem pl_ex {d : HD} (hd : dOk d) {i : Nat} (hi : i < cntD d) : ∃ w, w < cntD d ∧ plD d w = i := pigeon (cntD d) (plD d) (fun w hw => (pl_facts hd hw).1) (fun x y hx hy h => pl_inj hd hx hy h) i hi
theorem sum_pick {f : Nat → Nat} {k : Nat} : ∀ n, sumTo (fun x => if k = x then f x else 0) n = if k < n then f k else 0 := by
  intro n
  induction n with
  | zero => rfl
  | succ n ih =>
    show sumTo _ n + (if k = n then f n else 0) = _
    rw [ih]
    by_cases e : k = n
    · subst e; simp
    · by_cases e2 : k < n
      · simp [e, e2, show k < n + 1 by omega]
      · simp [e, e2, show ¬ k < n + 1 by omega]
theorem sum_perm {f : Nat → Nat} {n : Nat} (hf : ∀ x, x < n → f x < n) (hi : ∀ x y, x < n → y < n → f x = f y → x = y) (g : Nat → Nat) : sumTo (fun x => g (f x)) n = sumTo g n := by
  have e1 : sumTo (fun x => g (f x)) n = sumTo (fun x => sumTo (fun k => if f x = k then g k else 0) n) n := sumTo_congr n (fun x hx => by rw [sum_pick, if_pos (hf x hx)])
  rw [e1, sumTo_swap]
  refine sumTo_congr n (fun k hk => ?_)
  obtain ⟨x0, hx0, e0⟩ := pigeon n f hf hi k hk
  have e2 : sumTo (fun x => if f x = k then g k else 0) n = sumTo (fun x => if x0 = x then g k else 0) n := sumTo_congr n (fun x hx => by
    by_cases e : x0 = x
    · rw [if_pos e, if_pos (by rw [← e, e0])]
    · rw [if_neg e, if_neg (fun z => e (hi x0 x hx0 hx (by rw [z, e0])))])
  rw [e2, sum_pick (f := fun _ => g k), if_pos hx0]
/-- the place i counts on the way to the place a -/
def onP (d : HD) (a i : Nat) : Prop := i ≠ a ∧ ordD d i < ordD d a ∧ ∀ j, (i < j ∧ j < a) ∨ (a < j ∧ j < i) → ordD d i < ordD d j
noncomputable def nP (d : HD) (a i : Nat) : Nat := @ite _ (onP d a i) (Classical.propDecidable _) 1 0
theorem on_iff {d : HD} (hd : dOk d) {u w : Nat} (hu : u < cntD d) (hw : w < cntD d) : onP d (plD d u) (plD d w) ↔ w < u ∧ onK (kD d) (fun v => kD d u < kD d v) w := by
  have hinj : ∀ {x y : Nat}, x < cntD d → y < cntD d → kD d x = kD d y → x = y := fun {x y} hx hy h => by rw [← (kD_facts hd hx).2.2, ← (kD_facts hd hy).2.2, h]
  constructor
  · rintro ⟨h1, h2, h3⟩
    have h4 := (pl_ord hd hw hu).mp h2
    refine ⟨h4, fun v hv => ?_⟩
    have hvc : v < cntD d := by omega
    have n1 : kD d v ≠ kD d u := fun z => by have := hinj hvc hu z; omega
    have n2 : kD d v ≠ kD d w := fun z => by have := hinj hvc hw z; omega
    have h5 : ¬ ((plD d w < plD d v ∧ plD d v < plD d u) ∨ (plD d u < plD d v ∧ plD d v < plD d w)) := fun z => by
      have := (pl_ord hd hw hvc).mp (h3 _ z)
      omega
    rw [pl_lt hd hw hvc, pl_lt hd hvc hu, pl_lt hd hu hvc, pl_lt hd hvc hw] at h5
    show kD d u < kD d v ↔ kD d w < kD d v
    omega
  · rintro ⟨h1, h2⟩
    refine ⟨fun z => by have := pl_inj hd hw hu z; omega, (pl_ord hd hw hu).mpr h1, fun j hj => ?_⟩
    have f1 := (pl_facts hd hw).1
    have f2 := (pl_facts hd hu).1
    obtain ⟨v, hv, rfl⟩ := pl_ex hd (show j < cntD d by omega)
    rw [pl_lt hd hw hv, pl_lt hd hv hu, pl_lt hd hu hv, pl_lt hd hv hw] at hj
    refine (pl_ord hd hw hv).mpr ?_
    by_cases h3 : w < v
    · exact h3
    · exfalso
      by_cases h4 : v = w
      · rw [h4] at hj; omega
      · have h5 : kD d u < kD d v ↔ kD d w < kD d v := h2 v (by omega)
        omega
theorem dp_sum {d : HD} (hd : dOk d) {u : Nat} (hu : u < cntD d) : dpK d u = sumTo (nP d (plD d u)) (cntD d) := by
  have e1 : sumTo (fun w => nP d (plD d u) (plD d w)) (cntD d) = sumTo (nP d (plD d u)) (cntD d) := sum_perm (fun w hw => (pl_facts hd hw).1) (fun x y hx hy h => pl_inj hd hx hy h) _
  rw [← e1]
  have key : ∀ n, n ≤ cntD d → sumTo (fun w => nP d (plD d u) (plD d w)) n = cK (kD d) (fun v => kD d u < kD d v) (min n u) := by
    intro n
    induction n with
    | zero => intro _; rw [Nat.zero_min]; rfl
    | succ n ih =>
      intro hn
      show sumTo _ n + nP d (plD d u) (plD d n) = _
      rw [ih (by omega)]
      have hi := on_iff hd hu (show n < cntD d by omega)
      unfold nP
      by_cases hnu : n < u
      · rw [Nat.min_eq_left (by omega), Nat.min_eq_left (by omega)]
        show _ = cK (kD d) (fun v => kD d u < kD d v) n + @ite _ (onK (kD d) (fun v => kD d u < kD d v) n) (Classical.propDecidable _) 1 0
        by_cases h : onK (kD d) (fun v => kD d u < kD d v) n
        · rw [if_pos h, if_pos (hi.mpr ⟨hnu, h⟩)]
        · rw [if_neg h, if_neg (fun z => h (hi.mp z).2)]
      · rw [Nat.min_eq_right (by omega), Nat.min_eq_right (by omega), if_neg (fun z => hnu (hi.mp z).1)]
        rfl
  rw [key _ (Nat.le_refl _), Nat.min_eq_right (by omega)]
  rfl
/-- to the left and to the right, step by step -/
def erL (d : HD) (a : Nat) : Nat → Nat
  | 0 => 1000
  | t + 1 => min (erL d a t) (ordD d (a - 1 - t))
def erR (d : HD) (a : Nat) : Nat → Nat
  | 0 => 1000
  | t + 1 => min (erR d a t) (ordD d (a + 1 + t))
theorem erL_iff {d : HD} {a x : Nat} (hx : x < 1000) : ∀ t, t ≤ a → (x < erL d a t ↔ ∀ j, a - t ≤ j → j < a → x < ordD d j) := by
  intro t
  induction t with
  | zero => intro _; exact ⟨fun _ j h1 h2 => by omega, fun _ => hx⟩
  | succ t ih =>
    intro ht
    show x < min (erL d a t) (ordD d (a - 1 - t)) ↔ _
    rw [Nat.lt_min, ih (by omega)]
    constructor
    · rintro ⟨h1, h2⟩ j j1 j2
      by_cases e : j = a - 1 - t
      · rw [e]; exact h2
      · exact h1 j (by omega) j2
    · intro h
      exact ⟨fun j j1 j2 => h j (by omega) j2, h _ (by omega) (by omega)⟩
theorem erR_iff {d : HD} {a x : Nat} (hx : x < 1000) : ∀ t, (x < erR d a t ↔ ∀ j, a < j → j < a + 1 + t → x < ordD d j) := by
  intro t
  induction t with
  | zero => exact ⟨fun _ j h1 h2 => by omega, fun _ => hx⟩
  | succ t ih =>
    show x < min (erR d a t) (ordD d (a + 1 + t)) ↔ _
    rw [Nat.lt_min, ih]
    constructor
    · rintro ⟨h1, h2⟩ j j1 j2
      by_cases e : j = a + 1 + t
      · rw [e]; exact h2
      · exact h1 j j1 (by omega)
    · intro h
      exact ⟨fun j j1 j2 => h j j1 (by omega), h _ (by omega) (by omega)⟩
theorem er_le (d : HD) (a t : Nat) : erL d a t ≤ 1000 ∧ erR d a t ≤ 1000 := by
  induction t with
  | zero => exact ⟨Nat.le_refl _, Nat.le_refl _⟩
  | succ t ih => exact ⟨Nat.le_trans (Nat.min_le_left _ _) ih.1, Nat.le_trans (Nat.min_le_left _ _) ih.2⟩
theorem onL {d : HD} {a t : Nat} (ht : t < a) : onP d a (a - 1 - t) ↔ ordD d (a - 1 - t) < ordD d a ∧ ordD d (a - 1 - t) < erL d a t := by
  have hl := ordD_lt d (a - 1 - t)
  rw [erL_iff (by omega) t (by omega)]
  constructor
  · rintro ⟨-, h2, h3⟩
    exact ⟨h2, fun j j1 j2 => h3 j (by omega)⟩
  · rintro ⟨h1, h2⟩
    exact ⟨by omega, h1, fun j hj => h2 j (by omega) (by omega)⟩
theorem onR {d : HD} {a t : Nat} : onP d a (a + 1 + t) ↔ ordD d (a + 1 + t) < ordD d a ∧ ordD d (a + 1 + t) < erR d a t := by
  have hl := ordD_lt d (a + 1 + t)
  rw [erR_iff (by omega) t]
  constructor
  · rintro ⟨-, h2, h3⟩
    exact ⟨h2, fun j j1 j2 => h3 j (by omega)⟩
  · rintro ⟨h1, h2⟩
    exact ⟨by omega, h1, fun j hj => h2 j (by omega) (by omega)⟩
/-- the count so far: to the left after t steps; to the right after t steps -/
noncomputable def cnL (d : HD) (a t : Nat) : Nat := sumTo (nP d a) a - sumTo (nP d a) (a - t)
noncomputable def cnR (d : HD) (a t : Nat) : Nat := sumTo (nP d a) (a + 1 + t)
theorem sumTo_mono {f : Nat → Nat} {x : Nat} : ∀ y, x ≤ y → sumTo f x ≤ sumTo f y := by
  intro y
  induction y with
  | zero =>
    intro h
    obtain rfl : x = 0 := by omega
    exact Nat.le_refl _
  | succ y ih =>
    intro h
    by_cases e : x = y + 1
    · rw [e]; exact Nat.le_refl _
    · have := ih (by omega)
      show _ ≤ sumTo f y + f y
      omega
theorem cnL_s {d : HD} {a t : Nat} (ht : t < a) : cnL d a (t + 1) = cnL d a t + nP d a (a - 1 - t) := by
  unfold cnL
  have h1 : sumTo (nP d a) (a - t) = sumTo (nP d a) (a - (t + 1)) + nP d a (a - 1 - t) := by
    rw [show a - t = (a - (t + 1)) + 1 by omega, show a - 1 - t = a - (t + 1) by omega]
    rfl
  have h2 := sumTo_mono (f := nP d a) (x := a - t) a (by omega)
  omega
theorem cnR_s (d : HD) (a t : Nat) : cnR d a (t + 1) = cnR d a t + nP d a (a + 1 + t) := rfl
theorem cn_join (d : HD) (a : Nat) : cnL d a a = cnR d a 0 := by
  unfold cnL cnR
  rw [Nat.sub_self]
  have h : nP d a a = 0 := by
    unfold nP
    rw [if_neg (fun z => z.1 rfl)]
  show sumTo (nP d a) a - 0 = sumTo (nP d a) a + nP d a a
  rw [h]
  omega
theorem cn_all {d : HD} (hd : dOk d) {a : Nat} (ha : a < cntD d) : cnR d a (cntD d - 1 - a) = dpK d (nixD d (paD d a)) := by
  have h1 := paD_facts hd ha
  have h2 := nix_facts h1.1 h1.2.1
  have h3 : plD d (nixD d (paD d a)) = a := by
    unfold plD
    rw [h2.2]
    exact h1.2.2
  rw [dp_sum hd h2.1, h3]
  unfold cnR
  rw [show a + 1 + (cntD d - 1 - a) = cntD d by omega]
theorem nP_le (d : HD) (a : Nat) : ∀ n, sumTo (nP d a) n ≤ n := by
  intro n
  have := sumTo_le (f := nP d a) (c := 1) n (fun j _ => by unfold nP; split <;> omega)
  omega
/-- where a place counts, none between is ahead of it: the test says so -/
theorem near_on {d : HD} {a i : Nat} (h : onP d a i) : nearD d i a = true := by
  obtain ⟨h1, h2, h3⟩ := h
  refine decide_eq_true (fun k hk k1 k2 => ?_)
  by_cases e1 : k = i
  · rw [e1]; exact Nat.lt_irrefl _
  · by_cases e2 : k = a
    · rw [e2]; omega
    · have := h3 k (by
        rcases Nat.lt_or_gt_of_ne h1 with h | h
        · rw [Nat.min_eq_left (by omega)] at k1
          rw [Nat.max_eq_right (by omega)] at k2
          omega
        · rw [Nat.min_eq_right (by omega)] at k1
          rw [Nat.max_eq_left (by omega)] at k2
          omega)
      omega
