/-! The order of the hot piers; sums. -/
theorem byD_int {d : HD} (hd : dOk d) {x : Nat} (hx : x < dP d) : (byD d x).toInt = (htD d (dB d) x : Int) - roomD d x := by
  have h1 := roomD_le hd hx
  have h24 := hd.2.1
  have h2 : htD d (dB d) x ≤ 2376 := Nat.le_trans (sumTo_le (f := fun j => if homeD d (pbD d j) = some x then dto d j else 0) (c := 99) (dB d) (fun j hj => by have := (hd.2.2.2.2 j hj).2.2; show (if _ then _ else 0) ≤ 99; split <;> omega)) (by omega)
  exact pk_sub_toInt (by omega) (by omega)
theorem ah_iff {d : HD} (hd : dOk d) {x y : Nat} (hx : x < dP d) (hy : y < dP d) : ahB d x y = true ↔ (byD d y).toInt < (byD d x).toInt ∨ ((byD d y).toInt = (byD d x).toInt ∧ (dbe d x < dbe d y ∨ (dbe d x = dbe d y ∧ x < y))) := by
  unfold ahB
  by_cases h1 : byD d x = byD d y
  · rw [if_pos h1, h1]
    by_cases h2 : dbe d x = dbe d y
    · rw [if_pos h2, decide_eq_true_iff]
      omega
    · rw [if_neg h2, decide_eq_true_iff]
      omega
  · rw [if_neg h1]
    have hne : ¬ (byD d x).toInt = (byD d y).toInt := fun z => h1 (Int32.toInt_inj.mp z)
    have hle : byD d x ≤ byD d y ↔ (byD d x).toInt ≤ (byD d y).toInt := Int32.le_iff_toInt_le
    simp only [Bool.not_eq_true', decide_eq_false_iff_not, hle]
    omega
theorem sumTo_lt {f g : Nat → Nat} {k : Nat} : ∀ n, k < n → (∀ j, j < n → f j ≤ g j) → f k < g k → sumTo f n < sumTo g n := by
  intro n
  induction n with
  | zero => intro h; omega
  | succ n ih =>
    intro hk hle hlt
    show sumTo f n + f n < sumTo g n + g n
    have h1 := hle n (by omega)
    by_cases e : k = n
    · have : sumTo f n ≤ sumTo g n := by
        clear ih hk hlt
        have : ∀ m, m ≤ n → sumTo f m ≤ sumTo g m := by
          intro m
          induction m with
          | zero => intro _; exact Nat.le_refl _
          | succ m ih =>
            intro hm
            have a := ih (by omega)
            have b := hle m (by omega)
            show sumTo f m + f m ≤ sumTo g m + g m
            omega
        exact this n (Nat.le_refl _)
      rw [e] at hlt
      omega
    · have := ih (by omega) (fun j hj => hle j (by omega)) hlt
      omega
theorem na_lt {d : HD} (hd : dOk d) {x y : Nat} (hx : x < dP d) (hy : y < dP d) (h : ahB d x y = true) : naD d x < naD d y := by
  unfold naD
  refine sumTo_lt (k := x) (dP d) hx (fun j hj => ?_) ?_
  · by_cases e : ahB d j x = true
    · have e1 := (ah_iff hd hj hx).mp e
      have e2 := (ah_iff hd hx hy).mp h
      have e3 : ahB d j y = true := (ah_iff hd hj hy).mpr (by omega)
      rw [if_pos e, if_pos e3]
      exact Nat.le_refl _
    · rw [if_neg e]
      exact Nat.zero_le _
  · show (if ahB d x x = true then 1 else 0) < (if ahB d x y = true then 1 else 0)
    have e : ¬ ahB d x x = true := fun z => by have := (ah_iff hd hx hx).mp z; omega
    rw [if_neg e, if_pos h]
    exact Nat.zero_lt_one
theorem na_inj {d : HD} (hd : dOk d) {x y : Nat} (hx : x < dP d) (hy : y < dP d) (h : naD d x = naD d y) : x = y := by
  by_cases e : x = y
  · exact e
  · exfalso
    by_cases h1 : ahB d x y = true
    · have := na_lt hd hx hy h1
      omega
    · have h2 : ahB d y x = true := by
        rw [ah_iff hd hy hx]
        rw [ah_iff hd hx hy] at h1
        omega
      have := na_lt hd hy hx h2
      omega
theorem na_bound {d : HD} (hd : dOk d) {x : Nat} (hx : x < dP d) : naD d x < dP d := by
  have h : naD d x < sumTo (fun _ => 1) (dP d) := by
    unfold naD
    refine sumTo_lt (k := x) (dP d) hx (fun j hj => by show (if _ then 1 else 0) ≤ 1; split <;> omega) ?_
    show (if ahB d x x = true then 1 else 0) < 1
    rw [if_neg (fun z => by have := (ah_iff hd hx hx).mp z; omega)]
    exact Nat.zero_lt_one
  have h2 : ∀ n, sumTo (fun _ => 1) n = n := by
    intro n
    induction n with
    | zero => rfl
    | succ n ih => show sumTo _ n + 1 = n + 1; rw [ih]
  rw [h2] at h
  exact h
/-- an injection of what is below n into itself reaches all of it -/
theorem pigeon : ∀ (n : Nat) (f : Nat → Nat), (∀ x, x < n → f x < n) → (∀ x y, x < n → y < n → f x = f y → x = y) → ∀ k, k < n → ∃ x, x < n ∧ f x = k := by
  intro n
  induction n with
  | zero => intro f _ _ k hk; omega
  | succ n ih =>
    intro f hf hinj k hk
    by_cases hlast : f n = k
    · exact ⟨n, by omega, hlast⟩
    · -- leave out n: send what goes to n to f n
      have hfn := hf n (by omega)
      obtain ⟨g, eg⟩ : ∃ g : Nat → Nat, g = fun x => if f x = n then f n else f x := ⟨_, rfl⟩
      have gval : ∀ x, g x = if f x = n then f n else f x := fun x => by rw [eg]
      have gb : ∀ x, x < n → g x < n := by
        intro x hx
        rw [gval]
        have h1 := hf x (by omega)
        by_cases e : f x = n
        · rw [if_pos e]
          by_cases e2 : f n = n
          · have := hinj x n (by omega) (by omega) (by omega)
            omega
          · omega
        · rw [if_neg e]
          omega
      have gi : ∀ x y, x < n → y < n → g x = g y → x = y := by
        intro x y hx hy h
        rw [gval, gval] at h
        by_cases e : f x = n
        · by_cases e2 : f y = n
          · exact hinj x y (by omega) (by omega) (by omega)
          · rw [if_pos e, if_neg e2] at h
            have := hinj n y (by omega) (by omega) h
            omega
        · by_cases e2 : f y = n
          · rw [if_neg e, if_pos e2] at h
            have := hinj x n (by omega) (by omega) h
            omega
          · rw [if_neg e, if_neg e2] at h
            exact hinj x y (by omega) (by omega) h
      by_cases hkn : k = n
      · -- k = n: f n < n is reached by g, by one that f sends to n
        have h2 : f n < n := by omega
        obtain ⟨x, hx, e⟩ := ih g gb gi (f n) h2
        rw [gval] at e
        by_cases e3 : f x = n
        · exact ⟨x, by omega, by omega⟩
        · rw [if_neg e3] at e
          have := hinj x n (by omega) (by omega) e
          omega
      · obtain ⟨x, hx, e⟩ := ih g gb gi k (by omega)
        rw [gval] at e
        by_cases e3 : f x = n
        · rw [if_pos e3] at e
          omega
        · rw [if_neg e3] at e
          exact ⟨x, by omega, e⟩
theorem hot_at {d : HD} (hd : dOk d) {k : Nat} (hk : k < dP d) : ∃ x, x < dP d ∧ hotR d (nI k) = nI x ∧ naD d x = k := by
  have h8 := hd.1
  obtain ⟨x, hx, e⟩ := pigeon (dP d) (naD d) (fun x hx => na_bound hd hx) (fun x y hx hy h => na_inj hd hx hy h) k hk
  refine ⟨x, hx, hotR_some hx (by rw [e]) (fun j hj z => ?_), e⟩
  have hj2 : j < dP d := by omega
  have hb := na_bound hd hj2
  have := (nI_eq (by omega) (by omega)).mp z
  have := na_inj hd hj2 hx (by omega)
  omega
theorem hot_none {d : HD} (hd : dOk d) : hotR d (nI (dP d)) = mI 11 := by
  have h8 := hd.1
  refine hotR_none (fun j hj z => ?_)
  have hb := na_bound hd hj
  have := (nI_eq (by omega) (by omega)).mp z
  omega
theorem sum_one {d : HD} {n t : Nat} : ∀ P, sumTo (fun x => if lieD d n = some x then t else 0) P = if lieD d n = none then 0 else (if (lieD d n).getD 0 < P then t else 0) := by
  intro P
  cases h : lieD d n with
  | none =>
    rw [if_pos rfl]
    induction P with
    | zero => rfl
    | succ P ih =>
      show sumTo _ P + (if (none : Option Nat) = some P then t else 0) = 0
      rw [ih, if_neg (fun z => by cases z)]
  | some q =>
    rw [if_neg (fun z => by cases z)]
    show _ = if q < P then t else 0
    induction P with
    | zero => rfl
    | succ P ih =>
      show sumTo _ P + (if some q = some P then t else 0) = _
      rw [ih]
      by_cases e : q = P
      · subst e
        simp
      · by_cases e2 : q < P
        · simp [e, e2, show q < P + 1 by omega]
        · simp [e, e2, show ¬ q < P + 1 by omega]
theorem i32_sub {x y : Int32} (h : -1073741824 ≤ x.toInt - y.toInt ∧ x.toInt - y.toInt < 1073741824) : (x - y).toInt = x.toInt - y.toInt := by
  rw [Int32.toInt_sub, Int.bmod_def]
  split <;> omega
theorem i32_add {x y : Int32} (h : -1073741824 ≤ x.toInt + y.toInt ∧ x.toInt + y.toInt < 1073741824) : (x + y).toInt = x.toInt + y.toInt := by
  rw [Int32.toInt_add, Int.bmod_def]
  split <;> omega
theorem ht_le {d : HD} (hd : dOk d) (x : Nat) : htD d (dB d) x ≤ 2376 := by
  have h24 := hd.2.1
  exact Nat.le_trans (sumTo_le (f := fun j => if homeD d (pbD d j) = some x then dto d j else 0) (c := 99) (dB d) (fun j hj => by have := (hd.2.2.2.2 j hj).2.2; show (if _ then _ else 0) ≤ 99; split <;> omega)) (by omega)
theorem more_int {d : HD} (hd : dOk d) {x y : Nat} (hx : x < dP d) (hy : y < dP d) : (nI (htD d (dB d) x) - nI (roomD d x) - nI (htD d (dB d) y) + nI (roomD d y)).toInt = (byD d x).toInt - (byD d y).toInt := by
  have a1 := roomD_le hd hx
  have a2 := roomD_le hd hy
  have a3 := ht_le hd x
  have a4 := ht_le hd y
  have e1 := byD_int hd hx
  have e2 := byD_int hd hy
  have e3 : (nI (htD d (dB d) x) - nI (roomD d x)).toInt = (htD d (dB d) x : Int) - roomD d x := e1
  have t1 := nI_toInt (n := htD d (dB d) y) (by omega)
  have t2 := nI_toInt (n := roomD d y) (by omega)
  have e4 : (nI (htD d (dB d) x) - nI (roomD d x) - nI (htD d (dB d) y)).toInt = (htD d (dB d) x : Int) - roomD d x - htD d (dB d) y := by
    rw [i32_sub (by rw [e3, t1]; omega), e3, t1]
  rw [i32_add (by rw [e4, t2]; omega), e4, t2, e1, e2]
  omega
theorem al_ly (d : HD) : ∀ n, sumTo (tkD d n) (dP d) = lyD d n := by
  intro n
  induction n with
  | zero =>
    show sumTo (fun _ => 0) (dP d) = 0
    have : ∀ P, sumTo (fun _ => 0) P = 0 := by
      intro P
      induction P with
      | zero => rfl
      | succ P ih => show sumTo _ P + 0 = 0; rw [ih]
    exact this _
  | succ n ih =>
    have e : sumTo (tkD d (n + 1)) (dP d) = sumTo (fun x => tkD d n x + (if lieD d n = some x then dto d n else 0)) (dP d) := sumTo_congr _ (fun j _ => tkD_s d n j)
    rw [e, sumTo_add, sum_one]
    have ih2 : sumTo (fun x => tkD d n x) (dP d) = lyD d n := ih
    rw [ih2]
    show _ = lyD d n + (if lieD d n = none then 0 else dto d n)
    cases h : lieD d n with
    | none => rfl
    | some q =>
      have hq := lieD_lt h
      simp [hq]
