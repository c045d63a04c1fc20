/-! Pure rows: numbers, loops. -/
def mI (n : Nat) : Int32 := -(nI n)
theorem pz_n0 : (0 : Int32) = nI 0 := by decide
theorem pz_n1 : (1 : Int32) = nI 1 := by decide
theorem pz_n2 : (2 : Int32) = nI 2 := by decide
theorem pz_n3 : (3 : Int32) = nI 3 := by decide
theorem pz_n4 : (4 : Int32) = nI 4 := by decide
theorem pz_n5 : (5 : Int32) = nI 5 := by decide
theorem pz_n7 : (7 : Int32) = nI 7 := by decide
theorem pz_n8 : (8 : Int32) = nI 8 := by decide
theorem pz_n9 : (9 : Int32) = nI 9 := by decide
theorem pz_n10 : (10 : Int32) = nI 10 := by decide
theorem pz_n11 : (11 : Int32) = nI 11 := by decide
theorem pz_n17 : (17 : Int32) = nI 17 := by decide
theorem pz_n20 : (20 : Int32) = nI 20 := by decide
theorem pz_n24 : (24 : Int32) = nI 24 := by decide
theorem pz_n37 : (37 : Int32) = nI 37 := by decide
theorem pz_n45 : (45 : Int32) = nI 45 := by decide
theorem pz_n60 : (60 : Int32) = nI 60 := by decide
theorem pz_n68 : (68 : Int32) = nI 68 := by decide
theorem pz_n80 : (80 : Int32) = nI 80 := by decide
theorem pz_n99 : (99 : Int32) = nI 99 := by decide
theorem pz_n200 : (200 : Int32) = nI 200 := by decide
theorem pz_n360 : (360 : Int32) = nI 360 := by decide
theorem pz_n719 : (719 : Int32) = nI 719 := by decide
theorem pz_n1000 : (1000 : Int32) = nI 1000 := by decide
theorem pz_n9999 : (9999 : Int32) = nI 9999 := by decide
theorem pz_n12 : (12 : Int32) = nI 12 := by decide
theorem pz_n13 : (13 : Int32) = nI 13 := by decide
theorem pz_n14 : (14 : Int32) = nI 14 := by decide
theorem pz_n15 : (15 : Int32) = nI 15 := by decide
theorem pz_n359 : (359 : Int32) = nI 359 := by decide
theorem pz_neg (n : Nat) : -(nI n) = mI n := by rw [mI]
theorem pz_mT {k : Nat} (hk : k < 2 ^ 31) : (mI k).toInt = -(k : Int) := sb_negT hk
theorem pz_nm {a k : Nat} (ha : a < 2 ^ 31) (h0 : 0 < k) (hk : k < 2 ^ 31) : ¬ nI a = mI k := fun h => by
  have h1 := congrArg Int32.toInt h
  rw [nI_toInt ha, pz_mT hk] at h1
  omega
theorem pz_mn {a k : Nat} (ha : a < 2 ^ 31) (h0 : 0 < k) (hk : k < 2 ^ 31) : ¬ mI k = nI a := fun h => pz_nm ha h0 hk h.symm
theorem pz_mm {a b : Nat} (ha : a < 2 ^ 31) (hb : b < 2 ^ 31) : mI a = mI b ↔ a = b := ⟨fun h => by
  have h1 := congrArg Int32.toInt h
  rw [pz_mT ha, pz_mT hb] at h1
  omega, fun h => by rw [h]⟩
theorem pz_mlt {a k : Nat} (ha : a < 2 ^ 31) (h0 : 0 < k) (hk : k < 2 ^ 31) : mI k < nI a := by
  rw [Int32.lt_iff_toInt_lt, nI_toInt ha, pz_mT hk]
  omega
theorem pz_mle {a k : Nat} (ha : a < 2 ^ 31) (hk : k < 2 ^ 31) : mI k ≤ nI a := by
  rw [Int32.le_iff_toInt_le, nI_toInt ha, pz_mT hk]
  omega
theorem pz_nlm {a k : Nat} (ha : a < 2 ^ 31) (hk : k < 2 ^ 31) : ¬ nI a < mI k := by
  rw [Int32.lt_iff_toInt_lt, nI_toInt ha, pz_mT hk]
  omega
theorem pz_nlem {a k : Nat} (ha : a < 2 ^ 31) (h0 : 0 < k) (hk : k < 2 ^ 31) : ¬ nI a ≤ mI k := by
  rw [Int32.le_iff_toInt_le, nI_toInt ha, pz_mT hk]
  omega
theorem pz_cl {n : Nat} (h : n < 2 ^ 31) : (nI n).toNatClampNeg = n := nI_clamp h
theorem pz_rem {a d : Nat} (ha : a < 2 ^ 31) (h0 : 0 < d) (hd : d < 2 ^ 31) : jrem (nI a) (nI d) = nI (a % d) := pk_rem ha h0 hd
theorem pz_okI {i m : Nat} (h : i < m) (h2 : i < 2 ^ 31) : okI (nI i) m = true := by
  unfold okI
  rw [nI_clamp h2]
  simp [nI_pos h2, h]
theorem pz_gd {α : Type} {i m : Nat} {x : Option α} (h : i < m) (h2 : i < 2 ^ 31) : gd (okI (nI i) m) x = x := by
  unfold gd
  rw [pz_okI h h2, if_pos rfl]
theorem pz_gz {α : Type} {d : Nat} {x : Option α} (h : 0 < d) (h2 : d < 2 ^ 31) : gd (okZ (nI d)) x = x := by
  unfold gd okZ
  simp [nI_ne0 h h2]
theorem pz_gB0 {α : Type} {x : Option α} : gd (okB (nI 0)) x = x := by
  unfold gd okB
  exact if_pos (by decide)
theorem pz_gB1 {α : Type} {x : Option α} : gd (okB (nI 1)) x = x := by
  unfold gd okB
  exact if_pos (by decide)
theorem pz_gt {α : Type} {b : Bool} {x : Option α} (h : b = true) : gd b x = x := by
  unfold gd
  exact if_pos h
theorem pz_nm_ {α β : Type} (a : α) (f : α → β) : nm a f = f a := rfl
theorem pz_bd {α β : Type} (a : α) (f : α → Option β) : bd (some a) f = f a := rfl
theorem pz_su_s (σ : St) (k j : Nat) (v : Int32) : su σ k j v k j = v := by
  unfold su
  rw [sr_self]
  exact if_pos rfl
theorem pz_su_n (σ : St) {k j a b : Nat} (v : Int32) (h : ¬ (a = k ∧ b = j)) : su σ k j v a b = σ a b := by
  unfold su sr
  by_cases ha : a = k
  · subst ha
    rw [if_pos rfl]
    exact if_neg (fun hb => h ⟨rfl, hb⟩)
  · rw [if_neg ha]
theorem pz_su_r (σ : St) {k j a : Nat} (v : Int32) (h : ¬ a = k) : su σ k j v a = σ a := sr_ne σ _ h
theorem pz_su_w (σ : St) (k j : Nat) (v : Int32) : su σ k j v k = upd (σ k) j v := sr_self σ k _
theorem pz_su_e (σ : St) {k j a b : Nat} (v : Int32) (h1 : a = k) (h2 : b = j) : su σ k j v a b = v := by
  subst h1; subst h2
  exact pz_su_s σ _ _ v
theorem pz_up (f : Nat → Int32) (j : Nat) (v : Int32) (b : Nat) : upd f j v b = if b = j then v else f b := rfl
theorem pz_loop {β α : Type} {F : Nat → β → Nat → Option α} {P : Option α → Prop} (Inv : Nat → β → Prop) (N : Nat) (hend : ∀ n b, Inv N b → P (F (n + 1) b N)) (hstep : ∀ n i b, i < N → Inv i b → P (F (n + 1) b i) ∨ ∃ b', Inv (i + 1) b' ∧ F (n + 1) b i = F n b' (i + 1)) :
    ∀ (k i : Nat) (b : β) (n : Nat), i + k = N → k < n → Inv i b → P (F n b i) := by
  intro k
  induction k with
  | zero =>
    intro i b n h1 h2 h3
    obtain ⟨n, rfl⟩ : ∃ m, n = m + 1 := ⟨n - 1, by omega⟩
    have : i = N := by omega
    subst this
    exact hend n b h3
  | succ k ih =>
    intro i b n h1 h2 h3
    obtain ⟨n, rfl⟩ : ∃ m, n = m + 1 := ⟨n - 1, by omega⟩
    rcases hstep n i b (by omega) h3 with h | ⟨b', h4, h5⟩
    · exact h
    · rw [h5]
      exact ih (i + 1) b' n (by omega) (by omega) h4
def bI (b : Bool) : Int32 := if b = true then nI 1 else nI 0
theorem bI_t : bI true = nI 1 := rfl
theorem bI_f : bI false = nI 0 := rfl
theorem pz_or (b : Bool) : bI b = nI 0 ∨ bI b = nI 1 := by cases b <;> simp [bI]
theorem pz_narB (x : Int32) (h : x = nI 0 ∨ x = nI 1) : vp_nar .boolean x = x := by
  rcases h with h | h <;> subst h <;> rfl
theorem pz_narB0 : vp_nar .boolean (nI 0) = nI 0 := rfl
theorem pz_narB1 : vp_nar .boolean (nI 1) = nI 1 := rfl
theorem pz_narC {n : Nat} (h : n < 65536) : vp_nar .char (nI n) = nI n := by
  unfold vp_nar
  rw [(pk_charN h).1]
theorem pz_i2c {n : Nat} (h : n < 65536) : ((nI n).toUInt32 % 65536).toInt32 = nI n := by
  rw [pk_char, pk_tn (by omega), Nat.mod_eq_of_lt h]
theorem pz_sub {a b : Nat} (h : b ≤ a) : nI a - nI b = nI (a - b) := pk_sub h
theorem pz_arg (x : Int32) : x < nI 0 ∨ ∃ n : Nat, n < 2 ^ 31 ∧ x = nI n := by
  by_cases h : x < 0
  · exact Or.inl h
  · exact Or.inr (nI_of h)
/-! digits -/
def dg (n : Nat) : List Nat :=
  if n < 10 then [48 + n] else if n < 100 then [48 + n / 10, 48 + n % 10] else if n < 1000 then [48 + n / 100, 48 + n / 10 % 10, 48 + n % 10] else [48 + n / 1000, 48 + n / 100 % 10, 48 + n / 10 % 10, 48 + n % 10]
theorem dg_len (n : Nat) : (dg n).length ≤ 4 := by
  unfold dg
  split
  · simp
  · split
    · simp
    · split <;> simp
theorem dg_len1 {n : Nat} (h : n < 10) : (dg n).length = 1 := by
  unfold dg
  rw [if_pos h]
  rfl
theorem dg_len2 {n : Nat} (h : n < 100) : (dg n).length ≤ 2 := by
  unfold dg
  by_cases e : n < 10
  · rw [if_pos e]; simp
  · rw [if_neg e, if_pos h]; simp
theorem dg_lt {n : Nat} (h : n ≤ 9999) : ∀ c ∈ dg n, c < 128 := by
  intro c hc
  unfold dg at hc
  split at hc
  · simp at hc; omega
  · split at hc
    · simp at hc; omega
    · split at hc
      · simp at hc; omega
      · simp at hc; omega
theorem dg_step {n : Nat} (h1 : 10 ≤ n) (h2 : n ≤ 9999) : dg n = dg (n / 10) ++ [48 + n % 10] := by
  unfold dg
  rw [if_neg (by omega)]
  by_cases a : n < 100
  · rw [if_pos a, if_pos (by omega)]; rfl
  · rw [if_neg a]
    by_cases b : n < 1000
    · rw [if_pos b, if_neg (by omega), if_pos (by omega), show n / 10 / 10 = n / 100 by omega]; rfl
    · rw [if_neg b, if_neg (by omega), if_neg (by omega), if_pos (by omega), show n / 10 / 100 = n / 1000 by omega, show n / 10 / 10 % 10 = n / 100 % 10 by omega]; rfl
