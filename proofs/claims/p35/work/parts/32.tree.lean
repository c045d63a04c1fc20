/-! Pure rows: the tree without trees. Node u lies on the way of something that goes left at w just where g w holds, if at every w ahead of u both go the same way. -/
def smK (K : Nat → Nat) (u v : Nat) : Prop := ∀ w, w < u → (K v < K w ↔ K u < K w)
def onK (K : Nat → Nat) (g : Nat → Prop) (u : Nat) : Prop := ∀ w, w < u → (g w ↔ K u < K w)
def chL (K : Nat → Nat) (L : Nat → Int32) (n u : Nat) : Prop :=
  (L u = mI 1 ∧ ∀ v, u < v → v < n → smK K u v → ¬ K v < K u) ∨ ∃ v, L u = nI v ∧ u < v ∧ v < n ∧ smK K u v ∧ K v < K u ∧ ∀ w, u < w → w < v → smK K u w → ¬ K w < K u
def chR (K : Nat → Nat) (R : Nat → Int32) (n u : Nat) : Prop :=
  (R u = mI 1 ∧ ∀ v, u < v → v < n → smK K u v → ¬ K u < K v) ∨ ∃ v, R u = nI v ∧ u < v ∧ v < n ∧ smK K u v ∧ K u < K v ∧ ∀ w, u < w → w < v → smK K u w → ¬ K u < K w
def treeK (K : Nat → Nat) (L R : Nat → Int32) (n : Nat) : Prop := ∀ u, u < n → chL K L n u ∧ chR K R n u
def injK (K : Nat → Nat) (n : Nat) : Prop := ∀ a b, a < n → b < n → K a = K b → a = b
def moK (K : Nat → Nat) (g : Nat → Prop) : Prop := ∀ w w', g w → K w < K w' → g w'
theorem off_left {K : Nat → Nat} {g : Nat → Prop} {u w : Nat} (hu : onK K g u) (gu : g u) (huw : u < w) (hw : onK K g w) : smK K u w ∧ K w < K u :=
  ⟨fun z hz => ⟨fun h => (hu z hz).mp ((hw z (by omega)).mpr h), fun h => (hw z (by omega)).mp ((hu z hz).mpr h)⟩, (hw u huw).mp gu⟩
theorem off_right {K : Nat → Nat} {g : Nat → Prop} {n u w : Nat} (hi : injK K n) (hwn : w < n) (hu : onK K g u) (gu : ¬ g u) (huw : u < w) (hw : onK K g w) : smK K u w ∧ K u < K w := by
  refine ⟨fun z hz => ⟨fun h => (hu z hz).mp ((hw z (by omega)).mpr h), fun h => (hw z (by omega)).mp ((hu z hz).mpr h)⟩, ?_⟩
  have h1 : ¬ K w < K u := fun h => gu ((hw u huw).mpr h)
  have h2 : K w ≠ K u := fun h => by have := hi w u hwn (by omega) h; omega
  omega
theorem on_left {K : Nat → Nat} {g : Nat → Prop} {n u v : Nat} (hi : injK K n) (hg : moK K g) (hu : onK K g u) (gu : g u) (huv : u < v) (hvn : v < n) (hs : smK K u v) (hk : K v < K u) (hm : ∀ w, u < w → w < v → smK K u w → ¬ K w < K u) : onK K g v := by
  intro w hw
  by_cases h1 : w < u
  · exact (hu w h1).trans (hs w h1).symm
  by_cases h2 : w = u
  · subst h2
    exact ⟨fun _ => hk, fun _ => gu⟩
  have h3 : u < w := by omega
  have hne : K w ≠ K u := fun h => by have := hi w u (by omega) (by omega) h; omega
  have hnv : K w ≠ K v := fun h => by have := hi w v (by omega) (by omega) h; omega
  by_cases h4 : K w < K u
  · have h5 : ¬ smK K u w := fun h => hm w h3 hw h h4
    obtain ⟨z, hz⟩ := Classical.not_forall.mp h5
    obtain ⟨hzu, hz⟩ := Classical.not_imp.mp hz
    have hsz := hs z hzu
    have huz := hu z hzu
    have h6 : K w < K z ∧ ¬ K u < K z := by
      by_cases h7 : K u < K z
      · exact absurd ⟨fun _ => h7, fun _ => by omega⟩ hz
      · refine ⟨?_, h7⟩
        by_cases h8 : K w < K z
        · exact h8
        · exact absurd ⟨fun h => absurd h h8, fun h => absurd h h7⟩ hz
    have h9 : ¬ K v < K z := fun h => h6.2 (hsz.mp h)
    constructor
    · intro hgw
      exact absurd (huz.mp (hg w z hgw h6.1)) h6.2
    · intro h
      omega
  · exact ⟨fun _ => by omega, fun _ => hg u w gu (by omega)⟩
theorem on_right {K : Nat → Nat} {g : Nat → Prop} {n u v : Nat} (hi : injK K n) (hg : moK K g) (hu : onK K g u) (gu : ¬ g u) (huv : u < v) (hvn : v < n) (hs : smK K u v) (hk : K u < K v) (hm : ∀ w, u < w → w < v → smK K u w → ¬ K u < K w) : onK K g v := by
  intro w hw
  by_cases h1 : w < u
  · exact (hu w h1).trans (hs w h1).symm
  by_cases h2 : w = u
  · subst h2
    exact ⟨fun h => absurd h gu, fun h => by omega⟩
  have h3 : u < w := by omega
  have hne : K w ≠ K u := fun h => by have := hi w u (by omega) (by omega) h; omega
  have hnv : K w ≠ K v := fun h => by have := hi w v (by omega) (by omega) h; omega
  by_cases h4 : K u < K w
  · have h5 : ¬ smK K u w := fun h => hm w h3 hw h h4
    obtain ⟨z, hz⟩ := Classical.not_forall.mp h5
    obtain ⟨hzu, hz⟩ := Classical.not_imp.mp hz
    have hsz := hs z hzu
    have huz := hu z hzu
    have h6 : ¬ K w < K z ∧ K u < K z := by
      by_cases h7 : K u < K z
      · refine ⟨fun h8 => hz ⟨fun _ => h7, fun _ => h8⟩, h7⟩
      · exact absurd ⟨fun h => by omega, fun h => absurd h h7⟩ hz
    have h9 : K v < K z := hsz.mpr h6.2
    have h10 : g z := huz.mpr h6.2
    have hzw : K z ≠ K w := fun h => by have := hi z w (by omega) (by omega) h; omega
    exact ⟨fun _ => by omega, fun _ => hg z w h10 (by omega)⟩
  · constructor
    · intro hgw
      exact absurd (hg w u hgw (by omega)) gu
    · intro h
      omega
theorem step_left {K : Nat → Nat} {L : Nat → Int32} {g : Nat → Prop} {n u : Nat} (hi : injK K n) (hg : moK K g) (hc : chL K L n u) (hu : onK K g u) (gu : g u) :
    (L u = mI 1 ∧ ∀ w, u < w → w < n → ¬ onK K g w) ∨ ∃ v, L u = nI v ∧ u < v ∧ v < n ∧ onK K g v ∧ ∀ w, u < w → w < v → ¬ onK K g w := by
  rcases hc with ⟨h1, h2⟩ | ⟨v, h1, h2, h3, h4, h5, h6⟩
  · left
    refine ⟨h1, fun w hw hwn ho => ?_⟩
    obtain ⟨a, b⟩ := off_left hu gu hw ho
    exact h2 w hw hwn a b
  · right
    refine ⟨v, h1, h2, h3, on_left hi hg hu gu h2 h3 h4 h5 h6, fun w hw hwv ho => ?_⟩
    obtain ⟨a, b⟩ := off_left hu gu hw ho
    exact h6 w hw hwv a b
theorem step_right {K : Nat → Nat} {R : Nat → Int32} {g : Nat → Prop} {n u : Nat} (hi : injK K n) (hg : moK K g) (hc : chR K R n u) (hu : onK K g u) (gu : ¬ g u) :
    (R u = mI 1 ∧ ∀ w, u < w → w < n → ¬ onK K g w) ∨ ∃ v, R u = nI v ∧ u < v ∧ v < n ∧ onK K g v ∧ ∀ w, u < w → w < v → ¬ onK K g w := by
  rcases hc with ⟨h1, h2⟩ | ⟨v, h1, h2, h3, h4, h5, h6⟩
  · left
    refine ⟨h1, fun w hw hwn ho => ?_⟩
    obtain ⟨a, b⟩ := off_right hi hwn hu gu hw ho
    exact h2 w hw hwn a b
  · right
    refine ⟨v, h1, h2, h3, on_right hi hg hu gu h2 h3 h4 h5 h6, fun w hw hwv ho => ?_⟩
    obtain ⟨a, b⟩ := off_right hi (by omega) hu gu hw ho
    exact h6 w hw hwv a b
/-- how many nodes ahead of u lie on the way -/
noncomputable def cK (K : Nat → Nat) (g : Nat → Prop) : Nat → Nat
  | 0 => 0
  | u + 1 => cK K g u + @ite _ (onK K g u) (Classical.propDecidable _) 1 0
theorem cK_le (K : Nat → Nat) (g : Nat → Prop) (u : Nat) : cK K g u ≤ u := by
  induction u with
  | zero => exact Nat.le_refl _
  | succ u ih =>
    show cK K g u + _ ≤ _
    split <;> omega
theorem cK_gap {K : Nat → Nat} {g : Nat → Prop} {u : Nat} (hu : onK K g u) : ∀ v, u < v → (∀ w, u < w → w < v → ¬ onK K g w) → cK K g v = cK K g u + 1 := by
  intro v
  induction v with
  | zero => intro h; omega
  | succ v ih =>
    intro h1 h2
    show cK K g v + _ = _
    by_cases e : u = v
    · subst e
      rw [if_pos hu]
    · rw [if_neg (h2 v (by omega) (by omega)), ih (by omega) (fun w a b => h2 w a (by omega))]
theorem onK_0 (K : Nat → Nat) (g : Nat → Prop) : onK K g 0 := fun w h => absurd h (Nat.not_lt_zero _)
/-- the node n comes into the tree, below u -/
theorem tree_ins {K : Nat → Nat} {L R L' R' : Nat → Int32} {n u : Nat} (h31 : n < 2 ^ 31) (hi : injK K (n + 1)) (ht : treeK K L R n) (hun : u < n) (hu : onK K (fun w => K n < K w) u) (hno : ∀ w, u < w → w < n → ¬ onK K (fun w => K n < K w) w)
    (hl : K n < K u → L u = mI 1 ∧ L' u = nI n ∧ R' u = R u) (hr : ¬ K n < K u → R u = mI 1 ∧ R' u = nI n ∧ L' u = L u) (hLn : L' n = mI 1) (hRn : R' n = mI 1) (ho : ∀ w, w < n → w ≠ u → L' w = L w ∧ R' w = R w) : treeK K L' R' (n + 1) := by
  have hnu : K u ≠ K n := fun h => by have := hi u n (by omega) (by omega) h; omega
  have hin : injK K n := fun a b ha hb h => hi a b (by omega) (by omega) h
  have hsm : ∀ w, smK K w n ↔ onK K (fun w => K n < K w) w := fun w => Iff.rfl
  have keepL : ∀ w, w < n → L' w = L w → (w = u → ¬ K n < K u) → chL K L' (n + 1) w := by
    intro w hw e hwu
    rcases (ht w hw).1 with ⟨h1, h2⟩ | ⟨v, h1, h2, h3, h4, h5, h6⟩
    · left
      refine ⟨by rw [e, h1], fun v a b c k => ?_⟩
      by_cases hv : v < n
      · exact h2 v a hv c k
      · have hvn : v = n := by omega
        subst hvn
        by_cases hwe : w = u
        · exact hwu hwe (by rw [← hwe]; exact k)
        · have h7 : w < u := by
            by_cases h8 : u < w
            · exact absurd ((hsm w).mp c) (hno w h8 hw)
            · omega
          obtain ⟨p1, p2⟩ := off_left (g := fun w => K v < K w) ((hsm w).mp c) k h7 hu
          exact h2 u h7 hun p1 p2
    · right
      exact ⟨v, by rw [e, h1], h2, by omega, h4, h5, h6⟩
  have keepR : ∀ w, w < n → R' w = R w → (w = u → K n < K u) → chR K R' (n + 1) w := by
    intro w hw e hwu
    rcases (ht w hw).2 with ⟨h1, h2⟩ | ⟨v, h1, h2, h3, h4, h5, h6⟩
    · left
      refine ⟨by rw [e, h1], fun v a b c k => ?_⟩
      by_cases hv : v < n
      · exact h2 v a hv c k
      · have hvn : v = n := by omega
        subst hvn
        by_cases hwe : w = u
        · have := hwu hwe
          rw [hwe] at k
          omega
        · have h7 : w < u := by
            by_cases h8 : u < w
            · exact absurd ((hsm w).mp c) (hno w h8 hw)
            · omega
          obtain ⟨p1, p2⟩ := off_right (n := v) (g := fun w => K v < K w) hin hun ((hsm w).mp c) (show ¬ K v < K w by omega) h7 hu
          exact h2 u h7 hun p1 p2
    · right
      exact ⟨v, by rw [e, h1], h2, by omega, h4, h5, h6⟩
  intro w hw
  by_cases hwn : w = n
  · subst hwn
    exact ⟨Or.inl ⟨hLn, fun v a b => by omega⟩, Or.inl ⟨hRn, fun v a b => by omega⟩⟩
  have hw' : w < n := by omega
  by_cases hwu : w = u
  · subst hwu
    by_cases hk : K n < K w
    · obtain ⟨a, b, c⟩ := hl hk
      refine ⟨Or.inr ⟨n, b, hw', by omega, (hsm w).mpr hu, hk, fun z hz1 hz2 hz3 hz4 => ?_⟩, keepR w hw' c (fun _ => hk)⟩
      rcases (ht w hw').1 with ⟨h1, h2⟩ | ⟨v, h1, h2, h3, h4, h5, h6⟩
      · exact h2 z hz1 hz2 hz3 hz4
      · rw [h1] at a
        exact absurd a (pz_nm (by omega) (by omega) (by omega))
    · obtain ⟨a, b, c⟩ := hr hk
      refine ⟨keepL w hw' c (fun _ => hk), Or.inr ⟨n, b, hw', by omega, (hsm w).mpr hu, by omega, fun z hz1 hz2 hz3 hz4 => ?_⟩⟩
      rcases (ht w hw').2 with ⟨h1, h2⟩ | ⟨v, h1, h2, h3, h4, h5, h6⟩
      · exact h2 z hz1 hz2 hz3 hz4
      · rw [h1] at a
        exact absurd a (pz_nm (by omega) (by omega) (by omega))
  · obtain ⟨a, b⟩ := ho w hw' hwu
    exact ⟨keepL w hw' a (fun h => absurd h hwu), keepR w hw' b (fun h => absurd h hwu)⟩
/-- among the nodes at which it goes left, the lowest lies on the way -/
theorem mn_on {K : Nat → Nat} {g : Nat → Prop} {n : Nat} (hi : injK K n) (hg : moK K g) : ∀ k i, i < n → g i → K i ≤ k → ∃ w, w < n ∧ onK K g w ∧ g w ∧ K w ≤ K i := by
  intro k
  induction k with
  | zero =>
    intro i hin gi hk
    refine ⟨i, hin, fun w hw => ⟨fun gw => ?_, fun h => hg i w gi h⟩, gi, Nat.le_refl _⟩
    have : K w ≠ K i := fun h => by have := hi w i (by omega) hin h; omega
    omega
  | succ k ih =>
    intro i hin gi hk
    by_cases h : onK K g i
    · exact ⟨i, hin, h, gi, Nat.le_refl _⟩
    · obtain ⟨z, hz⟩ := Classical.not_forall.mp h
      obtain ⟨hzi, hz⟩ := Classical.not_imp.mp hz
      have hne : K z ≠ K i := fun h => by have := hi z i (by omega) hin h; omega
      by_cases hlt : K i < K z
      · exact absurd ⟨fun _ => hlt, fun _ => hg i z gi hlt⟩ hz
      · by_cases gz : g z
        · obtain ⟨w, a, b, c, e⟩ := ih z (by omega) gz (by omega)
          exact ⟨w, a, b, c, by omega⟩
        · exact absurd ⟨fun h => absurd h gz, fun h => absurd h hlt⟩ hz
