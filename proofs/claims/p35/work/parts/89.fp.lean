/-! The law's two fractions: no NaN comes of them. -/
theorem alike64_eq {x y : UInt64} (h : alike64 x y = true) (hn : isNaN64 y = false) : x = y := by
  unfold alike64 at h
  rw [hn] at h
  simpa using h
theorem alike32_eq {x y : UInt32} (h : alike32 x y = true) (hn : isNaN32 y = false) : x = y := by
  unfold alike32 at h
  rw [hn] at h
  simpa using h
theorem nan32_dec {b : UInt32} (h : isNaN32 b = true) : FP.Core.decode FP.Core.b32 b.toNat = .nan := by
  have h1 := isNaN32_iff.mp h
  have h3 : b.toNat &&& 0x7fffffff = b.toNat % 2 ^ 31 := Nat.and_two_pow_sub_one_eq_mod b.toNat 31
  rw [h3] at h1
  unfold FP.Core.decode
  have e1 : FP.Core.fieldE FP.Core.b32 b.toNat = FP.Core.b32.exps - 1 := by
    show b.toNat / 2 ^ 23 % 2 ^ 8 = 2 ^ 8 - 1
    omega
  have e2 : ¬ FP.Core.fieldT FP.Core.b32 b.toNat = 0 := by
    show ¬ b.toNat % 2 ^ 23 = 0
    omega
  rw [if_pos e1, if_neg e2]
def fpOk (x : FP.Core.Datum) : Prop := (∃ s, x = .inf s) ∨ ∃ s c q, x = .fin s c q ∧ c < 2 ^ 24 ∧ -149 ≤ q ∧ q ≤ 104
theorem fp_bound (s : Bool) {c : Nat} {q : Int} (hc : c < 2 ^ 24) (hq : -149 ≤ q) : fpOk (FP.Core.bound FP.Core.b32 s c q) := by
  unfold FP.Core.bound
  have e : FP.Core.b32.qmax = 104 := by decide
  rw [e]
  by_cases h : q ≤ 104
  · rw [if_pos h]
    exact Or.inr ⟨s, c, q, rfl, hc, hq, h⟩
  · rw [if_neg h]
    exact Or.inl ⟨s, rfl⟩
theorem fp_rr (s : Bool) (num den : Nat) (e : Int) : fpOk (FP.Core.roundRatio FP.Core.b32 s num den e) := by
  unfold FP.Core.roundRatio
  have eq : FP.Core.b32.qmin = -149 := by decide
  by_cases h : num = 0
  · rw [if_pos h, eq]
    exact Or.inr ⟨s, 0, -149, rfl, by decide, by decide, by decide⟩
  · rw [if_neg h]
    have hqm : -149 ≤ FP.Core.quantum FP.Core.b32 num den e := by
      unfold FP.Core.quantum
      rw [eq]
      exact Int.le_max_left _ _
    unfold FP.Core.roundAt FP.Core.settle
    have ep : 2 ^ FP.Core.b32.p = 2 ^ 24 := by decide
    have et : FP.Core.b32.tails = 2 ^ 23 := by decide
    rw [ep, et]
    split
    · exact fp_bound s (by assumption) hqm
    · exact fp_bound s (by decide) (by omega)
theorem fp_dec {x : FP.Core.Datum} (h : fpOk x) : ¬ FP.Core.decode FP.Core.b32 (UInt32.ofNat (FP.Core.encode FP.Core.b32 x)).toNat = .nan := by
  have et : FP.Core.b32.tails = 2 ^ 23 := by decide
  have ee : FP.Core.b32.exps = 256 := by decide
  have eq : FP.Core.b32.qmin = -149 := by decide
  have key : ∀ (s : Bool) (E T : Nat), T < 2 ^ 23 → E < 256 → (E = 255 → T = 0) → ¬ FP.Core.decode FP.Core.b32 (UInt32.ofNat (FP.Core.assemble FP.Core.b32 s E T)).toNat = .nan := by
    intro s E T hT hE hET
    have ea : FP.Core.assemble FP.Core.b32 s E T = (s.toNat * 256 + E) * 2 ^ 23 + T := by
      unfold FP.Core.assemble
      rw [et, ee]
    have hs : s.toNat ≤ 1 := by cases s <;> decide
    have en : (UInt32.ofNat (FP.Core.assemble FP.Core.b32 s E T)).toNat = (s.toNat * 256 + E) * 2 ^ 23 + T := by
      rw [UInt32.toNat_ofNat', ea]
      omega
    rw [en]
    unfold FP.Core.decode FP.Core.fieldE FP.Core.fieldT
    rw [et, ee]
    by_cases h1 : ((s.toNat * 256 + E) * 2 ^ 23 + T) / 2 ^ 23 % 256 = 256 - 1
    · rw [if_pos h1, if_pos (by omega)]
      intro z
      cases z
    · rw [if_neg h1]
      split <;> (intro z; cases z)
  rcases h with ⟨s, rfl⟩ | ⟨s, c, q, rfl, hc, hq1, hq2⟩
  · have e : FP.Core.encode FP.Core.b32 (.inf s) = FP.Core.assemble FP.Core.b32 s 255 0 := by
      unfold FP.Core.encode
      rw [ee]
    rw [e]
    exact key s 255 0 (by decide) (by decide) (fun _ => rfl)
  · have e : FP.Core.encode FP.Core.b32 (.fin s c q) = if c < 2 ^ 23 then FP.Core.assemble FP.Core.b32 s 0 c else FP.Core.assemble FP.Core.b32 s ((q - (-149)).toNat + 1) (c - 2 ^ 23) := by
      unfold FP.Core.encode
      rw [et, eq]
    rw [e]
    split
    · exact key s 0 c (by assumption) (by decide) (fun z => by omega)
    · exact key s _ _ (by omega) (by omega) (fun z => by omega)
def fpChk (k : Nat) : Bool := match FP.Core.decode FP.Core.b32 (FP.Core.i2f (Int32.ofNat k)).toNat with
  | .fin _ c _ => decide (k = 0) || decide (c ≠ 0)
  | _ => false
theorem fp_all : ∀ i, i < 90 → ∀ j, j < 90 → fpChk (90 * i + j) = true := by decide +kernel
theorem fp_i2f {k : Nat} (h : k < 8100) : ∃ s c q, FP.Core.decode FP.Core.b32 (FP.Core.i2f (nI k)).toNat = .fin s c q ∧ (k = 0 ∨ c ≠ 0) := by
  have h1 := fp_all (k / 90) (by omega) (k % 90) (by omega)
  rw [show 90 * (k / 90) + k % 90 = k by omega] at h1
  unfold fpChk at h1
  show ∃ s c q, FP.Core.decode FP.Core.b32 (FP.Core.i2f (Int32.ofNat k)).toNat = .fin s c q ∧ (k = 0 ∨ c ≠ 0)
  cases hd : FP.Core.decode FP.Core.b32 (FP.Core.i2f (Int32.ofNat k)).toNat with
  | nan => rw [hd] at h1; cases h1
  | inf s => rw [hd] at h1; cases h1
  | fin s c q =>
    rw [hd] at h1
    refine ⟨s, c, q, rfl, ?_⟩
    simpa using h1
theorem fp_share {a r : Nat} (ha : a < 8100) (hr : r < 8100) (h0 : 0 < r) : isNaN32 (FP.fdiv (FP.i2f (nI a)) (FP.i2f (nI r))) = false := by
  cases hn : isNaN32 (FP.fdiv (FP.i2f (nI a)) (FP.i2f (nI r))) with
  | false => rfl
  | true =>
    exfalso
    have h1 := nan32_dec hn
    obtain ⟨s, c, q, e1, -⟩ := fp_i2f ha
    obtain ⟨t, d, q2, e2, e3⟩ := fp_i2f hr
    have hd : ¬ d = 0 := by rcases e3 with z | z; omega; exact z
    refine fp_dec (fp_rr (s != t) c d (q - q2)) ?_
    rw [← h1]
    show _ = FP.Core.decode FP.Core.b32 (UInt32.ofNat (FP.Core.encode FP.Core.b32 (FP.Core.quotient FP.Core.b32 (FP.Core.decode FP.Core.b32 (FP.Core.i2f (nI a)).toNat) (FP.Core.decode FP.Core.b32 (FP.Core.i2f (nI r)).toNat)))).toNat
    rw [e1, e2]
    show _ = FP.Core.decode FP.Core.b32 (UInt32.ofNat (FP.Core.encode FP.Core.b32 (if d = 0 then (if c = 0 then .nan else .inf (s != t)) else FP.Core.roundRatio FP.Core.b32 (s != t) c d (q - q2)))).toNat
    rw [if_neg hd]
theorem fp_mean : ∀ k, k < 9 → 0 < k → isNaN64 (FP.ddiv 4645040803167600640 (FP.i2d (nI k))) = false := by decide +kernel
theorem fp_dself {x : UInt64} (h : isNaN64 x = false) : ∀ op, Op.cmpValue (FP.dcmp x x) op = 0 := by
  intro op
  have h2 : FP.dcmp x x = some .eq := by
    show FP.Core.order (FP.Core.decode FP.Core.b64 x.toNat) (FP.Core.decode FP.Core.b64 x.toNat) = _
    cases hd : FP.Core.decode FP.Core.b64 x.toNat with
    | nan =>
      exfalso
      unfold FP.Core.decode at hd
      have et : FP.Core.b64.tails = 2 ^ 52 := by decide
      have ee : FP.Core.b64.exps = 2048 := by decide
      unfold FP.Core.fieldE FP.Core.fieldT at hd
      rw [et, ee] at hd
      have h1 : isNaN64 x = true := by
        rw [isNaN64_iff]
        have h3 : x.toNat &&& 0x7fffffffffffffff = x.toNat % 2 ^ 63 := Nat.and_two_pow_sub_one_eq_mod x.toNat 63
        rw [h3]
        split at hd
        · split at hd
          · cases hd
          · omega
        · split at hd <;> cases hd
      rw [h] at h1
      cases h1
    | inf s => simp [FP.Core.order]
    | fin s c q => simp [FP.Core.order]
  rw [h2]
  rfl
theorem fp_fself {x : UInt32} (h : isNaN32 x = false) : ∀ op, Op.cmpValue (FP.fcmp x x) op = 0 := by
  intro op
  have h2 : FP.fcmp x x = some .eq := by
    show FP.Core.order (FP.Core.decode FP.Core.b32 x.toNat) (FP.Core.decode FP.Core.b32 x.toNat) = _
    cases hd : FP.Core.decode FP.Core.b32 x.toNat with
    | nan =>
      exfalso
      unfold FP.Core.decode at hd
      have et : FP.Core.b32.tails = 2 ^ 23 := by decide
      have ee : FP.Core.b32.exps = 256 := by decide
      unfold FP.Core.fieldE FP.Core.fieldT at hd
      rw [et, ee] at hd
      have h1 : isNaN32 x = true := by
        rw [isNaN32_iff]
        have h3 : x.toNat &&& 0x7fffffff = x.toNat % 2 ^ 31 := Nat.and_two_pow_sub_one_eq_mod x.toNat 31
        rw [h3]
        split at hd
        · split at hd
          · cases hd
          · omega
        · split at hd <;> cases hd
      rw [h] at h1
      cases h1
    | inf s => simp [FP.Core.order]
    | fin s c q => simp [FP.Core.order]
  rw [h2]
  rfl
