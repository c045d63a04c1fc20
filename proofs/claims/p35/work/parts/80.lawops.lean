/-! The law: what acts and build leave, orders on the ring. -/
theorem ushr3_ex (x : Int32) : ∃ m, m < 2 ^ 29 ∧ ushr3 x = nI m := by
  have h : (ushr3 x).toBitVec.toNat = x.toBitVec.toNat / 2 ^ 3 := pk_ushr x 3 3 (by decide)
  have h2 : x.toBitVec.toNat < 2 ^ 32 := x.toBitVec.isLt
  refine ⟨x.toBitVec.toNat / 2 ^ 3, by omega, ?_⟩
  apply Int32.toBitVec_inj.mp
  apply BitVec.eq_of_toNat_eq
  show _ = (Int32.ofNat _).toBitVec.toNat
  rw [Int32.toBitVec_ofNat', BitVec.toNat_ofNat, h]
  omega
theorem sm_ex {bL : Nat} (hb : bL < 2 ^ 31) (xs : Nat → Int32) {k n : Nat} (hk : k < 2 ^ 31) (h0 : 0 < n) (hn : n < 2 ^ 31) : ∃ v, v < n ∧ fL_some bL xs (nI k) (nI n) = some (nI v) := by
  obtain ⟨c, hc⟩ : ∃ c, fL_cell bL xs (nI k) = some c := by
    unfold fL_cell
    by_cases h : Int32.ofNat bL ≤ nI k
    · exact ⟨_, if_pos h⟩
    · rw [if_neg h]
      have h2 : k < bL := by
        by_cases h3 : k < bL
        · exact h3
        · exact absurd (nI_le (a := bL) (b := k) (by omega) hk) h
      exact ⟨_, pz_gd h2 hk⟩
  obtain ⟨m, hm, em⟩ := ushr3_ex c
  refine ⟨m % n, Nat.mod_lt _ h0, ?_⟩
  unfold fL_some
  rw [hc, pz_bd, pz_gz h0 hn, em, pz_rem (by omega) h0 hn]
theorem sd_acts {bL : Nat} (hb : bL < 2 ^ 31) (xs : Nat → Int32) {σ σM : St} {d : HD} (hR : allD σ σM d) (h1 : 1 ≤ dP d) {k : Nat} (hk : k < 1000) : ∃ σ' σM' d', fL_acts bL xs σ (nI k) = some σ' ∧ allD σ' σM' d' ∧ 1 ≤ dP d' := by
  have hC : CX σ d := (CI.of hR).1
  have h8 := hC.1.1
  have h24 := hC.1.2.1
  have e6 : (6 : Int32) = nI 6 := by decide
  unfold fL_acts
  rw [cq_a0 hC, pz_bd, cq_a3 hC, pz_bd]
  simp only [pz_n0, pz_n1, pz_n2, pz_n3, pz_n4, pz_n5, e6, pz_n7, pz_n9, pz_n9999, nI_add]
  obtain ⟨p, hp, ep⟩ := sm_ex hb xs (k := k + 1) (n := dP d) (by omega) (by omega) (by omega)
  have em : (if nI 1 < nI (dB d) then nI (dB d) else nI 1) = nI (if 1 < dB d then dB d else 1) := nI_max2 (by omega) (by omega)
  have hmx : 0 < (if 1 < dB d then dB d else 1) ∧ (if 1 < dB d then dB d else 1) < 2 ^ 31 := by split <;> omega
  rw [em]
  obtain ⟨b, hb2, eb⟩ := sm_ex hb xs (k := k + 2) (n := if 1 < dB d then dB d else 1) (by omega) hmx.1 hmx.2
  obtain ⟨v, hv, ev⟩ := sm_ex hb xs (k := k + 3) (n := 5) (by omega) (by omega) (by omega)
  obtain ⟨c, hc, ec⟩ := sm_ex hb xs (k := k) (n := 9) (by omega) (by omega) (by omega)
  rw [ep, pz_bd, eb, pz_bd, ev, pz_bd, ec, pz_bd]
  have fin_ : ∀ {x : Option (Int32 × St)}, (∃ r σX' σM' d', x = some (r, σX') ∧ allD σX' σM' d' ∧ dP d ≤ dP d') → ∃ σ' σM' d', (bd x fun r9 => some r9.2) = some σ' ∧ allD σ' σM' d' ∧ 1 ≤ dP d' := by
    rintro x ⟨r, σX', σM', d', rfl, h2, h3⟩
    exact ⟨σX', σM', d', rfl, h2, by omega⟩
  rcases (show c = 0 ∨ c = 1 ∨ c = 2 ∨ c = 3 ∨ c = 4 ∨ c = 5 ∨ c = 6 ∨ c = 7 ∨ c = 8 by omega) with rfl | rfl | rfl | rfl | rfl | rfl | rfl | rfl | rfl
  · rw [if_pos rfl]
    by_cases h7 : nI 7 ≤ nI (dP d)
    · rw [if_pos h7]
      exact ⟨σ, σM, d, rfl, hR, h1⟩
    · rw [if_neg h7]
      obtain ⟨r, σX', σM', d', a1, a2, a3, a4⟩ := sd_pier hR (nI 1 + nI v)
      exact fin_ ⟨r, σX', σM', d', a1, a2, a3⟩
  · rw [if_neg (show ¬ nI 1 = nI 0 by decide), if_pos rfl]
    exact fin_ (sd_close hR _)
  · rw [if_neg (show ¬ nI 2 = nI 0 by decide), if_neg (show ¬ nI 2 = nI 1 by decide), if_pos rfl]
    exact fin_ (sd_close hR _)
  · rw [if_neg (show ¬ nI 3 = nI 0 by decide), if_neg (show ¬ nI 3 = nI 1 by decide), if_neg (show ¬ nI 3 = nI 2 by decide), if_pos rfl]
    exact fin_ (sd_open hR _)
  · rw [if_neg (show ¬ nI 4 = nI 0 by decide), if_neg (show ¬ nI 4 = nI 1 by decide), if_neg (show ¬ nI 4 = nI 2 by decide), if_neg (show ¬ nI 4 = nI 3 by decide), if_pos rfl]
    exact fin_ (sd_weigh hR _ _)
  · rw [if_neg (show ¬ nI 5 = nI 0 by decide), if_neg (show ¬ nI 5 = nI 1 by decide), if_neg (show ¬ nI 5 = nI 2 by decide), if_neg (show ¬ nI 5 = nI 3 by decide), if_neg (show ¬ nI 5 = nI 4 by decide), if_pos rfl]
    obtain ⟨w, hw, ew⟩ := sm_ex hb xs (k := k + 2) (n := 9999) (by omega) (by omega) (by omega)
    rw [ew, pz_bd]
    exact fin_ (sd_barge hR _ _)
  · rw [if_neg (show ¬ nI 6 = nI 0 by decide), if_neg (show ¬ nI 6 = nI 1 by decide), if_neg (show ¬ nI 6 = nI 2 by decide), if_neg (show ¬ nI 6 = nI 3 by decide), if_neg (show ¬ nI 6 = nI 4 by decide), if_neg (show ¬ nI 6 = nI 5 by decide), if_pos rfl]
    exact fin_ (sd_leave hR _)
  · rw [if_neg (show ¬ nI 7 = nI 0 by decide), if_neg (show ¬ nI 7 = nI 1 by decide), if_neg (show ¬ nI 7 = nI 2 by decide), if_neg (show ¬ nI 7 = nI 3 by decide), if_neg (show ¬ nI 7 = nI 4 by decide), if_neg (show ¬ nI 7 = nI 5 by decide), if_neg (show ¬ nI 7 = nI 6 by decide), if_pos rfl]
    exact fin_ (sd_load hR _ _)
  · rw [if_neg (show ¬ nI 8 = nI 0 by decide), if_neg (show ¬ nI 8 = nI 1 by decide), if_neg (show ¬ nI 8 = nI 2 by decide), if_neg (show ¬ nI 8 = nI 3 by decide), if_neg (show ¬ nI 8 = nI 4 by decide), if_neg (show ¬ nI 8 = nI 5 by decide), if_neg (show ¬ nI 8 = nI 6 by decide), if_neg (show ¬ nI 8 = nI 7 by decide)]
    exact fin_ (sd_berth hR _)
theorem build_L2 {bL : Nat} (hb : bL < 2 ^ 31) (xs : Nat → Int32) {K : St → Option St} {P : Option St → Prop} (hK : ∀ σ σM d, allD σ σM d → 1 ≤ dP d → P (K σ)) {σ σM : St} {d : HD} (h : allD σ σM d) : P (fL_build_L2 bL xs K 1000 σ (nI 0)) := by
  obtain ⟨r, hr, er⟩ := sm_ex hb xs (k := 0) (n := 4) (by omega) (by omega) (by omega)
  refine pz_loop (F := fun n σ i => fL_build_L2 bL xs K n σ (nI i)) (P := P) (fun i σ => ∃ σM d, allD σ σM d ∧ (1 ≤ i → 1 ≤ dP d)) (2 + r) ?_ ?_ (2 + r) 0 σ 1000 (by omega) (by omega) ⟨σM, d, h, fun h => by omega⟩
  · rintro n σ ⟨σM, d, h, h1⟩
    show P (fL_build_L2 bL xs K (n + 1) σ (nI (2 + r)))
    rw [fL_build_L2, pz_n0, pz_n4, er, pz_bd, pz_n2, nI_add, if_pos (nI_le (Nat.le_refl _) (by omega))]
    exact hK σ σM d h (h1 (by omega))
  · rintro n i σ hi ⟨σM, d, h, h1⟩
    right
    obtain ⟨v, hv, ev⟩ := sm_ex hb xs (k := 1 + i) (n := 3) (by omega) (by omega) (by omega)
    obtain ⟨q, σ', σM', d', e1, e2, e3, e4⟩ := sd_pier h (nI (1 + v))
    refine ⟨σ', ⟨σM', d', e2, fun _ => ?_⟩, ?_⟩
    · by_cases h8 : dP d < 8
      · have := e4 (1 + v) (by omega) (by omega) rfl h8
        omega
      · omega
    · show fL_build_L2 bL xs K (n + 1) σ (nI i) = fL_build_L2 bL xs K n σ' (nI (i + 1))
      rw [fL_build_L2, pz_n0, pz_n4, er, pz_bd, pz_n2, nI_add, if_neg (nI_ge hi (by omega)), pz_n1, nI_add, pz_n3, ev, pz_bd, nI_add, e1, pz_bd, pz_nm_, nI_add]
theorem build_L37 {bL : Nat} (hb : bL < 2 ^ 31) (xs : Nat → Int32) {K : St → Option St} {P : Option St → Prop} (hK : ∀ σ σM d, allD σ σM d → 1 ≤ dP d → P (K σ)) {σ σM : St} {d : HD} (h : allD σ σM d) (h1 : 1 ≤ dP d) : P (fL_build_L37 bL xs K 1000 σ (nI 0)) := by
  have e6 : (6 : Int32) = nI 6 := by decide
  have e22 : (22 : Int32) = nI 22 := by decide
  have e400 : (400 : Int32) = nI 400 := by decide
  obtain ⟨r, hr, er⟩ := sm_ex hb xs (k := 7) (n := 8) (by omega) (by omega) (by omega)
  refine pz_loop (F := fun n σ i => fL_build_L37 bL xs K n σ (nI i)) (P := P) (fun i σ => ∃ σM d, allD σ σM d ∧ 1 ≤ dP d) (6 + r) ?_ ?_ (6 + r) 0 σ 1000 (by omega) (by omega) ⟨σM, d, h, h1⟩
  · rintro n σ ⟨σM, d, h, h1⟩
    show P (fL_build_L37 bL xs K (n + 1) σ (nI (6 + r)))
    rw [fL_build_L37, pz_n7, pz_n8, er, pz_bd, e6, nI_add, if_pos (nI_le (Nat.le_refl _) (by omega))]
    exact hK σ σM d h h1
  · rintro n i σ hi ⟨σM, d, h, h1⟩
    right
    obtain ⟨v, hv, ev⟩ := sm_ex hb xs (k := 8 + i) (n := 400) (by omega) (by omega) (by omega)
    obtain ⟨w, hw, ew⟩ := sm_ex hb xs (k := 22 + i) (n := 60) (by omega) (by omega) (by omega)
    obtain ⟨q, σ', σM', d', e1, e2, e3⟩ := sd_barge h (nI v) (nI 1 + nI w)
    refine ⟨σ', ⟨σM', d', e2, by omega⟩, ?_⟩
    show fL_build_L37 bL xs K (n + 1) σ (nI i) = fL_build_L37 bL xs K n σ' (nI (i + 1))
    rw [fL_build_L37, pz_n7, pz_n8, er, pz_bd, e6, nI_add, if_neg (nI_ge hi (by omega)), nI_add, e400, ev, pz_bd, e22, nI_add, pz_n60, ew, pz_bd, pz_n1, e1, pz_bd, pz_nm_, nI_add]
theorem build_L114 {bL : Nat} (hb : bL < 2 ^ 31) (xs : Nat → Int32) {K : St → Option St} {P : Option St → Prop} (hK : ∀ σ σM d, allD σ σM d → 1 ≤ dP d → P (K σ)) {σ σM : St} {d : HD} (h : allD σ σM d) (h1 : 1 ≤ dP d) : P (fL_build_L114 bL xs K 1000 σ (nI 0)) := by
  have e38 : (38 : Int32) = nI 38 := by decide
  refine pz_loop (F := fun n σ i => fL_build_L114 bL xs K n σ (nI i)) (P := P) (fun i σ => ∃ σM d, allD σ σM d ∧ 1 ≤ dP d) 4 ?_ ?_ 4 0 σ 1000 (by omega) (by omega) ⟨σM, d, h, h1⟩
  · rintro n σ ⟨σM, d, h, h1⟩
    show P (fL_build_L114 bL xs K (n + 1) σ (nI 4))
    rw [fL_build_L114, pz_n4, if_pos (nI_le (Nat.le_refl _) (by omega))]
    exact hK σ σM d h h1
  · rintro n i σ hi ⟨σM, d, h, h1⟩
    right
    obtain ⟨σ', σM', d', e1, e2, e3⟩ := sd_acts hb xs h h1 (k := 38 + 4 * i) (by omega)
    refine ⟨σ', ⟨σM', d', e2, e3⟩, ?_⟩
    show fL_build_L114 bL xs K (n + 1) σ (nI i) = fL_build_L114 bL xs K n σ' (nI (i + 1))
    rw [fL_build_L114, pz_n4, if_neg (nI_ge hi (by omega)), e38, pk_mul, nI_add, e1, pz_bd, pz_n1, pz_nm_, nI_add]
theorem sd_build {bL : Nat} (hb : bL < 2 ^ 31) (xs : Nat → Int32) {σ σM : St} {d : HD} (h : allD σ σM d) : ∃ σ' σM' d', fL_build bL xs σ = some σ' ∧ allD σ' σM' d' ∧ 1 ≤ dP d' := by
  have e36 : (36 : Int32) = nI 36 := by decide
  have e100 : (100 : Int32) = nI 100 := by decide
  unfold fL_build
  rw [pz_n0]
  refine build_L2 hb xs (P := fun o => ∃ σ' σM' d', o = some σ' ∧ allD σ' σM' d' ∧ 1 ≤ dP d') ?_ h
  intro σ σM d h h1
  show ∃ σ' σM' d', fL_build_B35 bL xs σ = some σ' ∧ allD σ' σM' d' ∧ 1 ≤ dP d'
  unfold fL_build_B35
  rw [pz_n0]
  refine build_L37 hb xs (P := fun o => ∃ σ' σM' d', o = some σ' ∧ allD σ' σM' d' ∧ 1 ≤ dP d') ?_ h h1
  intro σ σM d h h1
  show ∃ σ' σM' d', fL_build_B86 bL xs σ = some σ' ∧ allD σ' σM' d' ∧ 1 ≤ dP d'
  have last : ∀ σ σM d, allD σ σM d → 1 ≤ dP d → ∃ σ' σM' d', fL_build_B112 bL xs σ = some σ' ∧ allD σ' σM' d' ∧ 1 ≤ dP d' := by
    intro σ σM d h h1
    unfold fL_build_B112
    rw [pz_n0]
    refine build_L114 hb xs (P := fun o => ∃ σ' σM' d', o = some σ' ∧ allD σ' σM' d' ∧ 1 ≤ dP d') ?_ h h1
    intro σ σM d h h1
    exact ⟨σ, σM, d, rfl, h, h1⟩
  obtain ⟨r, hr, er⟩ := sm_ex hb xs (k := 36) (n := 3) (by omega) (by omega) (by omega)
  unfold fL_build_B86
  rw [e36, pz_n3, er, pz_bd]
  by_cases h0 : nI r = 0
  · rw [if_pos h0]
    obtain ⟨v, hv, ev⟩ := sm_ex hb xs (k := 37) (n := 100) (by omega) (by omega) (by omega)
    obtain ⟨q, σ', σM', d', e1, e2, e3⟩ := sd_berth h (10 + nI v)
    rw [pz_n37, e100, ev, pz_bd, e1, pz_bd]
    exact last σ' σM' d' e2 (by omega)
  · rw [if_neg h0]
    exact last σ σM d h h1
/-- when a point was put in: by the piers, then by its number -/
def ordD (d : HD) (i : Nat) : Nat := 10 * (paD d i % 8) + jqD (paD d i)
theorem ordD_lt (d : HD) (i : Nat) : ordD d i < 115 := by
  unfold ordD
  have := jqD_lt (paD d i)
  omega
theorem cq_order {σ : St} {d : HD} (hC : CX σ d) {i : Nat} (hi : i < cntD d) : fL_order σ (nI i) = some (nI (ordD d i)) := by
  unfold fL_order
  rw [cq_r1 hC hi, pz_bd, cq_r2 hC hi, pz_bd, pz_n10, pk_mul, nI_add]
  rfl
/-- none between u and v, or v itself, was put in ahead of u -/
def nearD (d : HD) (u v : Nat) : Bool := decide (∀ k, k < cntD d → min u v ≤ k → k ≤ max u v → ¬ ordD d k < ordD d u)
theorem cq_near {σ : St} {d : HD} (hC : CX σ d) {u v : Nat} (hu : u < cntD d) (hv : v < cntD d) : fL_isNearest σ (nI u) (nI v) = some (bI (nearD d u v)) := by
  have h80 := cntD_le hC.1
  unfold fL_isNearest
  rw [cq_order hC hu, pz_bd, pz_nm_]
  have emin : (if nI v < nI u then nI v else nI u) = nI (min u v) := by
    by_cases h : v < u
    · rw [if_pos (nI_lt h (by omega)), Nat.min_eq_right (by omega)]
    · rw [if_neg (nI_nlt (by omega) (by omega)), Nat.min_eq_left (by omega)]
  have emax : (if nI u < nI v then nI v else nI u) = nI (max u v) := by
    by_cases h : u < v
    · rw [if_pos (nI_lt h (by omega)), Nat.max_eq_right (by omega)]
    · rw [if_neg (nI_nlt (by omega) (by omega)), Nat.max_eq_left (by omega)]
  rw [emin]
  have hmx : max u v < cntD d := Nat.max_lt.mpr ⟨hu, hv⟩
  have hmn : min u v ≤ max u v := Nat.le_trans (Nat.min_le_left _ _) (Nat.le_max_left _ _)
  refine pz_loop (F := fun n (_ : Unit) i => fL_isNearest_L13 σ (nI u) (nI v) (nI (ordD d u)) (fL_isNearest_B47 σ) n (nI i)) (P := fun o => o = some (bI (nearD d u v))) (fun i _ => min u v ≤ i ∧ ∀ k, k < cntD d → min u v ≤ k → k < i → ¬ ordD d k < ordD d u) (max u v + 1) ?_ ?_ (max u v + 1 - min u v) (min u v) () 1000 (by omega) (by omega) ⟨Nat.le_refl _, fun k _ h1 h2 => by omega⟩
  · rintro n _ ⟨-, h⟩
    show fL_isNearest_L13 σ (nI u) (nI v) (nI (ordD d u)) (fL_isNearest_B47 σ) (n + 1) (nI (max u v + 1)) = _
    rw [fL_isNearest_L13, emax, if_pos (nI_lt (by omega) (by omega))]
    have : nearD d u v = true := decide_eq_true (fun k hk h1 h2 => h k hk h1 (by omega))
    rw [this]
    rfl
  · rintro n i _ hi ⟨h0, h⟩
    show fL_isNearest_L13 σ (nI u) (nI v) (nI (ordD d u)) (fL_isNearest_B47 σ) (n + 1) (nI i) = _ ∨ ∃ b' : Unit, _ ∧ fL_isNearest_L13 σ (nI u) (nI v) (nI (ordD d u)) (fL_isNearest_B47 σ) (n + 1) (nI i) = fL_isNearest_L13 σ (nI u) (nI v) (nI (ordD d u)) (fL_isNearest_B47 σ) n (nI (i + 1))
    rw [fL_isNearest_L13, emax, if_neg (nI_nlt (by omega) (by omega)), pz_n1, pz_nm_, nI_add]
    by_cases e : i = u
    · right
      refine ⟨(), ⟨by omega, fun k hk h1 h2 => ?_⟩, by rw [if_pos (by rw [e])]⟩
      by_cases hki : k = i
      · rw [hki, e]; exact Nat.lt_irrefl _
      · exact h k hk h1 (by omega)
    · rw [if_neg (fun z => e ((nI_eq (by omega) (by omega)).mp z)), cq_order hC (by omega), pz_bd]
      have l1 := ordD_lt d i
      have l2 := ordD_lt d u
      by_cases ho : ordD d i < ordD d u
      · left
        rw [if_neg (nI_ge ho (by omega))]
        have : nearD d u v = false := by
          refine decide_eq_false (fun z => ?_)
          exact z i (by omega) h0 (by omega) ho
        rw [this]
        rfl
      · right
        refine ⟨(), ⟨by omega, fun k hk h1 h2 => ?_⟩, by rw [if_pos (nI_le (by omega) (by omega))]⟩
        by_cases hki : k = i
        · rw [hki]; exact ho
        · exact h k hk h1 (by omega)
