/-! The class's line of a barge. -/
theorem cq_tellBarge {σ : St} {d : HD} (hC : CX σ d) {b : Nat} (hb : b < dB d) : ∃ σ', fX6_tellBarge σ (nI b) = some (nI (lnB d b).length, σ') ∧ lnX σ' (lnB d b) ∧ frP σ σ' ∧ (lnB d b).length ≤ 24 ∧ ∀ c ∈ lnB d b, c < 128 := by
  obtain ⟨hd, c2, c5, c6⟩ := hC
  have h8 := hd.1
  have h24 := hd.2.1
  have e61 : (61 : Int32) = nI 61 := by decide
  have e64 : (64 : Int32) = nI 64 := by decide
  have e43 : (43 : Int32) = nI 43 := by decide
  have e62 : (62 : Int32) = nI 62 := by decide
  have e45 : (45 : Int32) = nI 45 := by decide
  unfold fX6_tellBarge
  simp only [pz_n11, pz_n15, pz_n0, pz_n1, pz_neg, e61, e64, e43, e62, e45]
  have hna := (hd.2.2.2.2 b hb).1
  have hto := (hd.2.2.2.2 b hb).2
  have hpb := pbD_lt d b
  have K1 := dg_len2 (n := b) (by omega)
  have K2 := dg_len (dna d b)
  have K3 := dg_len (pbD d b)
  have K4 := dg_len (dto d b)
  rw [pz_hasBarge1 (h := 0) c2.2.1 (by omega) hb, pz_bd, if_neg pz_10]
  have one : ∀ c : Nat, [c].length = 1 := fun _ => rfl
  have nil0 : ([] : List Nat).length = 0 := rfl
  obtain ⟨x0, a1, a2, a3⟩ := empty_ok σ
  obtain ⟨x1, b1, b2, b3⟩ := putNumber_ok (n := b) (by omega) a2 (by rw [nil0]; omega)
  obtain ⟨x2, d1, d2, d3⟩ := put_ok (c := 61) b2 (by rw [List.length_append, nil0]; omega) (by omega)
  have f2 : frP σ x2 := (a3.trans b3).trans d3
  have e36 : x2 36 b = nI (dna d b) := by rw [f2 36 (by omega) (by omega)]; exact c2.2.2.2.2.2.2.1 b hb
  obtain ⟨x3, i1, i2, i3⟩ := putNumber_ok (n := dna d b) hna d2 (by rw [List.length_append, List.length_append, nil0, one]; omega)
  obtain ⟨x4, j1, j2, j3⟩ := put_ok (c := 64) i2 (by rw [List.length_append, List.length_append, List.length_append, nil0, one]; omega) (by omega)
  have f4 : frP σ x4 := (f2.trans i3).trans j3
  have H4 : XH 0 x4 d := c2.congr (fun k z1 z2 => f4 k (by omega) (by omega))
  obtain ⟨x5, k1, k2, k3⟩ := putNumber_ok (n := pbD d b) (by omega) j2 (by rw [List.length_append, List.length_append, List.length_append, List.length_append, nil0, one, one]; omega)
  obtain ⟨x6, l1, l2, l3⟩ := put_ok (c := 43) k2 (by rw [List.length_append, List.length_append, List.length_append, List.length_append, List.length_append, nil0, one, one]; omega) (by omega)
  have f6 : frP σ x6 := (f4.trans k3).trans l3
  have e37 : x6 37 b = nI (dto d b) := by rw [f6 37 (by omega) (by omega)]; exact c2.2.2.2.2.2.2.2.1 b hb
  obtain ⟨x7, n1, n2, n3⟩ := putNumber_ok (n := dto d b) (by omega) l2 (by rw [List.length_append, List.length_append, List.length_append, List.length_append, List.length_append, List.length_append, nil0, one, one, one]; omega)
  obtain ⟨x8, o1, o2, o3⟩ := put_ok (c := 62) n2 (by rw [List.length_append, List.length_append, List.length_append, List.length_append, List.length_append, List.length_append, List.length_append, nil0, one, one, one]; omega) (by omega)
  have f8 : frP σ x8 := (f6.trans n3).trans o3
  have e9 : x8 9 b = oX (lieD d b) := by rw [f8 9 (by omega) (by omega)]; exact (c6.1 b hb).2.1
  rw [a1, pz_bd, b1, pz_bd, d1, pz_bd, pz_gd (by omega) (by omega), pz_cl (by omega), e36, i1, pz_bd, j1, pz_bd, pz_pointOf hd H4 hb, pz_bd, k1, pz_bd, l1, pz_bd, pz_gd (by omega) (by omega), e37, n1, pz_bd, o1, pz_bd, pz_gd (by omega) (by omega), e9]
  obtain ⟨hl, ehl⟩ : ∃ hl, hl = [] ++ dg b ++ [61] ++ dg (dna d b) ++ [64] ++ dg (pbD d b) ++ [43] ++ dg (dto d b) ++ [62] := ⟨_, rfl⟩
  have elB : lnB d b = hl ++ (match lieD d b with | none => [45] | some p => dg p) := by rw [ehl]; rfl
  rw [← ehl] at o2
  have hlen : hl.length ≤ 18 := by
    rw [ehl]
    simp only [List.length_append, nil0, one]
    omega
  have hcod : ∀ c ∈ hl, c < 128 := by
    intro c hc
    rw [ehl] at hc
    simp only [List.nil_append, List.mem_append] at hc
    rcases hc with ((((((hc | hc) | hc) | hc) | hc) | hc) | hc) | hc
    · exact dg_lt (by omega) c hc
    · simp at hc; omega
    · exact dg_lt hna c hc
    · simp at hc; omega
    · exact dg_lt (by omega) c hc
    · simp at hc; omega
    · exact dg_lt (by omega) c hc
    · simp at hc; omega
  rw [elB]
  cases hli : lieD d b with
  | none =>
    rw [if_pos (show oX none = mI 15 from rfl)]
    obtain ⟨x9, ab1, ab2, ab3⟩ := put_ok (c := 45) o2 (by omega) (by omega)
    rw [ab1, pz_bd, ab2.1]
    refine ⟨_, rfl, ab2, f8.trans ab3, by rw [List.length_append, one]; omega, fun c hc => ?_⟩
    rw [List.mem_append] at hc
    rcases hc with hc | hc
    · exact hcod c hc
    · simp at hc; omega
  | some p =>
    have hp := lieD_lt hli
    have K5 := dg_len1 (n := p) (by omega)
    rw [if_neg (show ¬ oX (some p) = mI 15 from pz_nm (by omega) (by omega) (by omega))]
    obtain ⟨x9, ab1, ab2, ab3⟩ := putNumber_ok (n := p) (by omega) o2 (by omega)
    rw [pz_gd (by omega) (by omega)]
    show ∃ σ', (bd (fX3_putNumber x8 (nI p)) fun r18 => some (r18 5 1, r18)) = some (_, σ') ∧ _
    rw [ab1, pz_bd, ab2.1]
    refine ⟨_, rfl, ab2, f8.trans ab3, by rw [List.length_append]; show _ + (dg p).length ≤ 24; omega, fun c hc => ?_⟩
    rw [List.mem_append] at hc
    rcases hc with hc | hc
    · exact hcod c hc
    · exact dg_lt (by omega) c hc
