/-! The law: the barges (256 to 766). -/
def hwD (d : HD) (n i : Nat) : Nat := if i = 0 then ahD d n else if i = 1 then elD d n else if i = 2 then noD d n else 0
def hxD (d : HD) (n : Nat) : Nat := if lieD d n = none then 2 else if lieD d n = homeD d (pbD d n) then 0 else 1
theorem hw_s (d : HD) (n i : Nat) : hwD d (n + 1) i = hwD d n i + if i = hxD d n then 1 else 0 := by
  unfold hwD hxD
  have e3 : noD d (n + 1) = noD d n + if lieD d n = none then 1 else 0 := rfl
  rw [ahD_s, elD_s, e3]
  by_cases h1 : lieD d n = none
  · simp only [h1, ne_eq, not_true_eq_false, false_and, if_false, if_true]
    by_cases i0 : i = 0
    · subst i0; simp
    · by_cases i1 : i = 1
      · subst i1; simp
      · by_cases i2 : i = 2
        · subst i2; simp
        · simp [i0, i1, i2]
  · by_cases h2 : lieD d n = homeD d (pbD d n)
    · have h1b : ¬ homeD d (pbD d n) = none := by rw [← h2]; exact h1
      simp only [h2, h1b, ne_eq, not_false_eq_true, true_and, not_true_eq_false, if_false, if_true]
      by_cases i0 : i = 0
      · subst i0; simp
      · by_cases i1 : i = 1
        · subst i1; simp
        · by_cases i2 : i = 2
          · subst i2; simp
          · simp [i0, i1, i2]
    · simp only [h1, h2, ne_eq, not_false_eq_true, true_and, if_false, if_true]
      by_cases i0 : i = 0
      · subst i0; simp
      · by_cases i1 : i = 1
        · subst i1; simp
        · by_cases i2 : i = 2
          · subst i2; simp
          · simp [i0, i1, i2]
theorem ly_none {d : HD} {n : Nat} (h : lieD d n = none) : lyD d (n + 1) = lyD d n := by
  show lyD d n + (if lieD d n = none then 0 else dto d n) = _
  rw [if_pos h]
  rfl
theorem ly_some {d : HD} {n po : Nat} (h : lieD d n = some po) : lyD d (n + 1) = lyD d n + dto d n := by
  show lyD d n + (if lieD d n = none then 0 else dto d n) = _
  rw [if_neg (fun z => by rw [h] at z; cases z)]
def lnAt (d : HD) (n po : Nat) : List Nat := hdD d po ++ tlD d po n
theorem tl_lc (d : HD) (po : Nat) : ∀ n, tlD d po n = [] ↔ lcD d n po = 0 := by
  intro n
  induction n with
  | zero => exact ⟨fun _ => rfl, fun _ => rfl⟩
  | succ n ih =>
    rw [lcD_s]
    show tlD d po n ++ (if lieD d n = some po then (if tlD d po n = [] then [] else [44]) ++ dg n else []) = [] ↔ _
    by_cases h : lieD d n = some po
    · rw [if_pos h, if_pos h]
      have := dg_ne n
      simp [this]
    · rw [if_neg h, if_neg h, List.append_nil, ih]
      omega
theorem lnAt_none {d : HD} {n : Nat} (h : lieD d n = none) (po : Nat) : lnAt d (n + 1) po = lnAt d n po := by
  show hdD d po ++ (tlD d po n ++ (if lieD d n = some po then (if tlD d po n = [] then [] else [44]) ++ dg n else [])) = _
  rw [if_neg (fun z => by rw [h] at z; cases z), List.append_nil]
  rfl
theorem lnAt_other {d : HD} {n po po2 : Nat} (h : lieD d n = some po) (hne : po2 ≠ po) : lnAt d (n + 1) po2 = lnAt d n po2 := by
  show hdD d po2 ++ (tlD d po2 n ++ (if lieD d n = some po2 then (if tlD d po2 n = [] then [] else [44]) ++ dg n else [])) = _
  rw [if_neg (fun z => hne (by rw [h] at z; exact (Option.some.inj z).symm)), List.append_nil]
  rfl
theorem lnAt_this {d : HD} {n po : Nat} (h : lieD d n = some po) : lnAt d (n + 1) po = lnAt d n po ++ (if lcD d n po = 0 then [] else [44]) ++ dg n := by
  show hdD d po ++ (tlD d po n ++ (if lieD d n = some po then (if tlD d po n = [] then [] else [44]) ++ dg n else [])) = _
  rw [if_pos h]
  by_cases h2 : lcD d n po = 0
  · rw [if_pos h2, if_pos ((tl_lc d po n).mpr h2)]
    unfold lnAt
    simp
  · rw [if_neg h2, if_neg (fun z => h2 ((tl_lc d po n).mp z))]
    unfold lnAt
    simp
theorem lnAt_len {d : HD} (hd : dOk d) {n po : Nat} (hn : n ≤ dB d) (hp : po < dP d) : (lnAt d n po).length ≤ 77 := by
  have h1 := hdD_len hd hp
  have h24 := hd.2.1
  have h2 := tlD_len d po n (by omega)
  unfold lnAt
  rw [List.length_append]
  omega
section LB
variable {p : Program} {l : Launch} {e : Env} {s : State} {m : MethodId} {below : List Frame} {meth : Method} {c : Code} {Q : State → Prop}
variable {dC : Nat → ClassId} {dI : Nat → Nat → Nat} {cy : Nat → ClassId} {tb : Nat × Nat} {aK aV : Nat → Nat} {b bL : Nat} {xs : Nat → Int32}
variable {adX adT : Nat → Nat} {σ : St} {zX zT : Nat} {G : Heap → Prop} {d : HD} {turn nc ns : Nat}
set_option maxHeartbeats 8000000 in
set_option maxRecDepth 100000 in
theorem law_p4c (F : LF p s m c dC dI cy tb adX aK aV zX b bL xs) (T : LT 8 adT zX zT) (hC : CX σ d) {τ : St} {aL b1 q28 v28 : Nat} {qs vs : Nat → Nat} (hnc : nc ≤ 700000) (hns : ns ≤ 6900000) (hln : lnX σ (lnB d b1)) (hlen : (lnB d b1).length ≤ 24) (kk : ∀ (H : Heap) (locs : List Loc), LWd s dC dI cy adX 8 adT zT (fun H => GL dC dI cy s zT aL (dP d) qs vs (lnAt d b1) H ∧ GS s zT q28 v28 (lnB d b1) H) σ (τ) H locs → ∀ ls : Array Slot, lv_has ls 31 [(0, .ref b), (1, .ref (adX 0)), (2, .int (nI turn)), (3, .int (nI (dP d))), (4, .int (nI (dB d))), (5, .int 0), (6, .int 0), (7, .int (nI (sumTo (dto d) b1))), (8, .int (nI (lyD d b1))), (9, .int 0), (10, .int 0), (11, .int (nI (dT d))), (12, .ref (adT 0)), (13, .ref (adT 1)), (14, .ref (adT 2)), (15, .ref (adT 3)), (16, .ref (adT 4)), (17, .ref (adT 5)), (18, .ref (adT 6)), (19, .ref (adT 7)), (20, .ref aL), (21, .int (nI b1)), (22, .int (nI (dna d b1))), (23, .int (nI (dto d b1))), (24, .int (nI (pbD d b1))), (25, .int (oM (homeD d (pbD d b1)))), (26, .int (nI (pasD d b1))), (27, .int (oM (lieD d b1))), (28, .ref q28)] → W p l e room_1 s m #[Value.ref b] below meth c H locs nc ns Q (F0 m 631 ls [])) : ∀ n i1, i1 + n = (lnB d b1).length → ∀ (H : Heap) (locs : List Loc), LWd s dC dI cy adX 8 adT zT (fun H => GL dC dI cy s zT aL (dP d) qs vs (lnAt d b1) H ∧ GS s zT q28 v28 (lnB d b1) H) σ (τ) H locs → ∀ ls : Array Slot, lv_has ls 31 [(0, .ref b), (1, .ref (adX 0)), (2, .int (nI turn)), (3, .int (nI (dP d))), (4, .int (nI (dB d))), (5, .int 0), (6, .int 0), (7, .int (nI (sumTo (dto d) b1))), (8, .int (nI (lyD d b1))), (9, .int 0), (10, .int 0), (11, .int (nI (dT d))), (12, .ref (adT 0)), (13, .ref (adT 1)), (14, .ref (adT 2)), (15, .ref (adT 3)), (16, .ref (adT 4)), (17, .ref (adT 5)), (18, .ref (adT 6)), (19, .ref (adT 7)), (20, .ref aL), (21, .int (nI b1)), (22, .int (nI (dna d b1))), (23, .int (nI (dto d b1))), (24, .int (nI (pbD d b1))), (25, .int (oM (homeD d (pbD d b1)))), (26, .int (nI (pasD d b1))), (27, .int (oM (lieD d b1))), (28, .ref q28), (29, .int (nI i1))] → W p l e room_1 s m #[Value.ref b] below meth c H locs nc ns Q (F0 m 597 ls []) := by
  have hx := F.S.1
  have hb := F.S.2.1
  have h8 := hC.1.1
  have h24 := hC.1.2.1
  have h200 := hC.1.2.2.1
  have cL : ∀ {x : Nat}, x ≤ 723972 → x ≤ room_1.cells := fun h => h
  have sL : ∀ {x : Nat}, x ≤ 6930331 → x ≤ room_1.slots := fun h => h
  have kg : KG zT (fun H => GL dC dI cy s zT aL (dP d) qs vs (lnAt d b1) H ∧ GS s zT q28 v28 (lnB d b1) H) := KG.and (KG.L _ _ _ _ _ _ _ _ _) (KG.S _ _ _ _ _)
  intro n
  induction n with
  | zero =>
    intro i1 hk H locs hw ls hl
    refine lv_iload hx hb dL_law_597 (lv_at hl 29 rfl) ?_
    refine lv_aload hx hb dL_law_599 (lv_at hl 28 rfl) ?_
    refine ls_len F kg hw (fun H h => h.2) (cwV 0 F.S.2.2.2.2 gL_law_J0_length_8abf5 rfl rfl rfl dmJ0_length_8abf5 ⟨Nat.le_of_ble_eq_true rfl, Nat.le_of_ble_eq_true rfl⟩) hl.1 (Nat.le_of_ble_eq_true rfl) ⟨cL (by omega), sL (by omega)⟩ dL_law_601 (fun H locs hw => ?_)
    refine lv_icmp_ge (tgt := 631) hx hb dL_law_604 (by decide) (fun _ => ?_) (fun q9 => absurd (nI_le (by omega) (by omega)) q9)
    exact kk H locs hw ls (lv_sub hl [0, 1, 2, 3, 4, 5, 6, 7, 8, 9, 10, 11, 12, 13, 14, 15, 16, 17, 18, 19, 20, 21, 22, 23, 24, 25, 26, 27, 28] rfl)
  | succ n ih =>
    intro i1 hk H locs hw ls hl
    refine lv_iload hx hb dL_law_597 (lv_at hl 29 rfl) ?_
    refine lv_aload hx hb dL_law_599 (lv_at hl 28 rfl) ?_
    refine ls_len F kg hw (fun H h => h.2) (cwV 0 F.S.2.2.2.2 gL_law_J0_length_8abf5 rfl rfl rfl dmJ0_length_8abf5 ⟨Nat.le_of_ble_eq_true rfl, Nat.le_of_ble_eq_true rfl⟩) hl.1 (Nat.le_of_ble_eq_true rfl) ⟨cL (by omega), sL (by omega)⟩ dL_law_601 (fun H locs hw => ?_)
    refine lv_icmp_ge (tgt := 631) hx hb dL_law_604 (by decide) (fun q9 => absurd q9 (nI_ge (by omega) (by omega))) (fun _ => ?_)
    refine lv_aload_n hx hb dL_law_607 rfl (lv_at hl 1 rfl) ?_
    refine lv_iload hx hb dL_law_608 (lv_at hl 29 rfl) ?_
    refine lx_i (As := [.int (nI i1)]) (rest := []) F T kg (mX6_character l dC dI adX cy F.J σ (nI i1) _ (cq_char hln (by omega) (i := i1) (by omega))) (cwV 1 F.S.2.2.2.2 gL_law_X6_character rfl rfl rfl dmX6_character ⟨Nat.le_of_ble_eq_true rfl, Nat.le_of_ble_eq_true rfl⟩) hw rfl rfl hl.1 (Nat.le_of_ble_eq_true rfl) ⟨cL (by omega), sL (by omega)⟩ dL_law_610 (fun H locs hw => ?_)
    refine lv_aload hx hb dL_law_613 (lv_at hl 28 rfl) ?_
    refine lv_iload hx hb dL_law_615 (lv_at hl 29 rfl) ?_
    refine ls_char (i := i1) F kg hw (fun H h => h.2) (by omega) (by omega) (cwV 1 F.S.2.2.2.2 gL_law_J0_charAt_5068e rfl rfl rfl dmJ0_charAt_5068e ⟨Nat.le_of_ble_eq_true rfl, Nat.le_of_ble_eq_true rfl⟩) hl.1 (Nat.le_of_ble_eq_true rfl) ⟨cL (by omega), sL (by omega)⟩ dL_law_617 (fun H locs hw => ?_)
    refine lv_icmp_eq (tgt := 625) hx hb dL_law_620 (by decide) (fun _ => ?_) (fun q9 => absurd (congrArg nI (show ((lnB d b1).getD i1 0) = ((lnB d b1).getD i1 0) by omega)) q9)
    refine lv_iinc (v := nI (i1 + 1)) (lv' := [(29, .int (nI (i1 + 1))), (0, .ref b), (1, .ref (adX 0)), (2, .int (nI turn)), (3, .int (nI (dP d))), (4, .int (nI (dB d))), (5, .int 0), (6, .int 0), (7, .int (nI (sumTo (dto d) b1))), (8, .int (nI (lyD d b1))), (9, .int 0), (10, .int 0), (11, .int (nI (dT d))), (12, .ref (adT 0)), (13, .ref (adT 1)), (14, .ref (adT 2)), (15, .ref (adT 3)), (16, .ref (adT 4)), (17, .ref (adT 5)), (18, .ref (adT 6)), (19, .ref (adT 7)), (20, .ref aL), (21, .int (nI b1)), (22, .int (nI (dna d b1))), (23, .int (nI (dto d b1))), (24, .int (nI (pbD d b1))), (25, .int (oM (homeD d (pbD d b1)))), (26, .int (nI (pasD d b1))), (27, .int (oM (lieD d b1))), (28, .ref q28)]) hx hb dL_law_625 hl (k := 29) rfl (nI_1 i1) (by decide) rfl (fun ls hl => ?_)
    refine lv_goto (tgt := 597) hx hb dL_law_628 (by decide) ?_
    exact ih (i1 + 1) (by omega) H locs hw ls (lv_sub hl [1, 2, 3, 4, 5, 6, 7, 8, 9, 10, 11, 12, 13, 14, 15, 16, 17, 18, 19, 20, 21, 22, 23, 24, 25, 26, 27, 28, 29, 0] rfl)
set_option maxHeartbeats 16000000 in
set_option maxRecDepth 100000 in
theorem law_p4r (F : LF p s m c dC dI cy tb adX aK aV zX b bL xs) (T : LT 8 adT zX zT) (hI : CI σ d) {τ : St} {aL b1 q28 v28 : Nat} {qs vs : Nat → Nat} (hb1 : b1 < dB d) (hnc : nc ≤ 700000) (hns : ns ≤ 6900000) (kk : ∀ (σ τ : St) (qs vs : Nat → Nat), CI σ d → (∀ i, i < 360 → τ 0 i = oA d i) → (∀ i, i < 8 → τ 1 i = nI (stD d i)) → (∀ i, i < 8 → τ 2 i = nI (hcD d (b1 + 1) i)) → (∀ i, i < 8 → τ 3 i = nI (htD d (b1 + 1) i)) → (∀ i, i < 8 → τ 4 i = nI (lcD d (b1 + 1) i)) → (∀ i, i < 8 → τ 5 i = nI (tkD d (b1 + 1) i)) → (∀ i, i < 3 → τ 6 i = nI (hwD d (b1 + 1) i)) → ∀ (H : Heap) (locs : List Loc), LWd s dC dI cy adX 8 adT zT (GL dC dI cy s zT aL (dP d) qs vs (lnAt d (b1 + 1))) σ (τ) H locs → ∀ ls : Array Slot, lv_has ls 31 [(0, .ref b), (1, .ref (adX 0)), (2, .int (nI turn)), (3, .int (nI (dP d))), (4, .int (nI (dB d))), (5, .int 0), (6, .int 0), (7, .int (nI (sumTo (dto d) (b1 + 1)))), (8, .int (nI (lyD d (b1 + 1)))), (9, .int 0), (10, .int 0), (11, .int (nI (dT d))), (12, .ref (adT 0)), (13, .ref (adT 1)), (14, .ref (adT 2)), (15, .ref (adT 3)), (16, .ref (adT 4)), (17, .ref (adT 5)), (18, .ref (adT 6)), (19, .ref (adT 7)), (20, .ref aL), (21, .int (nI (b1 + 1)))] → W p l e room_1 s m #[Value.ref b] below meth c H locs (nc + 7) (ns + 824) Q (F0 m 256 ls [])) : (∀ i, i < 360 → τ 0 i = oA d i) → (∀ i, i < 8 → τ 1 i = nI (stD d i)) → (∀ i, i < 8 → τ 2 i = nI (hcD d b1 i)) → (∀ i, i < 8 → τ 3 i = nI (htD d b1 i)) → (∀ i, i < 8 → τ 4 i = nI (lcD d b1 i)) → (∀ i, i < 8 → τ 5 i = nI (tkD d (b1 + 1) i)) → (∀ i, i < 3 → τ 6 i = nI (hwD d b1 i)) → ∀ (H : Heap) (locs : List Loc), LWd s dC dI cy adX 8 adT zT (fun H => GL dC dI cy s zT aL (dP d) qs vs (lnAt d b1) H ∧ GS s zT q28 v28 (lnB d b1) H) σ (τ) H locs → ∀ ls : Array Slot, lv_has ls 31 [(0, .ref b), (1, .ref (adX 0)), (2, .int (nI turn)), (3, .int (nI (dP d))), (4, .int (nI (dB d))), (5, .int 0), (6, .int 0), (7, .int (nI (sumTo (dto d) b1))), (8, .int (nI (lyD d b1))), (9, .int 0), (10, .int 0), (11, .int (nI (dT d))), (12, .ref (adT 0)), (13, .ref (adT 1)), (14, .ref (adT 2)), (15, .ref (adT 3)), (16, .ref (adT 4)), (17, .ref (adT 5)), (18, .ref (adT 6)), (19, .ref (adT 7)), (20, .ref aL), (21, .int (nI b1)), (22, .int (nI (dna d b1))), (23, .int (nI (dto d b1))), (24, .int (nI (pbD d b1))), (25, .int (oM (homeD d (pbD d b1)))), (26, .int (nI (pasD d b1))), (27, .int (oM (lieD d b1))), (28, .ref q28)] → W p l e room_1 s m #[Value.ref b] below meth c H locs nc ns Q (F0 m 496 ls []) := by
  intro tf0 tf1 tf2 tf3 tf4 tf5 tf6 H locs hw ls hl
  have hC := hI.1
  have hx := F.S.1
  have hb := F.S.2.1
  have h8 := hC.1.1
  have h24 := hC.1.2.1
  have h200 := hC.1.2.2.1
  have cL : ∀ {x : Nat}, x ≤ 723972 → x ≤ room_1.cells := fun h => h
  have sL : ∀ {x : Nat}, x ≤ 6930331 → x ≤ room_1.slots := fun h => h
  have kg : KG zT (fun H => GL dC dI cy s zT aL (dP d) qs vs (lnAt d b1) H ∧ GS s zT q28 v28 (lnB d b1) H) := KG.and (KG.L _ _ _ _ _ _ _ _ _) (KG.S _ _ _ _ _)
  have hpb := pbD_lt d b1
  have hto := (hC.1.2.2.2.2 b1 hb1).2
  have hpas := pasD_le d b1
  obtain ⟨σ1, ct1, ct2, ct3, ct4, ct5⟩ := cq_tellBarge hC hb1
  have hI1 : CI σ1 d := hI.lined ct3 ct2 (by omega) ct5
  have hC1 := hI1.1
  cases hlie : lieD d b1 with
  | none =>
    cases hh : homeD d (pbD d b1) with
    | none =>
      refine lv_aload_n hx hb dL_law_496 rfl (lv_at hl 1 rfl) ?_
      refine lv_iload hx hb dL_law_497 (lv_at hl 21 rfl) ?_
      refine lv_iconst (v := 2) hx hb dL_law_499 (by decide) ?_
      refine lx_i (As := [.int (nI b1), .int 2]) (rest := []) F T kg (mX6_bargeOf l dC dI adX cy F.J σ (nI b1) 2 _ (cq_b2 hC hb1)) (cwV 2 F.S.2.2.2.2 gL_law_X6_bargeOf rfl rfl rfl dmX6_bargeOf ⟨Nat.le_of_ble_eq_true rfl, Nat.le_of_ble_eq_true rfl⟩) hw rfl rfl hl.1 (Nat.le_of_ble_eq_true rfl) ⟨cL (by omega), sL (by omega)⟩ dL_law_500 (fun H locs hw => ?_)
      refine lv_iload hx hb dL_law_503 (lv_at hl 24 rfl) ?_
      refine lv_icmp_ne (tgt := 592) hx hb dL_law_505 (by decide) (fun q9 => absurd (congrArg nI (show (pbD d b1) = (pbD d b1) by omega)) q9) (fun _ => ?_)
      refine lv_aload_n hx hb dL_law_508 rfl (lv_at hl 1 rfl) ?_
      refine lv_iload hx hb dL_law_509 (lv_at hl 21 rfl) ?_
      refine lv_iconst (v := 3) hx hb dL_law_511 (by decide) ?_
      refine lx_i (As := [.int (nI b1), .int 3]) (rest := []) F T kg (mX6_bargeOf l dC dI adX cy F.J σ (nI b1) 3 _ (cq_b3 hC hb1)) (cwV 2 F.S.2.2.2.2 gL_law_X6_bargeOf rfl rfl rfl dmX6_bargeOf ⟨Nat.le_of_ble_eq_true rfl, Nat.le_of_ble_eq_true rfl⟩) hw rfl rfl hl.1 (Nat.le_of_ble_eq_true rfl) ⟨cL (by omega), sL (by omega)⟩ dL_law_512 (fun H locs hw => ?_)
      rw [show ((oX (lieD d b1)) : Int32) = mI 15 from by rw [hlie]; rfl]
      refine lv_iload hx hb dL_law_515 (lv_at hl 27 rfl) ?_
      rw [show ((oM (lieD d b1)) : Int32) = mI 1 from by rw [hlie]; rfl]
      refine lv_if_ge (tgt := 525) hx hb dL_law_517 (by decide) (fun q9 => absurd q9 (by decide)) (fun _ => ?_)
      refine lv_bipush (v := mI 15) hx hb dL_law_520 (by decide) ?_
      refine lv_goto (tgt := 527) hx hb dL_law_522 (by decide) ?_
      refine lv_icmp_ne (tgt := 592) hx hb dL_law_527 (by decide) (fun q9 => absurd (rfl) q9) (fun _ => ?_)
      refine lv_aload_n hx hb dL_law_530 rfl (lv_at hl 1 rfl) ?_
      refine lv_iload hx hb dL_law_531 (lv_at hl 21 rfl) ?_
      refine lv_iconst (v := 4) hx hb dL_law_533 (by decide) ?_
      refine lx_i (As := [.int (nI b1), .int 4]) (rest := []) F T kg (mX6_bargeOf l dC dI adX cy F.J σ (nI b1) 4 _ (cq_b4 hC hb1)) (cwV 2 F.S.2.2.2.2 gL_law_X6_bargeOf rfl rfl rfl dmX6_bargeOf ⟨Nat.le_of_ble_eq_true rfl, Nat.le_of_ble_eq_true rfl⟩) hw rfl rfl hl.1 (Nat.le_of_ble_eq_true rfl) ⟨cL (by omega), sL (by omega)⟩ dL_law_534 (fun H locs hw => ?_)
      refine lv_iload hx hb dL_law_537 (lv_at hl 26 rfl) ?_
      refine lv_icmp_ne (tgt := 592) hx hb dL_law_539 (by decide) (fun q9 => absurd (congrArg nI (show (pasD d b1) = (pasD d b1) by omega)) q9) (fun _ => ?_)
      refine lv_aload_n hx hb dL_law_542 rfl (lv_at hl 1 rfl) ?_
      refine lv_iload hx hb dL_law_543 (lv_at hl 21 rfl) ?_
      refine lx_i (As := [.int (nI b1)]) (rest := []) F T kg (mX6_home l dC dI adX cy F.J σ (nI b1) _ (cq_home hC hb1)) (cwV 1 F.S.2.2.2.2 gL_law_X6_home rfl rfl rfl dmX6_home ⟨Nat.le_of_ble_eq_true rfl, Nat.le_of_ble_eq_true rfl⟩) hw rfl rfl hl.1 (Nat.le_of_ble_eq_true rfl) ⟨cL (by omega), sL (by omega)⟩ dL_law_545 (fun H locs hw => ?_)
      rw [show ((oX (homeD d (pbD d b1))) : Int32) = mI 15 from by rw [hh]; rfl]
      refine lv_iload hx hb dL_law_548 (lv_at hl 25 rfl) ?_
      rw [show ((oM (homeD d (pbD d b1))) : Int32) = mI 1 from by rw [hh]; rfl]
      refine lv_if_ge (tgt := 558) hx hb dL_law_550 (by decide) (fun q9 => absurd q9 (by decide)) (fun _ => ?_)
      refine lv_bipush (v := mI 15) hx hb dL_law_553 (by decide) ?_
      refine lv_goto (tgt := 560) hx hb dL_law_555 (by decide) ?_
      refine lv_icmp_ne (tgt := 592) hx hb dL_law_560 (by decide) (fun q9 => absurd (rfl) q9) (fun _ => ?_)
      refine lv_aload_n hx hb dL_law_563 rfl (lv_at hl 1 rfl) ?_
      refine lv_iload hx hb dL_law_564 (lv_at hl 21 rfl) ?_
      refine lx_i (As := [.int (nI b1)]) (rest := []) F T kg (mX6_homeAgain l dC dI adX cy F.J σ (nI b1) _ (cq_homeAgain hC hb1)) (cwV 1 F.S.2.2.2.2 gL_law_X6_homeAgain rfl rfl rfl dmX6_homeAgain ⟨Nat.le_of_ble_eq_true rfl, Nat.le_of_ble_eq_true rfl⟩) hw rfl rfl hl.1 (Nat.le_of_ble_eq_true rfl) ⟨cL (by omega), sL (by omega)⟩ dL_law_566 (fun H locs hw => ?_)
      rw [show ((oX (homeD d (pbD d b1))) : Int32) = mI 15 from by rw [hh]; rfl]
      refine lv_aload_n hx hb dL_law_569 rfl (lv_at hl 1 rfl) ?_
      refine lv_iload hx hb dL_law_570 (lv_at hl 21 rfl) ?_
      refine lx_i (As := [.int (nI b1)]) (rest := [.int (mI 15)]) F T kg (mX6_home l dC dI adX cy F.J σ (nI b1) _ (cq_home hC hb1)) (cwV 1 F.S.2.2.2.2 gL_law_X6_home rfl rfl rfl dmX6_home ⟨Nat.le_of_ble_eq_true rfl, Nat.le_of_ble_eq_true rfl⟩) hw rfl rfl hl.1 (Nat.le_of_ble_eq_true rfl) ⟨cL (by omega), sL (by omega)⟩ dL_law_572 (fun H locs hw => ?_)
      rw [show ((oX (homeD d (pbD d b1))) : Int32) = mI 15 from by rw [hh]; rfl]
      refine lv_icmp_ne (tgt := 592) hx hb dL_law_575 (by decide) (fun q9 => absurd (rfl) q9) (fun _ => ?_)
      refine lv_aload_n hx hb dL_law_578 rfl (lv_at hl 1 rfl) ?_
      refine lv_iload hx hb dL_law_579 (lv_at hl 21 rfl) ?_
      refine lx_i (As := [.int (nI b1)]) (rest := []) F T kg (mX6_tellBarge l dC dI adX cy F.J σ (nI b1) _ (ct1)) (cwV 1 F.S.2.2.2.2 gL_law_X6_tellBarge rfl rfl rfl dmX6_tellBarge ⟨Nat.le_of_ble_eq_true rfl, Nat.le_of_ble_eq_true rfl⟩) hw rfl rfl hl.1 (Nat.le_of_ble_eq_true rfl) ⟨cL (by omega), sL (by omega)⟩ dL_law_581 (fun H locs hw => ?_)
      have hC := hC1
      refine lv_aload hx hb dL_law_584 (lv_at hl 28 rfl) ?_
      refine ls_len F kg hw (fun H h => h.2) (cwV 0 F.S.2.2.2.2 gL_law_J0_length_8abf5 rfl rfl rfl dmJ0_length_8abf5 ⟨Nat.le_of_ble_eq_true rfl, Nat.le_of_ble_eq_true rfl⟩) hl.1 (Nat.le_of_ble_eq_true rfl) ⟨cL (by omega), sL (by omega)⟩ dL_law_586 (fun H locs hw => ?_)
      refine lv_icmp_eq (tgt := 594) hx hb dL_law_589 (by decide) (fun _ => ?_) (fun q9 => absurd (congrArg nI (show (lnB d b1).length = (lnB d b1).length by omega)) q9)
      refine lv_iconst (v := nI 0) hx hb dL_law_594 (by decide) ?_
      refine lv_istore (lv' := [(29, .int (nI 0)), (0, .ref b), (1, .ref (adX 0)), (2, .int (nI turn)), (3, .int (nI (dP d))), (4, .int (nI (dB d))), (5, .int 0), (6, .int 0), (7, .int (nI (sumTo (dto d) b1))), (8, .int (nI (lyD d b1))), (9, .int 0), (10, .int 0), (11, .int (nI (dT d))), (12, .ref (adT 0)), (13, .ref (adT 1)), (14, .ref (adT 2)), (15, .ref (adT 3)), (16, .ref (adT 4)), (17, .ref (adT 5)), (18, .ref (adT 6)), (19, .ref (adT 7)), (20, .ref aL), (21, .int (nI b1)), (22, .int (nI (dna d b1))), (23, .int (nI (dto d b1))), (24, .int (nI (pbD d b1))), (25, .int (oM (homeD d (pbD d b1)))), (26, .int (nI (pasD d b1))), (27, .int (oM (lieD d b1))), (28, .ref q28)]) hx hb dL_law_595 hl (by decide) rfl (fun ls hl => ?_)
      refine law_p4c F T hC1 (τ := τ) (aL := aL) (q28 := q28) (v28 := v28) (qs := qs) (vs := vs) hnc hns ct2 ct4 (fun H locs hw ls hl => ?_) (lnB d b1).length 0 (by omega) H locs hw ls (lv_sub hl [1, 2, 3, 4, 5, 6, 7, 8, 9, 10, 11, 12, 13, 14, 15, 16, 17, 18, 19, 20, 21, 22, 23, 24, 25, 26, 27, 28, 29, 0] rfl)
      have hw := LWd.gmap (G2 := GL dC dI cy s zT aL (dP d) qs vs (lnAt d b1)) hw (fun H h => h.1)
      have kg := KG.L (dC, dI) cy aL (dP d) qs vs (lnAt d b1) zT s
      refine lv_iload hx hb dL_law_631 (lv_at hl 7 rfl) ?_
      refine lv_iload hx hb dL_law_633 (lv_at hl 23 rfl) ?_
      refine lv_iadd hx hb dL_law_635 ?_
      rw [show (((nI (sumTo (dto d) b1)) + (nI (dto d b1))) : Int32) = nI (sumTo (dto d) (b1 + 1)) from nI_add _ _]
      refine lv_istore (lv' := [(7, .int (nI (sumTo (dto d) (b1 + 1)))), (0, .ref b), (1, .ref (adX 0)), (2, .int (nI turn)), (3, .int (nI (dP d))), (4, .int (nI (dB d))), (5, .int 0), (6, .int 0), (8, .int (nI (lyD d b1))), (9, .int 0), (10, .int 0), (11, .int (nI (dT d))), (12, .ref (adT 0)), (13, .ref (adT 1)), (14, .ref (adT 2)), (15, .ref (adT 3)), (16, .ref (adT 4)), (17, .ref (adT 5)), (18, .ref (adT 6)), (19, .ref (adT 7)), (20, .ref aL), (21, .int (nI b1)), (22, .int (nI (dna d b1))), (23, .int (nI (dto d b1))), (24, .int (nI (pbD d b1))), (25, .int (oM (homeD d (pbD d b1)))), (26, .int (nI (pasD d b1))), (27, .int (oM (lieD d b1))), (28, .ref q28)]) hx hb dL_law_636 hl (by decide) rfl (fun ls hl => ?_)
      refine lv_aload hx hb dL_law_638 (lv_at hl 18 rfl) ?_
      have hx0 : hxD d b1 = 2 := by unfold hxD; rw [if_pos hlie]
      refine lv_iload hx hb dL_law_640 (lv_at hl 27 rfl) ?_
      rw [show ((oM (lieD d b1)) : Int32) = mI 1 from by rw [hlie]; rfl]
      refine lv_if_ge (tgt := 649) hx hb dL_law_642 (by decide) (fun q9 => absurd q9 (by decide)) (fun _ => ?_)
      refine lv_iconst (v := nI 2) hx hb dL_law_645 (by decide) ?_
      refine lv_goto (tgt := 661) hx hb dL_law_646 (by decide) ?_
      refine lv_dup2_11 hx hb dL_law_661 rfl rfl ?_
      refine lx_ald F T hw 6 (by decide) (i := 2) (v := nI (hwD d b1 2)) (by show 2 < 3; omega) (by omega) (tf6 2 (by omega)) dL_law_662 ?_
      refine lv_iconst (v := 1) hx hb dL_law_663 (by decide) ?_
      refine lv_iadd hx hb dL_law_664 ?_
      rw [show (((nI (hwD d b1 2)) + 1) : Int32) = nI ((hwD d b1 2) + 1) from nI_add (hwD d b1 2) 1]
      refine lx_ast F T kg hw 6 (by decide) (i := 2) (x := (nI ((hwD d b1 2) + 1))) (by show 2 < 3; omega) (by omega) dL_law_665 (fun H locs hw => ?_)
      obtain ⟨τ1, eτ1⟩ : ∃ z : St, z = su τ 6 2 (nI ((hwD d b1 2) + 1)) := ⟨_, rfl⟩
      rw [← eτ1] at hw
      have hs1 : ∀ j, j ≠ 6 → τ1 j = τ j := fun j hj => by rw [eτ1]; exact pz_su_r _ _ hj
      have hs1k : ∀ i, τ1 6 i = if i = 2 then (nI ((hwD d b1 2) + 1)) else τ 6 i := fun i => by rw [eτ1, pz_su_w]; rfl
      have tf0 : ∀ i, i < 360 → τ1 0 i = oA d i := fun i hi => (congrFun (hs1 0 (by decide)) i).trans (tf0 i hi)
      have tf1 : ∀ i, i < 8 → τ1 1 i = nI (stD d i) := fun i hi => (congrFun (hs1 1 (by decide)) i).trans (tf1 i hi)
      have tf2 : ∀ i, i < 8 → τ1 2 i = nI (hcD d b1 i) := fun i hi => (congrFun (hs1 2 (by decide)) i).trans (tf2 i hi)
      have tf3 : ∀ i, i < 8 → τ1 3 i = nI (htD d b1 i) := fun i hi => (congrFun (hs1 3 (by decide)) i).trans (tf3 i hi)
      have tf4 : ∀ i, i < 8 → τ1 4 i = nI (lcD d b1 i) := fun i hi => (congrFun (hs1 4 (by decide)) i).trans (tf4 i hi)
      have tf5 : ∀ i, i < 8 → τ1 5 i = nI (tkD d (b1 + 1) i) := fun i hi => (congrFun (hs1 5 (by decide)) i).trans (tf5 i hi)
      have tf6 : ∀ i, i < 3 → τ1 6 i = nI (hwD d (b1 + 1) i) := row_up (g := fun i => hwD d b1 i) hs1k tf6 (by rw [hw_s, hx0, if_pos rfl]) (fun i hne => by rw [hw_s, hx0, if_neg hne]; rfl)
      refine lv_iload hx hb dL_law_666 (lv_at hl 25 rfl) ?_
      rw [show ((oM (homeD d (pbD d b1))) : Int32) = mI 1 from by rw [hh]; rfl]
      refine lv_if_lt (tgt := 690) hx hb dL_law_668 (by decide) (fun _ => ?_) (fun q9 => absurd (by decide) q9)
      have tf2 : ∀ i, i < 8 → τ1 2 i = nI (hcD d (b1 + 1) i) := fun i hi => by rw [tf2 i hi, hcD_s, if_neg (fun z => by rw [hh] at z; cases z)]; rfl
      have tf3 : ∀ i, i < 8 → τ1 3 i = nI (htD d (b1 + 1) i) := fun i hi => by rw [tf3 i hi, htD_s, if_neg (fun z => by rw [hh] at z; cases z)]; rfl
      have tf4 : ∀ i, i < 8 → τ1 4 i = nI (lcD d (b1 + 1) i) := fun i hi => by rw [tf4 i hi, lcD_s, if_neg (fun z => by rw [hlie] at z; cases z)]; rfl
      rw [← ly_none hlie] at hl
      refine lv_iload hx hb dL_law_690 (lv_at hl 27 rfl) ?_
      rw [show ((oM (lieD d b1)) : Int32) = mI 1 from by rw [hlie]; rfl]
      refine lv_if_ge (tgt := 698) hx hb dL_law_692 (by decide) (fun q9 => absurd q9 (by decide)) (fun _ => ?_)
      refine lv_goto (tgt := 760) hx hb dL_law_695 (by decide) ?_
      refine lv_iinc (v := nI (b1 + 1)) (lv' := [(21, .int (nI (b1 + 1))), (7, .int (nI (sumTo (dto d) (b1 + 1)))), (0, .ref b), (1, .ref (adX 0)), (2, .int (nI turn)), (3, .int (nI (dP d))), (4, .int (nI (dB d))), (5, .int 0), (6, .int 0), (8, .int (nI (lyD d (b1 + 1)))), (9, .int 0), (10, .int 0), (11, .int (nI (dT d))), (12, .ref (adT 0)), (13, .ref (adT 1)), (14, .ref (adT 2)), (15, .ref (adT 3)), (16, .ref (adT 4)), (17, .ref (adT 5)), (18, .ref (adT 6)), (19, .ref (adT 7)), (20, .ref aL), (22, .int (nI (dna d b1))), (23, .int (nI (dto d b1))), (24, .int (nI (pbD d b1))), (25, .int (oM (homeD d (pbD d b1)))), (26, .int (nI (pasD d b1))), (27, .int (oM (lieD d b1))), (28, .ref q28)]) hx hb dL_law_760 hl (k := 21) rfl (nI_1 b1) (by decide) rfl (fun ls hl => ?_)
      refine lv_goto (tgt := 256) hx hb dL_law_763 (by decide) ?_
      have hw := LWd.gmap (G2 := GL dC dI cy s zT aL (dP d) qs vs (lnAt d (b1 + 1))) hw (fun H h => h.congr (fun j _ => (lnAt_none hlie j).symm))
      refine lx_mono (k := nc + 7) (n' := ns + 824) (by omega) (by omega) ?_
      exact kk σ1 τ1 qs vs hI1 tf0 tf1 tf2 tf3 tf4 tf5 tf6 H locs hw ls (lv_sub hl [2, 3, 4, 5, 6, 7, 8, 1, 9, 10, 11, 12, 13, 14, 15, 16, 17, 18, 19, 20, 21, 0] rfl)
    | some ho =>
      have hho : ho < dP d := (homeD_lt hh).1
      refine lv_aload_n hx hb dL_law_496 rfl (lv_at hl 1 rfl) ?_
      refine lv_iload hx hb dL_law_497 (lv_at hl 21 rfl) ?_
      refine lv_iconst (v := 2) hx hb dL_law_499 (by decide) ?_
      refine lx_i (As := [.int (nI b1), .int 2]) (rest := []) F T kg (mX6_bargeOf l dC dI adX cy F.J σ (nI b1) 2 _ (cq_b2 hC hb1)) (cwV 2 F.S.2.2.2.2 gL_law_X6_bargeOf rfl rfl rfl dmX6_bargeOf ⟨Nat.le_of_ble_eq_true rfl, Nat.le_of_ble_eq_true rfl⟩) hw rfl rfl hl.1 (Nat.le_of_ble_eq_true rfl) ⟨cL (by omega), sL (by omega)⟩ dL_law_500 (fun H locs hw => ?_)
      refine lv_iload hx hb dL_law_503 (lv_at hl 24 rfl) ?_
      refine lv_icmp_ne (tgt := 592) hx hb dL_law_505 (by decide) (fun q9 => absurd (congrArg nI (show (pbD d b1) = (pbD d b1) by omega)) q9) (fun _ => ?_)
      refine lv_aload_n hx hb dL_law_508 rfl (lv_at hl 1 rfl) ?_
      refine lv_iload hx hb dL_law_509 (lv_at hl 21 rfl) ?_
      refine lv_iconst (v := 3) hx hb dL_law_511 (by decide) ?_
      refine lx_i (As := [.int (nI b1), .int 3]) (rest := []) F T kg (mX6_bargeOf l dC dI adX cy F.J σ (nI b1) 3 _ (cq_b3 hC hb1)) (cwV 2 F.S.2.2.2.2 gL_law_X6_bargeOf rfl rfl rfl dmX6_bargeOf ⟨Nat.le_of_ble_eq_true rfl, Nat.le_of_ble_eq_true rfl⟩) hw rfl rfl hl.1 (Nat.le_of_ble_eq_true rfl) ⟨cL (by omega), sL (by omega)⟩ dL_law_512 (fun H locs hw => ?_)
      rw [show ((oX (lieD d b1)) : Int32) = mI 15 from by rw [hlie]; rfl]
      refine lv_iload hx hb dL_law_515 (lv_at hl 27 rfl) ?_
      rw [show ((oM (lieD d b1)) : Int32) = mI 1 from by rw [hlie]; rfl]
      refine lv_if_ge (tgt := 525) hx hb dL_law_517 (by decide) (fun q9 => absurd q9 (by decide)) (fun _ => ?_)
      refine lv_bipush (v := mI 15) hx hb dL_law_520 (by decide) ?_
      refine lv_goto (tgt := 527) hx hb dL_law_522 (by decide) ?_
      refine lv_icmp_ne (tgt := 592) hx hb dL_law_527 (by decide) (fun q9 => absurd (rfl) q9) (fun _ => ?_)
      refine lv_aload_n hx hb dL_law_530 rfl (lv_at hl 1 rfl) ?_
      refine lv_iload hx hb dL_law_531 (lv_at hl 21 rfl) ?_
      refine lv_iconst (v := 4) hx hb dL_law_533 (by decide) ?_
      refine lx_i (As := [.int (nI b1), .int 4]) (rest := []) F T kg (mX6_bargeOf l dC dI adX cy F.J σ (nI b1) 4 _ (cq_b4 hC hb1)) (cwV 2 F.S.2.2.2.2 gL_law_X6_bargeOf rfl rfl rfl dmX6_bargeOf ⟨Nat.le_of_ble_eq_true rfl, Nat.le_of_ble_eq_true rfl⟩) hw rfl rfl hl.1 (Nat.le_of_ble_eq_true rfl) ⟨cL (by omega), sL (by omega)⟩ dL_law_534 (fun H locs hw => ?_)
      refine lv_iload hx hb dL_law_537 (lv_at hl 26 rfl) ?_
      refine lv_icmp_ne (tgt := 592) hx hb dL_law_539 (by decide) (fun q9 => absurd (congrArg nI (show (pasD d b1) = (pasD d b1) by omega)) q9) (fun _ => ?_)
      refine lv_aload_n hx hb dL_law_542 rfl (lv_at hl 1 rfl) ?_
      refine lv_iload hx hb dL_law_543 (lv_at hl 21 rfl) ?_
      refine lx_i (As := [.int (nI b1)]) (rest := []) F T kg (mX6_home l dC dI adX cy F.J σ (nI b1) _ (cq_home hC hb1)) (cwV 1 F.S.2.2.2.2 gL_law_X6_home rfl rfl rfl dmX6_home ⟨Nat.le_of_ble_eq_true rfl, Nat.le_of_ble_eq_true rfl⟩) hw rfl rfl hl.1 (Nat.le_of_ble_eq_true rfl) ⟨cL (by omega), sL (by omega)⟩ dL_law_545 (fun H locs hw => ?_)
      rw [show ((oX (homeD d (pbD d b1))) : Int32) = nI ho from by rw [hh]; rfl]
      refine lv_iload hx hb dL_law_548 (lv_at hl 25 rfl) ?_
      rw [show ((oM (homeD d (pbD d b1))) : Int32) = nI ho from by rw [hh]; rfl]
      refine lv_if_ge (tgt := 558) hx hb dL_law_550 (by decide) (fun _ => ?_) (fun q9 => absurd (nI_pos' (by omega)) q9)
      refine lv_iload hx hb dL_law_558 (lv_at hl 25 rfl) ?_
      rw [show ((oM (homeD d (pbD d b1))) : Int32) = nI ho from by rw [hh]; rfl]
      refine lv_icmp_ne (tgt := 592) hx hb dL_law_560 (by decide) (fun q9 => absurd (rfl) q9) (fun _ => ?_)
      refine lv_aload_n hx hb dL_law_563 rfl (lv_at hl 1 rfl) ?_
      refine lv_iload hx hb dL_law_564 (lv_at hl 21 rfl) ?_
      refine lx_i (As := [.int (nI b1)]) (rest := []) F T kg (mX6_homeAgain l dC dI adX cy F.J σ (nI b1) _ (cq_homeAgain hC hb1)) (cwV 1 F.S.2.2.2.2 gL_law_X6_homeAgain rfl rfl rfl dmX6_homeAgain ⟨Nat.le_of_ble_eq_true rfl, Nat.le_of_ble_eq_true rfl⟩) hw rfl rfl hl.1 (Nat.le_of_ble_eq_true rfl) ⟨cL (by omega), sL (by omega)⟩ dL_law_566 (fun H locs hw => ?_)
      rw [show ((oX (homeD d (pbD d b1))) : Int32) = nI ho from by rw [hh]; rfl]
      refine lv_aload_n hx hb dL_law_569 rfl (lv_at hl 1 rfl) ?_
      refine lv_iload hx hb dL_law_570 (lv_at hl 21 rfl) ?_
      refine lx_i (As := [.int (nI b1)]) (rest := [.int (nI ho)]) F T kg (mX6_home l dC dI adX cy F.J σ (nI b1) _ (cq_home hC hb1)) (cwV 1 F.S.2.2.2.2 gL_law_X6_home rfl rfl rfl dmX6_home ⟨Nat.le_of_ble_eq_true rfl, Nat.le_of_ble_eq_true rfl⟩) hw rfl rfl hl.1 (Nat.le_of_ble_eq_true rfl) ⟨cL (by omega), sL (by omega)⟩ dL_law_572 (fun H locs hw => ?_)
      rw [show ((oX (homeD d (pbD d b1))) : Int32) = nI ho from by rw [hh]; rfl]
      refine lv_icmp_ne (tgt := 592) hx hb dL_law_575 (by decide) (fun q9 => absurd (rfl) q9) (fun _ => ?_)
      refine lv_aload_n hx hb dL_law_578 rfl (lv_at hl 1 rfl) ?_
      refine lv_iload hx hb dL_law_579 (lv_at hl 21 rfl) ?_
      refine lx_i (As := [.int (nI b1)]) (rest := []) F T kg (mX6_tellBarge l dC dI adX cy F.J σ (nI b1) _ (ct1)) (cwV 1 F.S.2.2.2.2 gL_law_X6_tellBarge rfl rfl rfl dmX6_tellBarge ⟨Nat.le_of_ble_eq_true rfl, Nat.le_of_ble_eq_true rfl⟩) hw rfl rfl hl.1 (Nat.le_of_ble_eq_true rfl) ⟨cL (by omega), sL (by omega)⟩ dL_law_581 (fun H locs hw => ?_)
      have hC := hC1
      refine lv_aload hx hb dL_law_584 (lv_at hl 28 rfl) ?_
      refine ls_len F kg hw (fun H h => h.2) (cwV 0 F.S.2.2.2.2 gL_law_J0_length_8abf5 rfl rfl rfl dmJ0_length_8abf5 ⟨Nat.le_of_ble_eq_true rfl, Nat.le_of_ble_eq_true rfl⟩) hl.1 (Nat.le_of_ble_eq_true rfl) ⟨cL (by omega), sL (by omega)⟩ dL_law_586 (fun H locs hw => ?_)
      refine lv_icmp_eq (tgt := 594) hx hb dL_law_589 (by decide) (fun _ => ?_) (fun q9 => absurd (congrArg nI (show (lnB d b1).length = (lnB d b1).length by omega)) q9)
      refine lv_iconst (v := nI 0) hx hb dL_law_594 (by decide) ?_
      refine lv_istore (lv' := [(29, .int (nI 0)), (0, .ref b), (1, .ref (adX 0)), (2, .int (nI turn)), (3, .int (nI (dP d))), (4, .int (nI (dB d))), (5, .int 0), (6, .int 0), (7, .int (nI (sumTo (dto d) b1))), (8, .int (nI (lyD d b1))), (9, .int 0), (10, .int 0), (11, .int (nI (dT d))), (12, .ref (adT 0)), (13, .ref (adT 1)), (14, .ref (adT 2)), (15, .ref (adT 3)), (16, .ref (adT 4)), (17, .ref (adT 5)), (18, .ref (adT 6)), (19, .ref (adT 7)), (20, .ref aL), (21, .int (nI b1)), (22, .int (nI (dna d b1))), (23, .int (nI (dto d b1))), (24, .int (nI (pbD d b1))), (25, .int (oM (homeD d (pbD d b1)))), (26, .int (nI (pasD d b1))), (27, .int (oM (lieD d b1))), (28, .ref q28)]) hx hb dL_law_595 hl (by decide) rfl (fun ls hl => ?_)
      refine law_p4c F T hC1 (τ := τ) (aL := aL) (q28 := q28) (v28 := v28) (qs := qs) (vs := vs) hnc hns ct2 ct4 (fun H locs hw ls hl => ?_) (lnB d b1).length 0 (by omega) H locs hw ls (lv_sub hl [1, 2, 3, 4, 5, 6, 7, 8, 9, 10, 11, 12, 13, 14, 15, 16, 17, 18, 19, 20, 21, 22, 23, 24, 25, 26, 27, 28, 29, 0] rfl)
      have hw := LWd.gmap (G2 := GL dC dI cy s zT aL (dP d) qs vs (lnAt d b1)) hw (fun H h => h.1)
      have kg := KG.L (dC, dI) cy aL (dP d) qs vs (lnAt d b1) zT s
      refine lv_iload hx hb dL_law_631 (lv_at hl 7 rfl) ?_
      refine lv_iload hx hb dL_law_633 (lv_at hl 23 rfl) ?_
      refine lv_iadd hx hb dL_law_635 ?_
      rw [show (((nI (sumTo (dto d) b1)) + (nI (dto d b1))) : Int32) = nI (sumTo (dto d) (b1 + 1)) from nI_add _ _]
      refine lv_istore (lv' := [(7, .int (nI (sumTo (dto d) (b1 + 1)))), (0, .ref b), (1, .ref (adX 0)), (2, .int (nI turn)), (3, .int (nI (dP d))), (4, .int (nI (dB d))), (5, .int 0), (6, .int 0), (8, .int (nI (lyD d b1))), (9, .int 0), (10, .int 0), (11, .int (nI (dT d))), (12, .ref (adT 0)), (13, .ref (adT 1)), (14, .ref (adT 2)), (15, .ref (adT 3)), (16, .ref (adT 4)), (17, .ref (adT 5)), (18, .ref (adT 6)), (19, .ref (adT 7)), (20, .ref aL), (21, .int (nI b1)), (22, .int (nI (dna d b1))), (23, .int (nI (dto d b1))), (24, .int (nI (pbD d b1))), (25, .int (oM (homeD d (pbD d b1)))), (26, .int (nI (pasD d b1))), (27, .int (oM (lieD d b1))), (28, .ref q28)]) hx hb dL_law_636 hl (by decide) rfl (fun ls hl => ?_)
      refine lv_aload hx hb dL_law_638 (lv_at hl 18 rfl) ?_
      have hx0 : hxD d b1 = 2 := by unfold hxD; rw [if_pos hlie]
      refine lv_iload hx hb dL_law_640 (lv_at hl 27 rfl) ?_
      rw [show ((oM (lieD d b1)) : Int32) = mI 1 from by rw [hlie]; rfl]
      refine lv_if_ge (tgt := 649) hx hb dL_law_642 (by decide) (fun q9 => absurd q9 (by decide)) (fun _ => ?_)
      refine lv_iconst (v := nI 2) hx hb dL_law_645 (by decide) ?_
      refine lv_goto (tgt := 661) hx hb dL_law_646 (by decide) ?_
      refine lv_dup2_11 hx hb dL_law_661 rfl rfl ?_
      refine lx_ald F T hw 6 (by decide) (i := 2) (v := nI (hwD d b1 2)) (by show 2 < 3; omega) (by omega) (tf6 2 (by omega)) dL_law_662 ?_
      refine lv_iconst (v := 1) hx hb dL_law_663 (by decide) ?_
      refine lv_iadd hx hb dL_law_664 ?_
      rw [show (((nI (hwD d b1 2)) + 1) : Int32) = nI ((hwD d b1 2) + 1) from nI_add (hwD d b1 2) 1]
      refine lx_ast F T kg hw 6 (by decide) (i := 2) (x := (nI ((hwD d b1 2) + 1))) (by show 2 < 3; omega) (by omega) dL_law_665 (fun H locs hw => ?_)
      obtain ⟨τ1, eτ1⟩ : ∃ z : St, z = su τ 6 2 (nI ((hwD d b1 2) + 1)) := ⟨_, rfl⟩
      rw [← eτ1] at hw
      have hs1 : ∀ j, j ≠ 6 → τ1 j = τ j := fun j hj => by rw [eτ1]; exact pz_su_r _ _ hj
      have hs1k : ∀ i, τ1 6 i = if i = 2 then (nI ((hwD d b1 2) + 1)) else τ 6 i := fun i => by rw [eτ1, pz_su_w]; rfl
      have tf0 : ∀ i, i < 360 → τ1 0 i = oA d i := fun i hi => (congrFun (hs1 0 (by decide)) i).trans (tf0 i hi)
      have tf1 : ∀ i, i < 8 → τ1 1 i = nI (stD d i) := fun i hi => (congrFun (hs1 1 (by decide)) i).trans (tf1 i hi)
      have tf2 : ∀ i, i < 8 → τ1 2 i = nI (hcD d b1 i) := fun i hi => (congrFun (hs1 2 (by decide)) i).trans (tf2 i hi)
      have tf3 : ∀ i, i < 8 → τ1 3 i = nI (htD d b1 i) := fun i hi => (congrFun (hs1 3 (by decide)) i).trans (tf3 i hi)
      have tf4 : ∀ i, i < 8 → τ1 4 i = nI (lcD d b1 i) := fun i hi => (congrFun (hs1 4 (by decide)) i).trans (tf4 i hi)
      have tf5 : ∀ i, i < 8 → τ1 5 i = nI (tkD d (b1 + 1) i) := fun i hi => (congrFun (hs1 5 (by decide)) i).trans (tf5 i hi)
      have tf6 : ∀ i, i < 3 → τ1 6 i = nI (hwD d (b1 + 1) i) := row_up (g := fun i => hwD d b1 i) hs1k tf6 (by rw [hw_s, hx0, if_pos rfl]) (fun i hne => by rw [hw_s, hx0, if_neg hne]; rfl)
      refine lv_iload hx hb dL_law_666 (lv_at hl 25 rfl) ?_
      rw [show ((oM (homeD d (pbD d b1))) : Int32) = nI ho from by rw [hh]; rfl]
      refine lv_if_lt (tgt := 690) hx hb dL_law_668 (by decide) (fun q9 => absurd q9 (nI_pos (by omega))) (fun _ => ?_)
      refine lv_aload hx hb dL_law_671 (lv_at hl 14 rfl) ?_
      refine lv_iload hx hb dL_law_673 (lv_at hl 25 rfl) ?_
      rw [show ((oM (homeD d (pbD d b1))) : Int32) = nI ho from by rw [hh]; rfl]
      refine lv_dup2_11 hx hb dL_law_675 rfl rfl ?_
      refine lx_ald F T hw 2 (by decide) (i := ho) (v := nI (hcD d b1 ho)) (by show ho < 8; omega) (by omega) (tf2 ho (by omega)) dL_law_676 ?_
      refine lv_iconst (v := 1) hx hb dL_law_677 (by decide) ?_
      refine lv_iadd hx hb dL_law_678 ?_
      rw [show (((nI (hcD d b1 ho)) + 1) : Int32) = nI ((hcD d b1 ho) + 1) from nI_add (hcD d b1 ho) 1]
      refine lx_ast F T kg hw 2 (by decide) (i := ho) (x := (nI ((hcD d b1 ho) + 1))) (by show ho < 8; omega) (by omega) dL_law_679 (fun H locs hw => ?_)
      obtain ⟨τ2, eτ2⟩ : ∃ z : St, z = su τ1 2 ho (nI ((hcD d b1 ho) + 1)) := ⟨_, rfl⟩
      rw [← eτ2] at hw
      have hs2 : ∀ j, j ≠ 2 → τ2 j = τ1 j := fun j hj => by rw [eτ2]; exact pz_su_r _ _ hj
      have hs2k : ∀ i, τ2 2 i = if i = ho then (nI ((hcD d b1 ho) + 1)) else τ1 2 i := fun i => by rw [eτ2, pz_su_w]; rfl
      have tf0 : ∀ i, i < 360 → τ2 0 i = oA d i := fun i hi => (congrFun (hs2 0 (by decide)) i).trans (tf0 i hi)
      have tf1 : ∀ i, i < 8 → τ2 1 i = nI (stD d i) := fun i hi => (congrFun (hs2 1 (by decide)) i).trans (tf1 i hi)
      have tf3 : ∀ i, i < 8 → τ2 3 i = nI (htD d b1 i) := fun i hi => (congrFun (hs2 3 (by decide)) i).trans (tf3 i hi)
      have tf4 : ∀ i, i < 8 → τ2 4 i = nI (lcD d b1 i) := fun i hi => (congrFun (hs2 4 (by decide)) i).trans (tf4 i hi)
      have tf5 : ∀ i, i < 8 → τ2 5 i = nI (tkD d (b1 + 1) i) := fun i hi => (congrFun (hs2 5 (by decide)) i).trans (tf5 i hi)
      have tf6 : ∀ i, i < 3 → τ2 6 i = nI (hwD d (b1 + 1) i) := fun i hi => (congrFun (hs2 6 (by decide)) i).trans (tf6 i hi)
      have tf2 : ∀ i, i < 8 → τ2 2 i = nI (hcD d (b1 + 1) i) := row_up (g := fun i => hcD d b1 i) hs2k tf2 (by rw [hcD_s, if_pos hh]) (fun i hne => by rw [hcD_s, if_neg (fun z => by rw [hh] at z; exact hne (Option.some.inj z).symm)]; rfl)
      refine lv_aload hx hb dL_law_680 (lv_at hl 15 rfl) ?_
      refine lv_iload hx hb dL_law_682 (lv_at hl 25 rfl) ?_
      rw [show ((oM (homeD d (pbD d b1))) : Int32) = nI ho from by rw [hh]; rfl]
      refine lv_dup2_11 hx hb dL_law_684 rfl rfl ?_
      refine lx_ald F T hw 3 (by decide) (i := ho) (v := nI (htD d b1 ho)) (by show ho < 8; omega) (by omega) (tf3 ho (by omega)) dL_law_685 ?_
      refine lv_iload hx hb dL_law_686 (lv_at hl 23 rfl) ?_
      refine lv_iadd hx hb dL_law_688 ?_
      rw [show (((nI (htD d b1 ho)) + (nI (dto d b1))) : Int32) = nI ((htD d b1 ho) + (dto d b1)) from nI_add (htD d b1 ho) (dto d b1)]
      refine lx_ast F T kg hw 3 (by decide) (i := ho) (x := (nI ((htD d b1 ho) + (dto d b1)))) (by show ho < 8; omega) (by omega) dL_law_689 (fun H locs hw => ?_)
      obtain ⟨τ3, eτ3⟩ : ∃ z : St, z = su τ2 3 ho (nI ((htD d b1 ho) + (dto d b1))) := ⟨_, rfl⟩
      rw [← eτ3] at hw
      have hs3 : ∀ j, j ≠ 3 → τ3 j = τ2 j := fun j hj => by rw [eτ3]; exact pz_su_r _ _ hj
      have hs3k : ∀ i, τ3 3 i = if i = ho then (nI ((htD d b1 ho) + (dto d b1))) else τ2 3 i := fun i => by rw [eτ3, pz_su_w]; rfl
      have tf0 : ∀ i, i < 360 → τ3 0 i = oA d i := fun i hi => (congrFun (hs3 0 (by decide)) i).trans (tf0 i hi)
      have tf1 : ∀ i, i < 8 → τ3 1 i = nI (stD d i) := fun i hi => (congrFun (hs3 1 (by decide)) i).trans (tf1 i hi)
      have tf2 : ∀ i, i < 8 → τ3 2 i = nI (hcD d (b1 + 1) i) := fun i hi => (congrFun (hs3 2 (by decide)) i).trans (tf2 i hi)
      have tf4 : ∀ i, i < 8 → τ3 4 i = nI (lcD d b1 i) := fun i hi => (congrFun (hs3 4 (by decide)) i).trans (tf4 i hi)
      have tf5 : ∀ i, i < 8 → τ3 5 i = nI (tkD d (b1 + 1) i) := fun i hi => (congrFun (hs3 5 (by decide)) i).trans (tf5 i hi)
      have tf6 : ∀ i, i < 3 → τ3 6 i = nI (hwD d (b1 + 1) i) := fun i hi => (congrFun (hs3 6 (by decide)) i).trans (tf6 i hi)
      have tf3 : ∀ i, i < 8 → τ3 3 i = nI (htD d (b1 + 1) i) := row_up (g := fun i => htD d b1 i) hs3k tf3 (by rw [htD_s, if_pos hh]) (fun i hne => by rw [htD_s, if_neg (fun z => by rw [hh] at z; exact hne (Option.some.inj z).symm)]; rfl)
      have tf4 : ∀ i, i < 8 → τ3 4 i = nI (lcD d (b1 + 1) i) := fun i hi => by rw [tf4 i hi, lcD_s, if_neg (fun z => by rw [hlie] at z; cases z)]; rfl
      rw [← ly_none hlie] at hl
      refine lv_iload hx hb dL_law_690 (lv_at hl 27 rfl) ?_
      rw [show ((oM (lieD d b1)) : Int32) = mI 1 from by rw [hlie]; rfl]
      refine lv_if_ge (tgt := 698) hx hb dL_law_692 (by decide) (fun q9 => absurd q9 (by decide)) (fun _ => ?_)
      refine lv_goto (tgt := 760) hx hb dL_law_695 (by decide) ?_
      refine lv_iinc (v := nI (b1 + 1)) (lv' := [(21, .int (nI (b1 + 1))), (7, .int (nI (sumTo (dto d) (b1 + 1)))), (0, .ref b), (1, .ref (adX 0)), (2, .int (nI turn)), (3, .int (nI (dP d))), (4, .int (nI (dB d))), (5, .int 0), (6, .int 0), (8, .int (nI (lyD d (b1 + 1)))), (9, .int 0), (10, .int 0), (11, .int (nI (dT d))), (12, .ref (adT 0)), (13, .ref (adT 1)), (14, .ref (adT 2)), (15, .ref (adT 3)), (16, .ref (adT 4)), (17, .ref (adT 5)), (18, .ref (adT 6)), (19, .ref (adT 7)), (20, .ref aL), (22, .int (nI (dna d b1))), (23, .int (nI (dto d b1))), (24, .int (nI (pbD d b1))), (25, .int (oM (homeD d (pbD d b1)))), (26, .int (nI (pasD d b1))), (27, .int (oM (lieD d b1))), (28, .ref q28)]) hx hb dL_law_760 hl (k := 21) rfl (nI_1 b1) (by decide) rfl (fun ls hl => ?_)
      refine lv_goto (tgt := 256) hx hb dL_law_763 (by decide) ?_
      have hw := LWd.gmap (G2 := GL dC dI cy s zT aL (dP d) qs vs (lnAt d (b1 + 1))) hw (fun H h => h.congr (fun j _ => (lnAt_none hlie j).symm))
      refine lx_mono (k := nc + 7) (n' := ns + 824) (by omega) (by omega) ?_
      exact kk σ1 τ3 qs vs hI1 tf0 tf1 tf2 tf3 tf4 tf5 tf6 H locs hw ls (lv_sub hl [2, 3, 4, 5, 6, 7, 8, 1, 9, 10, 11, 12, 13, 14, 15, 16, 17, 18, 19, 20, 21, 0] rfl)
  | some po =>
    have hp : po < dP d := lieD_lt hlie
    cases hh : homeD d (pbD d b1) with
    | none =>
      refine lv_aload_n hx hb dL_law_496 rfl (lv_at hl 1 rfl) ?_
      refine lv_iload hx hb dL_law_497 (lv_at hl 21 rfl) ?_
      refine lv_iconst (v := 2) hx hb dL_law_499 (by decide) ?_
      refine lx_i (As := [.int (nI b1), .int 2]) (rest := []) F T kg (mX6_bargeOf l dC dI adX cy F.J σ (nI b1) 2 _ (cq_b2 hC hb1)) (cwV 2 F.S.2.2.2.2 gL_law_X6_bargeOf rfl rfl rfl dmX6_bargeOf ⟨Nat.le_of_ble_eq_true rfl, Nat.le_of_ble_eq_true rfl⟩) hw rfl rfl hl.1 (Nat.le_of_ble_eq_true rfl) ⟨cL (by omega), sL (by omega)⟩ dL_law_500 (fun H locs hw => ?_)
      refine lv_iload hx hb dL_law_503 (lv_at hl 24 rfl) ?_
      refine lv_icmp_ne (tgt := 592) hx hb dL_law_505 (by decide) (fun q9 => absurd (congrArg nI (show (pbD d b1) = (pbD d b1) by omega)) q9) (fun _ => ?_)
      refine lv_aload_n hx hb dL_law_508 rfl (lv_at hl 1 rfl) ?_
      refine lv_iload hx hb dL_law_509 (lv_at hl 21 rfl) ?_
      refine lv_iconst (v := 3) hx hb dL_law_511 (by decide) ?_
      refine lx_i (As := [.int (nI b1), .int 3]) (rest := []) F T kg (mX6_bargeOf l dC dI adX cy F.J σ (nI b1) 3 _ (cq_b3 hC hb1)) (cwV 2 F.S.2.2.2.2 gL_law_X6_bargeOf rfl rfl rfl dmX6_bargeOf ⟨Nat.le_of_ble_eq_true rfl, Nat.le_of_ble_eq_true rfl⟩) hw rfl rfl hl.1 (Nat.le_of_ble_eq_true rfl) ⟨cL (by omega), sL (by omega)⟩ dL_law_512 (fun H locs hw => ?_)
      rw [show ((oX (lieD d b1)) : Int32) = nI po from by rw [hlie]; rfl]
      refine lv_iload hx hb dL_law_515 (lv_at hl 27 rfl) ?_
      rw [show ((oM (lieD d b1)) : Int32) = nI po from by rw [hlie]; rfl]
      refine lv_if_ge (tgt := 525) hx hb dL_law_517 (by decide) (fun _ => ?_) (fun q9 => absurd (nI_pos' (by omega)) q9)
      refine lv_iload hx hb dL_law_525 (lv_at hl 27 rfl) ?_
      rw [show ((oM (lieD d b1)) : Int32) = nI po from by rw [hlie]; rfl]
      refine lv_icmp_ne (tgt := 592) hx hb dL_law_527 (by decide) (fun q9 => absurd (rfl) q9) (fun _ => ?_)
      refine lv_aload_n hx hb dL_law_530 rfl (lv_at hl 1 rfl) ?_
      refine lv_iload hx hb dL_law_531 (lv_at hl 21 rfl) ?_
      refine lv_iconst (v := 4) hx hb dL_law_533 (by decide) ?_
      refine lx_i (As := [.int (nI b1), .int 4]) (rest := []) F T kg (mX6_bargeOf l dC dI adX cy F.J σ (nI b1) 4 _ (cq_b4 hC hb1)) (cwV 2 F.S.2.2.2.2 gL_law_X6_bargeOf rfl rfl rfl dmX6_bargeOf ⟨Nat.le_of_ble_eq_true rfl, Nat.le_of_ble_eq_true rfl⟩) hw rfl rfl hl.1 (Nat.le_of_ble_eq_true rfl) ⟨cL (by omega), sL (by omega)⟩ dL_law_534 (fun H locs hw => ?_)
      refine lv_iload hx hb dL_law_537 (lv_at hl 26 rfl) ?_
      refine lv_icmp_ne (tgt := 592) hx hb dL_law_539 (by decide) (fun q9 => absurd (congrArg nI (show (pasD d b1) = (pasD d b1) by omega)) q9) (fun _ => ?_)
      refine lv_aload_n hx hb dL_law_542 rfl (lv_at hl 1 rfl) ?_
      refine lv_iload hx hb dL_law_543 (lv_at hl 21 rfl) ?_
      refine lx_i (As := [.int (nI b1)]) (rest := []) F T kg (mX6_home l dC dI adX cy F.J σ (nI b1) _ (cq_home hC hb1)) (cwV 1 F.S.2.2.2.2 gL_law_X6_home rfl rfl rfl dmX6_home ⟨Nat.le_of_ble_eq_true rfl, Nat.le_of_ble_eq_true rfl⟩) hw rfl rfl hl.1 (Nat.le_of_ble_eq_true rfl) ⟨cL (by omega), sL (by omega)⟩ dL_law_545 (fun H locs hw => ?_)
      rw [show ((oX (homeD d (pbD d b1))) : Int32) = mI 15 from by rw [hh]; rfl]
      refine lv_iload hx hb dL_law_548 (lv_at hl 25 rfl) ?_
      rw [show ((oM (homeD d (pbD d b1))) : Int32) = mI 1 from by rw [hh]; rfl]
      refine lv_if_ge (tgt := 558) hx hb dL_law_550 (by decide) (fun q9 => absurd q9 (by decide)) (fun _ => ?_)
      refine lv_bipush (v := mI 15) hx hb dL_law_553 (by decide) ?_
      refine lv_goto (tgt := 560) hx hb dL_law_555 (by decide) ?_
      refine lv_icmp_ne (tgt := 592) hx hb dL_law_560 (by decide) (fun q9 => absurd (rfl) q9) (fun _ => ?_)
      refine lv_aload_n hx hb dL_law_563 rfl (lv_at hl 1 rfl) ?_
      refine lv_iload hx hb dL_law_564 (lv_at hl 21 rfl) ?_
      refine lx_i (As := [.int (nI b1)]) (rest := []) F T kg (mX6_homeAgain l dC dI adX cy F.J σ (nI b1) _ (cq_homeAgain hC hb1)) (cwV 1 F.S.2.2.2.2 gL_law_X6_homeAgain rfl rfl rfl dmX6_homeAgain ⟨Nat.le_of_ble_eq_true rfl, Nat.le_of_ble_eq_true rfl⟩) hw rfl rfl hl.1 (Nat.le_of_ble_eq_true rfl) ⟨cL (by omega), sL (by omega)⟩ dL_law_566 (fun H locs hw => ?_)
      rw [show ((oX (homeD d (pbD d b1))) : Int32) = mI 15 from by rw [hh]; rfl]
      refine lv_aload_n hx hb dL_law_569 rfl (lv_at hl 1 rfl) ?_
      refine lv_iload hx hb dL_law_570 (lv_at hl 21 rfl) ?_
      refine lx_i (As := [.int (nI b1)]) (rest := [.int (mI 15)]) F T kg (mX6_home l dC dI adX cy F.J σ (nI b1) _ (cq_home hC hb1)) (cwV 1 F.S.2.2.2.2 gL_law_X6_home rfl rfl rfl dmX6_home ⟨Nat.le_of_ble_eq_true rfl, Nat.le_of_ble_eq_true rfl⟩) hw rfl rfl hl.1 (Nat.le_of_ble_eq_true rfl) ⟨cL (by omega), sL (by omega)⟩ dL_law_572 (fun H locs hw => ?_)
      rw [show ((oX (homeD d (pbD d b1))) : Int32) = mI 15 from by rw [hh]; rfl]
      refine lv_icmp_ne (tgt := 592) hx hb dL_law_575 (by decide) (fun q9 => absurd (rfl) q9) (fun _ => ?_)
      refine lv_aload_n hx hb dL_law_578 rfl (lv_at hl 1 rfl) ?_
      refine lv_iload hx hb dL_law_579 (lv_at hl 21 rfl) ?_
      refine lx_i (As := [.int (nI b1)]) (rest := []) F T kg (mX6_tellBarge l dC dI adX cy F.J σ (nI b1) _ (ct1)) (cwV 1 F.S.2.2.2.2 gL_law_X6_tellBarge rfl rfl rfl dmX6_tellBarge ⟨Nat.le_of_ble_eq_true rfl, Nat.le_of_ble_eq_true rfl⟩) hw rfl rfl hl.1 (Nat.le_of_ble_eq_true rfl) ⟨cL (by omega), sL (by omega)⟩ dL_law_581 (fun H locs hw => ?_)
      have hC := hC1
      refine lv_aload hx hb dL_law_584 (lv_at hl 28 rfl) ?_
      refine ls_len F kg hw (fun H h => h.2) (cwV 0 F.S.2.2.2.2 gL_law_J0_length_8abf5 rfl rfl rfl dmJ0_length_8abf5 ⟨Nat.le_of_ble_eq_true rfl, Nat.le_of_ble_eq_true rfl⟩) hl.1 (Nat.le_of_ble_eq_true rfl) ⟨cL (by omega), sL (by omega)⟩ dL_law_586 (fun H locs hw => ?_)
      refine lv_icmp_eq (tgt := 594) hx hb dL_law_589 (by decide) (fun _ => ?_) (fun q9 => absurd (congrArg nI (show (lnB d b1).length = (lnB d b1).length by omega)) q9)
      refine lv_iconst (v := nI 0) hx hb dL_law_594 (by decide) ?_
      refine lv_istore (lv' := [(29, .int (nI 0)), (0, .ref b), (1, .ref (adX 0)), (2, .int (nI turn)), (3, .int (nI (dP d))), (4, .int (nI (dB d))), (5, .int 0), (6, .int 0), (7, .int (nI (sumTo (dto d) b1))), (8, .int (nI (lyD d b1))), (9, .int 0), (10, .int 0), (11, .int (nI (dT d))), (12, .ref (adT 0)), (13, .ref (adT 1)), (14, .ref (adT 2)), (15, .ref (adT 3)), (16, .ref (adT 4)), (17, .ref (adT 5)), (18, .ref (adT 6)), (19, .ref (adT 7)), (20, .ref aL), (21, .int (nI b1)), (22, .int (nI (dna d b1))), (23, .int (nI (dto d b1))), (24, .int (nI (pbD d b1))), (25, .int (oM (homeD d (pbD d b1)))), (26, .int (nI (pasD d b1))), (27, .int (oM (lieD d b1))), (28, .ref q28)]) hx hb dL_law_595 hl (by decide) rfl (fun ls hl => ?_)
      refine law_p4c F T hC1 (τ := τ) (aL := aL) (q28 := q28) (v28 := v28) (qs := qs) (vs := vs) hnc hns ct2 ct4 (fun H locs hw ls hl => ?_) (lnB d b1).length 0 (by omega) H locs hw ls (lv_sub hl [1, 2, 3, 4, 5, 6, 7, 8, 9, 10, 11, 12, 13, 14, 15, 16, 17, 18, 19, 20, 21, 22, 23, 24, 25, 26, 27, 28, 29, 0] rfl)
      have hw := LWd.gmap (G2 := GL dC dI cy s zT aL (dP d) qs vs (lnAt d b1)) hw (fun H h => h.1)
      have kg := KG.L (dC, dI) cy aL (dP d) qs vs (lnAt d b1) zT s
      refine lv_iload hx hb dL_law_631 (lv_at hl 7 rfl) ?_
      refine lv_iload hx hb dL_law_633 (lv_at hl 23 rfl) ?_
      refine lv_iadd hx hb dL_law_635 ?_
      rw [show (((nI (sumTo (dto d) b1)) + (nI (dto d b1))) : Int32) = nI (sumTo (dto d) (b1 + 1)) from nI_add _ _]
      refine lv_istore (lv' := [(7, .int (nI (sumTo (dto d) (b1 + 1)))), (0, .ref b), (1, .ref (adX 0)), (2, .int (nI turn)), (3, .int (nI (dP d))), (4, .int (nI (dB d))), (5, .int 0), (6, .int 0), (8, .int (nI (lyD d b1))), (9, .int 0), (10, .int 0), (11, .int (nI (dT d))), (12, .ref (adT 0)), (13, .ref (adT 1)), (14, .ref (adT 2)), (15, .ref (adT 3)), (16, .ref (adT 4)), (17, .ref (adT 5)), (18, .ref (adT 6)), (19, .ref (adT 7)), (20, .ref aL), (21, .int (nI b1)), (22, .int (nI (dna d b1))), (23, .int (nI (dto d b1))), (24, .int (nI (pbD d b1))), (25, .int (oM (homeD d (pbD d b1)))), (26, .int (nI (pasD d b1))), (27, .int (oM (lieD d b1))), (28, .ref q28)]) hx hb dL_law_636 hl (by decide) rfl (fun ls hl => ?_)
      refine lv_aload hx hb dL_law_638 (lv_at hl 18 rfl) ?_
      have hx0 : hxD d b1 = 1 := by unfold hxD; rw [if_neg (fun z => by rw [hlie] at z; cases z), if_neg (fun z => by rw [hlie, hh] at z; cases z)]
      refine lv_iload hx hb dL_law_640 (lv_at hl 27 rfl) ?_
      rw [show ((oM (lieD d b1)) : Int32) = nI po from by rw [hlie]; rfl]
      refine lv_if_ge (tgt := 649) hx hb dL_law_642 (by decide) (fun _ => ?_) (fun q9 => absurd (nI_pos' (by omega)) q9)
      refine lv_iload hx hb dL_law_649 (lv_at hl 27 rfl) ?_
      rw [show ((oM (lieD d b1)) : Int32) = nI po from by rw [hlie]; rfl]
      refine lv_iload hx hb dL_law_651 (lv_at hl 25 rfl) ?_
      rw [show ((oM (homeD d (pbD d b1))) : Int32) = mI 1 from by rw [hh]; rfl]
      refine lv_icmp_ne (tgt := 660) hx hb dL_law_653 (by decide) (fun _ => ?_) (fun q9 => absurd q9 (pz_nm (by omega) (by omega) (by omega)))
      refine lv_iconst (v := nI 1) hx hb dL_law_660 (by decide) ?_
      refine lv_dup2_11 hx hb dL_law_661 rfl rfl ?_
      refine lx_ald F T hw 6 (by decide) (i := 1) (v := nI (hwD d b1 1)) (by show 1 < 3; omega) (by omega) (tf6 1 (by omega)) dL_law_662 ?_
      refine lv_iconst (v := 1) hx hb dL_law_663 (by decide) ?_
      refine lv_iadd hx hb dL_law_664 ?_
      rw [show (((nI (hwD d b1 1)) + 1) : Int32) = nI ((hwD d b1 1) + 1) from nI_add (hwD d b1 1) 1]
      refine lx_ast F T kg hw 6 (by decide) (i := 1) (x := (nI ((hwD d b1 1) + 1))) (by show 1 < 3; omega) (by omega) dL_law_665 (fun H locs hw => ?_)
      obtain ⟨τ1, eτ1⟩ : ∃ z : St, z = su τ 6 1 (nI ((hwD d b1 1) + 1)) := ⟨_, rfl⟩
      rw [← eτ1] at hw
      have hs1 : ∀ j, j ≠ 6 → τ1 j = τ j := fun j hj => by rw [eτ1]; exact pz_su_r _ _ hj
      have hs1k : ∀ i, τ1 6 i = if i = 1 then (nI ((hwD d b1 1) + 1)) else τ 6 i := fun i => by rw [eτ1, pz_su_w]; rfl
      have tf0 : ∀ i, i < 360 → τ1 0 i = oA d i := fun i hi => (congrFun (hs1 0 (by decide)) i).trans (tf0 i hi)
      have tf1 : ∀ i, i < 8 → τ1 1 i = nI (stD d i) := fun i hi => (congrFun (hs1 1 (by decide)) i).trans (tf1 i hi)
      have tf2 : ∀ i, i < 8 → τ1 2 i = nI (hcD d b1 i) := fun i hi => (congrFun (hs1 2 (by decide)) i).trans (tf2 i hi)
      have tf3 : ∀ i, i < 8 → τ1 3 i = nI (htD d b1 i) := fun i hi => (congrFun (hs1 3 (by decide)) i).trans (tf3 i hi)
      have tf4 : ∀ i, i < 8 → τ1 4 i = nI (lcD d b1 i) := fun i hi => (congrFun (hs1 4 (by decide)) i).trans (tf4 i hi)
      have tf5 : ∀ i, i < 8 → τ1 5 i = nI (tkD d (b1 + 1) i) := fun i hi => (congrFun (hs1 5 (by decide)) i).trans (tf5 i hi)
      have tf6 : ∀ i, i < 3 → τ1 6 i = nI (hwD d (b1 + 1) i) := row_up (g := fun i => hwD d b1 i) hs1k tf6 (by rw [hw_s, hx0, if_pos rfl]) (fun i hne => by rw [hw_s, hx0, if_neg hne]; rfl)
      refine lv_iload hx hb dL_law_666 (lv_at hl 25 rfl) ?_
      rw [show ((oM (homeD d (pbD d b1))) : Int32) = mI 1 from by rw [hh]; rfl]
      refine lv_if_lt (tgt := 690) hx hb dL_law_668 (by decide) (fun _ => ?_) (fun q9 => absurd (by decide) q9)
      have tf2 : ∀ i, i < 8 → τ1 2 i = nI (hcD d (b1 + 1) i) := fun i hi => by rw [tf2 i hi, hcD_s, if_neg (fun z => by rw [hh] at z; cases z)]; rfl
      have tf3 : ∀ i, i < 8 → τ1 3 i = nI (htD d (b1 + 1) i) := fun i hi => by rw [tf3 i hi, htD_s, if_neg (fun z => by rw [hh] at z; cases z)]; rfl
      refine lv_iload hx hb dL_law_690 (lv_at hl 27 rfl) ?_
      rw [show ((oM (lieD d b1)) : Int32) = nI po from by rw [hlie]; rfl]
      refine lv_if_ge (tgt := 698) hx hb dL_law_692 (by decide) (fun _ => ?_) (fun q9 => absurd (nI_pos' (by omega)) q9)
      refine lv_aload hx hb dL_law_698 (lv_at hl 20 rfl) ?_
      refine lv_iload hx hb dL_law_700 (lv_at hl 27 rfl) ?_
      rw [show ((oM (lieD d b1)) : Int32) = nI po from by rw [hlie]; rfl]
      have hzs1 := hw.z
      refine lb_new F T jl_J4 gL_law_J4_init_da8c8 (F.S.2.2.2.2 _ jl_1) (F.S.2.2.2.2 _ jl_2) (F.S.2.2.2.2 _ jl_3) (F.S.2.2.2.2 _ jl_4) (F.S.2.2.2.2 _ jl_5) hw hl.1 (Nat.le_of_ble_eq_true rfl) ⟨Nat.le_of_ble_eq_true rfl, Nat.le_of_ble_eq_true rfl⟩ ⟨cL (by omega), sL (by omega)⟩ dL_law_702 dL_law_705 dL_law_706 (fun B1 V1 H1 locs1 hw1 => ?_)
      have ht1 : ([] : List Nat).length ≤ 0 := Nat.le_refl _
      have kgB1 : ∀ V mb a t, KG zT (GB dC dI cy zT H B1 V mb a t) := fun _ _ _ _ => KG.B hzs1
      refine lv_aload hx hb dL_law_709 (lv_at hl 20 rfl) ?_
      refine lv_iload hx hb dL_law_711 (lv_at hl 27 rfl) ?_
      rw [show ((oM (lieD d b1)) : Int32) = nI po from by rw [hlie]; rfl]
      refine ls_ald (i := po) F hw1 (((hw.g.keep (fun x x1 x2 => hw1.g.1.2 x x1 x2)).top)) (by omega) (by omega) dL_law_713 ?_
      refine lb_made F T hzs1 hw1 (hw.g.2.2 po hp).2.2 (Nat.le_refl _) (Nat.le_refl _) (Nat.le_trans (Nat.add_le_add ht1 (lnAt_len (n := b1) hC.1 (by omega) hp)) (by omega)) (cwV 1 F.S.2.2.2.2 gL_law_J4_append_15ec4 rfl rfl rfl dmJ4_append_15ec4 ⟨Nat.le_of_ble_eq_true rfl, Nat.le_of_ble_eq_true rfl⟩) hl.1 (Nat.le_of_ble_eq_true rfl) ⟨cL (by omega), sL (by omega)⟩ dL_law_714 (fun V1 m1 a1 H1 locs1 hw1 => ?_)
      have ht1 := tl_made ht1 (lnAt_len (n := b1) hC.1 (by omega) hp)
      refine lv_aload hx hb dL_law_717 (lv_at hl 16 rfl) ?_
      refine lv_iload hx hb dL_law_719 (lv_at hl 27 rfl) ?_
      rw [show ((oM (lieD d b1)) : Int32) = nI po from by rw [hlie]; rfl]
      refine lx_ald F T hw1 4 (by decide) (i := po) (v := nI (lcD d b1 po)) (by show po < 8; omega) (by omega) (tf4 po (by omega)) dL_law_721 ?_
      by_cases hz0 : lcD d b1 po = 0
      · have hlc : lcD d b1 po ≤ 24 := Nat.le_trans (by have := sumTo_le (f := fun j => if lieD d j = some po then 1 else 0) (c := 1) b1 (fun j _ => by show (if _ then 1 else 0) ≤ 1; split <;> omega); show sumTo _ b1 ≤ b1; omega) (show b1 ≤ 24 by omega)
        refine lv_if_le (tgt := 730) hx hb dL_law_722 (by decide) (fun _ => ?_) (fun q9 => absurd (by rw [hz0]; decide) q9)
        refine lk_ldc 1 (by decide) F dL_law_730 ?_
        refine lb_const 1 (by decide) F T hzs1 hw1 (Nat.le_trans ht1 (by omega)) (cwV 1 F.S.2.2.2.2 gL_law_J4_append_15ec4 rfl rfl rfl dmJ4_append_15ec4 ⟨Nat.le_of_ble_eq_true rfl, Nat.le_of_ble_eq_true rfl⟩) hl.1 (Nat.le_of_ble_eq_true rfl) ⟨cL (by omega), sL (by omega)⟩ dL_law_732 (fun V1 m1 a1 H1 locs1 hw1 => ?_)
        have ht1 := tl_const ht1 1 (by decide)
        refine lv_iload hx hb dL_law_735 (lv_at hl 21 rfl) ?_
        refine lb_int (v := b1) F T hzs1 hw1 (Nat.le_trans ht1 (by omega)) (by omega) (cwV 1 F.S.2.2.2.2 gL_law_J4_append_bf812 rfl rfl rfl dmJ4_append_bf812 ⟨Nat.le_of_ble_eq_true rfl, Nat.le_of_ble_eq_true rfl⟩) hl.1 (Nat.le_of_ble_eq_true rfl) ⟨cL (by omega), sL (by omega)⟩ dL_law_737 (fun V1 m1 a1 H1 locs1 hw1 => ?_)
        have ht1 := tl_int ht1 b1
        refine lb_toS F T jl_J0 hzs1 (kg) hw.g hw1 (cwV 0 F.S.2.2.2.2 gL_law_J4_toString_0e30d rfl rfl rfl dmJ4_toString_0e30d ⟨Nat.le_of_ble_eq_true rfl, Nat.le_of_ble_eq_true rfl⟩) hl.1 (Nat.le_of_ble_eq_true rfl) ⟨cL (by omega), sL (by omega)⟩ dL_law_740 (fun q1 v1 H9 locs9 hw9 hA1 hP1 hz1 hk1 => ?_)
        refine lb_put (i := po) (n := dP d) F T hw.z hw.g (by omega) (by omega) hw9 hA1 hP1 hk1 dL_law_743 (fun qs vs H locs hw => ?_)
        have hw := LWd.gmap (G2 := GL dC dI cy s zT aL (dP d) qs vs (lnAt d (b1 + 1))) hw (fun H h => by
          rw [if_neg (by omega)] at h
          refine h.congr (fun j hj => ?_)
          by_cases ejp : j = po
          · rw [if_pos ejp, ejp, lnAt_this hlie]; rw [if_pos hz0]; simp [kch]
          · rw [if_neg ejp, lnAt_other hlie ejp])
        have kg := KG.L (dC, dI) cy aL (dP d) qs vs (lnAt d (b1 + 1)) zT s
        refine lv_aload hx hb dL_law_744 (lv_at hl 16 rfl) ?_
        refine lv_iload hx hb dL_law_746 (lv_at hl 27 rfl) ?_
        rw [show ((oM (lieD d b1)) : Int32) = nI po from by rw [hlie]; rfl]
        refine lv_dup2_11 hx hb dL_law_748 rfl rfl ?_
        refine lx_ald F T hw 4 (by decide) (i := po) (v := nI (lcD d b1 po)) (by show po < 8; omega) (by omega) (tf4 po (by omega)) dL_law_749 ?_
        refine lv_iconst (v := 1) hx hb dL_law_750 (by decide) ?_
        refine lv_iadd hx hb dL_law_751 ?_
        rw [show (((nI (lcD d b1 po)) + 1) : Int32) = nI ((lcD d b1 po) + 1) from nI_add (lcD d b1 po) 1]
        refine lx_ast F T kg hw 4 (by decide) (i := po) (x := (nI ((lcD d b1 po) + 1))) (by show po < 8; omega) (by omega) dL_law_752 (fun H locs hw => ?_)
        obtain ⟨τ2, eτ2⟩ : ∃ z : St, z = su τ1 4 po (nI ((lcD d b1 po) + 1)) := ⟨_, rfl⟩
        rw [← eτ2] at hw
        have hs2 : ∀ j, j ≠ 4 → τ2 j = τ1 j := fun j hj => by rw [eτ2]; exact pz_su_r _ _ hj
        have hs2k : ∀ i, τ2 4 i = if i = po then (nI ((lcD d b1 po) + 1)) else τ1 4 i := fun i => by rw [eτ2, pz_su_w]; rfl
        have tf0 : ∀ i, i < 360 → τ2 0 i = oA d i := fun i hi => (congrFun (hs2 0 (by decide)) i).trans (tf0 i hi)
        have tf1 : ∀ i, i < 8 → τ2 1 i = nI (stD d i) := fun i hi => (congrFun (hs2 1 (by decide)) i).trans (tf1 i hi)
        have tf2 : ∀ i, i < 8 → τ2 2 i = nI (hcD d (b1 + 1) i) := fun i hi => (congrFun (hs2 2 (by decide)) i).trans (tf2 i hi)
        have tf3 : ∀ i, i < 8 → τ2 3 i = nI (htD d (b1 + 1) i) := fun i hi => (congrFun (hs2 3 (by decide)) i).trans (tf3 i hi)
        have tf5 : ∀ i, i < 8 → τ2 5 i = nI (tkD d (b1 + 1) i) := fun i hi => (congrFun (hs2 5 (by decide)) i).trans (tf5 i hi)
        have tf6 : ∀ i, i < 3 → τ2 6 i = nI (hwD d (b1 + 1) i) := fun i hi => (congrFun (hs2 6 (by decide)) i).trans (tf6 i hi)
        have tf4 : ∀ i, i < 8 → τ2 4 i = nI (lcD d (b1 + 1) i) := row_up (g := fun i => lcD d b1 i) hs2k tf4 (by rw [lcD_s, if_pos hlie]) (fun i hne => by rw [lcD_s, if_neg (fun z => by rw [hlie] at z; exact hne (Option.some.inj z).symm)]; rfl)
        refine lv_iload hx hb dL_law_753 (lv_at hl 8 rfl) ?_
        refine lv_iload hx hb dL_law_755 (lv_at hl 23 rfl) ?_
        refine lv_iadd hx hb dL_law_757 ?_
        rw [show (((nI (lyD d b1)) + (nI (dto d b1))) : Int32) = nI (lyD d (b1 + 1)) from by rw [ly_some hlie]; exact nI_add _ _]
        refine lv_istore (lv' := [(8, .int (nI (lyD d (b1 + 1)))), (7, .int (nI (sumTo (dto d) (b1 + 1)))), (0, .ref b), (1, .ref (adX 0)), (2, .int (nI turn)), (3, .int (nI (dP d))), (4, .int (nI (dB d))), (5, .int 0), (6, .int 0), (9, .int 0), (10, .int 0), (11, .int (nI (dT d))), (12, .ref (adT 0)), (13, .ref (adT 1)), (14, .ref (adT 2)), (15, .ref (adT 3)), (16, .ref (adT 4)), (17, .ref (adT 5)), (18, .ref (adT 6)), (19, .ref (adT 7)), (20, .ref aL), (21, .int (nI b1)), (22, .int (nI (dna d b1))), (23, .int (nI (dto d b1))), (24, .int (nI (pbD d b1))), (25, .int (oM (homeD d (pbD d b1)))), (26, .int (nI (pasD d b1))), (27, .int (oM (lieD d b1))), (28, .ref q28)]) hx hb dL_law_758 hl (by decide) rfl (fun ls hl => ?_)
        refine lv_iinc (v := nI (b1 + 1)) (lv' := [(21, .int (nI (b1 + 1))), (8, .int (nI (lyD d (b1 + 1)))), (7, .int (nI (sumTo (dto d) (b1 + 1)))), (0, .ref b), (1, .ref (adX 0)), (2, .int (nI turn)), (3, .int (nI (dP d))), (4, .int (nI (dB d))), (5, .int 0), (6, .int 0), (9, .int 0), (10, .int 0), (11, .int (nI (dT d))), (12, .ref (adT 0)), (13, .ref (adT 1)), (14, .ref (adT 2)), (15, .ref (adT 3)), (16, .ref (adT 4)), (17, .ref (adT 5)), (18, .ref (adT 6)), (19, .ref (adT 7)), (20, .ref aL), (22, .int (nI (dna d b1))), (23, .int (nI (dto d b1))), (24, .int (nI (pbD d b1))), (25, .int (oM (homeD d (pbD d b1)))), (26, .int (nI (pasD d b1))), (27, .int (oM (lieD d b1))), (28, .ref q28)]) hx hb dL_law_760 hl (k := 21) rfl (nI_1 b1) (by decide) rfl (fun ls hl => ?_)
        refine lv_goto (tgt := 256) hx hb dL_law_763 (by decide) ?_
        refine lx_mono (k := nc + 7) (n' := ns + 824) (by omega) (by omega) ?_
        exact kk σ1 τ2 qs vs hI1 tf0 tf1 tf2 tf3 tf4 tf5 tf6 H locs hw ls (lv_sub hl [3, 4, 5, 6, 7, 8, 9, 2, 1, 10, 11, 12, 13, 14, 15, 16, 17, 18, 19, 20, 21, 0] rfl)
      · have hlc : lcD d b1 po ≤ 24 := Nat.le_trans (by have := sumTo_le (f := fun j => if lieD d j = some po then 1 else 0) (c := 1) b1 (fun j _ => by show (if _ then 1 else 0) ≤ 1; split <;> omega); show sumTo _ b1 ≤ b1; omega) (show b1 ≤ 24 by omega)
        refine lv_if_le (tgt := 730) hx hb dL_law_722 (by decide) (fun q9 => absurd q9 (nI_nle (by omega) (by omega))) (fun _ => ?_)
        refine lk_ldc 9 (by decide) F dL_law_725 ?_
        refine lv_goto (tgt := 732) hx hb dL_law_727 (by decide) ?_
        refine lb_const 9 (by decide) F T hzs1 hw1 (Nat.le_trans ht1 (by omega)) (cwV 1 F.S.2.2.2.2 gL_law_J4_append_15ec4 rfl rfl rfl dmJ4_append_15ec4 ⟨Nat.le_of_ble_eq_true rfl, Nat.le_of_ble_eq_true rfl⟩) hl.1 (Nat.le_of_ble_eq_true rfl) ⟨cL (by omega), sL (by omega)⟩ dL_law_732 (fun V1 m1 a1 H1 locs1 hw1 => ?_)
        have ht1 := tl_const ht1 9 (by decide)
        refine lv_iload hx hb dL_law_735 (lv_at hl 21 rfl) ?_
        refine lb_int (v := b1) F T hzs1 hw1 (Nat.le_trans ht1 (by omega)) (by omega) (cwV 1 F.S.2.2.2.2 gL_law_J4_append_bf812 rfl rfl rfl dmJ4_append_bf812 ⟨Nat.le_of_ble_eq_true rfl, Nat.le_of_ble_eq_true rfl⟩) hl.1 (Nat.le_of_ble_eq_true rfl) ⟨cL (by omega), sL (by omega)⟩ dL_law_737 (fun V1 m1 a1 H1 locs1 hw1 => ?_)
        have ht1 := tl_int ht1 b1
        refine lb_toS F T jl_J0 hzs1 (kg) hw.g hw1 (cwV 0 F.S.2.2.2.2 gL_law_J4_toString_0e30d rfl rfl rfl dmJ4_toString_0e30d ⟨Nat.le_of_ble_eq_true rfl, Nat.le_of_ble_eq_true rfl⟩) hl.1 (Nat.le_of_ble_eq_true rfl) ⟨cL (by omega), sL (by omega)⟩ dL_law_740 (fun q1 v1 H9 locs9 hw9 hA1 hP1 hz1 hk1 => ?_)
        refine lb_put (i := po) (n := dP d) F T hw.z hw.g (by omega) (by omega) hw9 hA1 hP1 hk1 dL_law_743 (fun qs vs H locs hw => ?_)
        have hw := LWd.gmap (G2 := GL dC dI cy s zT aL (dP d) qs vs (lnAt d (b1 + 1))) hw (fun H h => by
          rw [if_neg (by omega)] at h
          refine h.congr (fun j hj => ?_)
          by_cases ejp : j = po
          · rw [if_pos ejp, ejp, lnAt_this hlie]; rw [if_neg hz0]; simp [kch]
          · rw [if_neg ejp, lnAt_other hlie ejp])
        have kg := KG.L (dC, dI) cy aL (dP d) qs vs (lnAt d (b1 + 1)) zT s
        refine lv_aload hx hb dL_law_744 (lv_at hl 16 rfl) ?_
        refine lv_iload hx hb dL_law_746 (lv_at hl 27 rfl) ?_
        rw [show ((oM (lieD d b1)) : Int32) = nI po from by rw [hlie]; rfl]
        refine lv_dup2_11 hx hb dL_law_748 rfl rfl ?_
        refine lx_ald F T hw 4 (by decide) (i := po) (v := nI (lcD d b1 po)) (by show po < 8; omega) (by omega) (tf4 po (by omega)) dL_law_749 ?_
        refine lv_iconst (v := 1) hx hb dL_law_750 (by decide) ?_
        refine lv_iadd hx hb dL_law_751 ?_
        rw [show (((nI (lcD d b1 po)) + 1) : Int32) = nI ((lcD d b1 po) + 1) from nI_add (lcD d b1 po) 1]
        refine lx_ast F T kg hw 4 (by decide) (i := po) (x := (nI ((lcD d b1 po) + 1))) (by show po < 8; omega) (by omega) dL_law_752 (fun H locs hw => ?_)
        obtain ⟨τ2, eτ2⟩ : ∃ z : St, z = su τ1 4 po (nI ((lcD d b1 po) + 1)) := ⟨_, rfl⟩
        rw [← eτ2] at hw
        have hs2 : ∀ j, j ≠ 4 → τ2 j = τ1 j := fun j hj => by rw [eτ2]; exact pz_su_r _ _ hj
        have hs2k : ∀ i, τ2 4 i = if i = po then (nI ((lcD d b1 po) + 1)) else τ1 4 i := fun i => by rw [eτ2, pz_su_w]; rfl
        have tf0 : ∀ i, i < 360 → τ2 0 i = oA d i := fun i hi => (congrFun (hs2 0 (by decide)) i).trans (tf0 i hi)
        have tf1 : ∀ i, i < 8 → τ2 1 i = nI (stD d i) := fun i hi => (congrFun (hs2 1 (by decide)) i).trans (tf1 i hi)
        have tf2 : ∀ i, i < 8 → τ2 2 i = nI (hcD d (b1 + 1) i) := fun i hi => (congrFun (hs2 2 (by decide)) i).trans (tf2 i hi)
        have tf3 : ∀ i, i < 8 → τ2 3 i = nI (htD d (b1 + 1) i) := fun i hi => (congrFun (hs2 3 (by decide)) i).trans (tf3 i hi)
        have tf5 : ∀ i, i < 8 → τ2 5 i = nI (tkD d (b1 + 1) i) := fun i hi => (congrFun (hs2 5 (by decide)) i).trans (tf5 i hi)
        have tf6 : ∀ i, i < 3 → τ2 6 i = nI (hwD d (b1 + 1) i) := fun i hi => (congrFun (hs2 6 (by decide)) i).trans (tf6 i hi)
        have tf4 : ∀ i, i < 8 → τ2 4 i = nI (lcD d (b1 + 1) i) := row_up (g := fun i => lcD d b1 i) hs2k tf4 (by rw [lcD_s, if_pos hlie]) (fun i hne => by rw [lcD_s, if_neg (fun z => by rw [hlie] at z; exact hne (Option.some.inj z).symm)]; rfl)
        refine lv_iload hx hb dL_law_753 (lv_at hl 8 rfl) ?_
        refine lv_iload hx hb dL_law_755 (lv_at hl 23 rfl) ?_
        refine lv_iadd hx hb dL_law_757 ?_
        rw [show (((nI (lyD d b1)) + (nI (dto d b1))) : Int32) = nI (lyD d (b1 + 1)) from by rw [ly_some hlie]; exact nI_add _ _]
        refine lv_istore (lv' := [(8, .int (nI (lyD d (b1 + 1)))), (7, .int (nI (sumTo (dto d) (b1 + 1)))), (0, .ref b), (1, .ref (adX 0)), (2, .int (nI turn)), (3, .int (nI (dP d))), (4, .int (nI (dB d))), (5, .int 0), (6, .int 0), (9, .int 0), (10, .int 0), (11, .int (nI (dT d))), (12, .ref (adT 0)), (13, .ref (adT 1)), (14, .ref (adT 2)), (15, .ref (adT 3)), (16, .ref (adT 4)), (17, .ref (adT 5)), (18, .ref (adT 6)), (19, .ref (adT 7)), (20, .ref aL), (21, .int (nI b1)), (22, .int (nI (dna d b1))), (23, .int (nI (dto d b1))), (24, .int (nI (pbD d b1))), (25, .int (oM (homeD d (pbD d b1)))), (26, .int (nI (pasD d b1))), (27, .int (oM (lieD d b1))), (28, .ref q28)]) hx hb dL_law_758 hl (by decide) rfl (fun ls hl => ?_)
        refine lv_iinc (v := nI (b1 + 1)) (lv' := [(21, .int (nI (b1 + 1))), (8, .int (nI (lyD d (b1 + 1)))), (7, .int (nI (sumTo (dto d) (b1 + 1)))), (0, .ref b), (1, .ref (adX 0)), (2, .int (nI turn)), (3, .int (nI (dP d))), (4, .int (nI (dB d))), (5, .int 0), (6, .int 0), (9, .int 0), (10, .int 0), (11, .int (nI (dT d))), (12, .ref (adT 0)), (13, .ref (adT 1)), (14, .ref (adT 2)), (15, .ref (adT 3)), (16, .ref (adT 4)), (17, .ref (adT 5)), (18, .ref (adT 6)), (19, .ref (adT 7)), (20, .ref aL), (22, .int (nI (dna d b1))), (23, .int (nI (dto d b1))), (24, .int (nI (pbD d b1))), (25, .int (oM (homeD d (pbD d b1)))), (26, .int (nI (pasD d b1))), (27, .int (oM (lieD d b1))), (28, .ref q28)]) hx hb dL_law_760 hl (k := 21) rfl (nI_1 b1) (by decide) rfl (fun ls hl => ?_)
        refine lv_goto (tgt := 256) hx hb dL_law_763 (by decide) ?_
        refine lx_mono (k := nc + 7) (n' := ns + 824) (by omega) (by omega) ?_
        exact kk σ1 τ2 qs vs hI1 tf0 tf1 tf2 tf3 tf4 tf5 tf6 H locs hw ls (lv_sub hl [3, 4, 5, 6, 7, 8, 9, 2, 1, 10, 11, 12, 13, 14, 15, 16, 17, 18, 19, 20, 21, 0] rfl)
    | some ho =>
      have hho : ho < dP d := (homeD_lt hh).1
      refine lv_aload_n hx hb dL_law_496 rfl (lv_at hl 1 rfl) ?_
      refine lv_iload hx hb dL_law_497 (lv_at hl 21 rfl) ?_
      refine lv_iconst (v := 2) hx hb dL_law_499 (by decide) ?_
      refine lx_i (As := [.int (nI b1), .int 2]) (rest := []) F T kg (mX6_bargeOf l dC dI adX cy F.J σ (nI b1) 2 _ (cq_b2 hC hb1)) (cwV 2 F.S.2.2.2.2 gL_law_X6_bargeOf rfl rfl rfl dmX6_bargeOf ⟨Nat.le_of_ble_eq_true rfl, Nat.le_of_ble_eq_true rfl⟩) hw rfl rfl hl.1 (Nat.le_of_ble_eq_true rfl) ⟨cL (by omega), sL (by omega)⟩ dL_law_500 (fun H locs hw => ?_)
      refine lv_iload hx hb dL_law_503 (lv_at hl 24 rfl) ?_
      refine lv_icmp_ne (tgt := 592) hx hb dL_law_505 (by decide) (fun q9 => absurd (congrArg nI (show (pbD d b1) = (pbD d b1) by omega)) q9) (fun _ => ?_)
      refine lv_aload_n hx hb dL_law_508 rfl (lv_at hl 1 rfl) ?_
      refine lv_iload hx hb dL_law_509 (lv_at hl 21 rfl) ?_
      refine lv_iconst (v := 3) hx hb dL_law_511 (by decide) ?_
      refine lx_i (As := [.int (nI b1), .int 3]) (rest := []) F T kg (mX6_bargeOf l dC dI adX cy F.J σ (nI b1) 3 _ (cq_b3 hC hb1)) (cwV 2 F.S.2.2.2.2 gL_law_X6_bargeOf rfl rfl rfl dmX6_bargeOf ⟨Nat.le_of_ble_eq_true rfl, Nat.le_of_ble_eq_true rfl⟩) hw rfl rfl hl.1 (Nat.le_of_ble_eq_true rfl) ⟨cL (by omega), sL (by omega)⟩ dL_law_512 (fun H locs hw => ?_)
      rw [show ((oX (lieD d b1)) : Int32) = nI po from by rw [hlie]; rfl]
      refine lv_iload hx hb dL_law_515 (lv_at hl 27 rfl) ?_
      rw [show ((oM (lieD d b1)) : Int32) = nI po from by rw [hlie]; rfl]
      refine lv_if_ge (tgt := 525) hx hb dL_law_517 (by decide) (fun _ => ?_) (fun q9 => absurd (nI_pos' (by omega)) q9)
      refine lv_iload hx hb dL_law_525 (lv_at hl 27 rfl) ?_
      rw [show ((oM (lieD d b1)) : Int32) = nI po from by rw [hlie]; rfl]
      refine lv_icmp_ne (tgt := 592) hx hb dL_law_527 (by decide) (fun q9 => absurd (rfl) q9) (fun _ => ?_)
      refine lv_aload_n hx hb dL_law_530 rfl (lv_at hl 1 rfl) ?_
      refine lv_iload hx hb dL_law_531 (lv_at hl 21 rfl) ?_
      refine lv_iconst (v := 4) hx hb dL_law_533 (by decide) ?_
      refine lx_i (As := [.int (nI b1), .int 4]) (rest := []) F T kg (mX6_bargeOf l dC dI adX cy F.J σ (nI b1) 4 _ (cq_b4 hC hb1)) (cwV 2 F.S.2.2.2.2 gL_law_X6_bargeOf rfl rfl rfl dmX6_bargeOf ⟨Nat.le_of_ble_eq_true rfl, Nat.le_of_ble_eq_true rfl⟩) hw rfl rfl hl.1 (Nat.le_of_ble_eq_true rfl) ⟨cL (by omega), sL (by omega)⟩ dL_law_534 (fun H locs hw => ?_)
      refine lv_iload hx hb dL_law_537 (lv_at hl 26 rfl) ?_
      refine lv_icmp_ne (tgt := 592) hx hb dL_law_539 (by decide) (fun q9 => absurd (congrArg nI (show (pasD d b1) = (pasD d b1) by omega)) q9) (fun _ => ?_)
      refine lv_aload_n hx hb dL_law_542 rfl (lv_at hl 1 rfl) ?_
      refine lv_iload hx hb dL_law_543 (lv_at hl 21 rfl) ?_
      refine lx_i (As := [.int (nI b1)]) (rest := []) F T kg (mX6_home l dC dI adX cy F.J σ (nI b1) _ (cq_home hC hb1)) (cwV 1 F.S.2.2.2.2 gL_law_X6_home rfl rfl rfl dmX6_home ⟨Nat.le_of_ble_eq_true rfl, Nat.le_of_ble_eq_true rfl⟩) hw rfl rfl hl.1 (Nat.le_of_ble_eq_true rfl) ⟨cL (by omega), sL (by omega)⟩ dL_law_545 (fun H locs hw => ?_)
      rw [show ((oX (homeD d (pbD d b1))) : Int32) = nI ho from by rw [hh]; rfl]
      refine lv_iload hx hb dL_law_548 (lv_at hl 25 rfl) ?_
      rw [show ((oM (homeD d (pbD d b1))) : Int32) = nI ho from by rw [hh]; rfl]
      refine lv_if_ge (tgt := 558) hx hb dL_law_550 (by decide) (fun _ => ?_) (fun q9 => absurd (nI_pos' (by omega)) q9)
      refine lv_iload hx hb dL_law_558 (lv_at hl 25 rfl) ?_
      rw [show ((oM (homeD d (pbD d b1))) : Int32) = nI ho from by rw [hh]; rfl]
      refine lv_icmp_ne (tgt := 592) hx hb dL_law_560 (by decide) (fun q9 => absurd (rfl) q9) (fun _ => ?_)
      refine lv_aload_n hx hb dL_law_563 rfl (lv_at hl 1 rfl) ?_
      refine lv_iload hx hb dL_law_564 (lv_at hl 21 rfl) ?_
      refine lx_i (As := [.int (nI b1)]) (rest := []) F T kg (mX6_homeAgain l dC dI adX cy F.J σ (nI b1) _ (cq_homeAgain hC hb1)) (cwV 1 F.S.2.2.2.2 gL_law_X6_homeAgain rfl rfl rfl dmX6_homeAgain ⟨Nat.le_of_ble_eq_true rfl, Nat.le_of_ble_eq_true rfl⟩) hw rfl rfl hl.1 (Nat.le_of_ble_eq_true rfl) ⟨cL (by omega), sL (by omega)⟩ dL_law_566 (fun H locs hw => ?_)
      rw [show ((oX (homeD d (pbD d b1))) : Int32) = nI ho from by rw [hh]; rfl]
      refine lv_aload_n hx hb dL_law_569 rfl (lv_at hl 1 rfl) ?_
      refine lv_iload hx hb dL_law_570 (lv_at hl 21 rfl) ?_
      refine lx_i (As := [.int (nI b1)]) (rest := [.int (nI ho)]) F T kg (mX6_home l dC dI adX cy F.J σ (nI b1) _ (cq_home hC hb1)) (cwV 1 F.S.2.2.2.2 gL_law_X6_home rfl rfl rfl dmX6_home ⟨Nat.le_of_ble_eq_true rfl, Nat.le_of_ble_eq_true rfl⟩) hw rfl rfl hl.1 (Nat.le_of_ble_eq_true rfl) ⟨cL (by omega), sL (by omega)⟩ dL_law_572 (fun H locs hw => ?_)
      rw [show ((oX (homeD d (pbD d b1))) : Int32) = nI ho from by rw [hh]; rfl]
      refine lv_icmp_ne (tgt := 592) hx hb dL_law_575 (by decide) (fun q9 => absurd (rfl) q9) (fun _ => ?_)
      refine lv_aload_n hx hb dL_law_578 rfl (lv_at hl 1 rfl) ?_
      refine lv_iload hx hb dL_law_579 (lv_at hl 21 rfl) ?_
      refine lx_i (As := [.int (nI b1)]) (rest := []) F T kg (mX6_tellBarge l dC dI adX cy F.J σ (nI b1) _ (ct1)) (cwV 1 F.S.2.2.2.2 gL_law_X6_tellBarge rfl rfl rfl dmX6_tellBarge ⟨Nat.le_of_ble_eq_true rfl, Nat.le_of_ble_eq_true rfl⟩) hw rfl rfl hl.1 (Nat.le_of_ble_eq_true rfl) ⟨cL (by omega), sL (by omega)⟩ dL_law_581 (fun H locs hw => ?_)
      have hC := hC1
      refine lv_aload hx hb dL_law_584 (lv_at hl 28 rfl) ?_
      refine ls_len F kg hw (fun H h => h.2) (cwV 0 F.S.2.2.2.2 gL_law_J0_length_8abf5 rfl rfl rfl dmJ0_length_8abf5 ⟨Nat.le_of_ble_eq_true rfl, Nat.le_of_ble_eq_true rfl⟩) hl.1 (Nat.le_of_ble_eq_true rfl) ⟨cL (by omega), sL (by omega)⟩ dL_law_586 (fun H locs hw => ?_)
      refine lv_icmp_eq (tgt := 594) hx hb dL_law_589 (by decide) (fun _ => ?_) (fun q9 => absurd (congrArg nI (show (lnB d b1).length = (lnB d b1).length by omega)) q9)
      refine lv_iconst (v := nI 0) hx hb dL_law_594 (by decide) ?_
      refine lv_istore (lv' := [(29, .int (nI 0)), (0, .ref b), (1, .ref (adX 0)), (2, .int (nI turn)), (3, .int (nI (dP d))), (4, .int (nI (dB d))), (5, .int 0), (6, .int 0), (7, .int (nI (sumTo (dto d) b1))), (8, .int (nI (lyD d b1))), (9, .int 0), (10, .int 0), (11, .int (nI (dT d))), (12, .ref (adT 0)), (13, .ref (adT 1)), (14, .ref (adT 2)), (15, .ref (adT 3)), (16, .ref (adT 4)), (17, .ref (adT 5)), (18, .ref (adT 6)), (19, .ref (adT 7)), (20, .ref aL), (21, .int (nI b1)), (22, .int (nI (dna d b1))), (23, .int (nI (dto d b1))), (24, .int (nI (pbD d b1))), (25, .int (oM (homeD d (pbD d b1)))), (26, .int (nI (pasD d b1))), (27, .int (oM (lieD d b1))), (28, .ref q28)]) hx hb dL_law_595 hl (by decide) rfl (fun ls hl => ?_)
      refine law_p4c F T hC1 (τ := τ) (aL := aL) (q28 := q28) (v28 := v28) (qs := qs) (vs := vs) hnc hns ct2 ct4 (fun H locs hw ls hl => ?_) (lnB d b1).length 0 (by omega) H locs hw ls (lv_sub hl [1, 2, 3, 4, 5, 6, 7, 8, 9, 10, 11, 12, 13, 14, 15, 16, 17, 18, 19, 20, 21, 22, 23, 24, 25, 26, 27, 28, 29, 0] rfl)
      have hw := LWd.gmap (G2 := GL dC dI cy s zT aL (dP d) qs vs (lnAt d b1)) hw (fun H h => h.1)
      have kg := KG.L (dC, dI) cy aL (dP d) qs vs (lnAt d b1) zT s
      refine lv_iload hx hb dL_law_631 (lv_at hl 7 rfl) ?_
      refine lv_iload hx hb dL_law_633 (lv_at hl 23 rfl) ?_
      refine lv_iadd hx hb dL_law_635 ?_
      rw [show (((nI (sumTo (dto d) b1)) + (nI (dto d b1))) : Int32) = nI (sumTo (dto d) (b1 + 1)) from nI_add _ _]
      refine lv_istore (lv' := [(7, .int (nI (sumTo (dto d) (b1 + 1)))), (0, .ref b), (1, .ref (adX 0)), (2, .int (nI turn)), (3, .int (nI (dP d))), (4, .int (nI (dB d))), (5, .int 0), (6, .int 0), (8, .int (nI (lyD d b1))), (9, .int 0), (10, .int 0), (11, .int (nI (dT d))), (12, .ref (adT 0)), (13, .ref (adT 1)), (14, .ref (adT 2)), (15, .ref (adT 3)), (16, .ref (adT 4)), (17, .ref (adT 5)), (18, .ref (adT 6)), (19, .ref (adT 7)), (20, .ref aL), (21, .int (nI b1)), (22, .int (nI (dna d b1))), (23, .int (nI (dto d b1))), (24, .int (nI (pbD d b1))), (25, .int (oM (homeD d (pbD d b1)))), (26, .int (nI (pasD d b1))), (27, .int (oM (lieD d b1))), (28, .ref q28)]) hx hb dL_law_636 hl (by decide) rfl (fun ls hl => ?_)
      refine lv_aload hx hb dL_law_638 (lv_at hl 18 rfl) ?_
      by_cases eph : po = ho
      · have hx0 : hxD d b1 = 0 := by unfold hxD; rw [if_neg (fun z => by rw [hlie] at z; cases z), if_pos (by rw [hlie, hh, eph])]
        refine lv_iload hx hb dL_law_640 (lv_at hl 27 rfl) ?_
        rw [show ((oM (lieD d b1)) : Int32) = nI po from by rw [hlie]; rfl]
        refine lv_if_ge (tgt := 649) hx hb dL_law_642 (by decide) (fun _ => ?_) (fun q9 => absurd (nI_pos' (by omega)) q9)
        refine lv_iload hx hb dL_law_649 (lv_at hl 27 rfl) ?_
        rw [show ((oM (lieD d b1)) : Int32) = nI po from by rw [hlie]; rfl]
        refine lv_iload hx hb dL_law_651 (lv_at hl 25 rfl) ?_
        rw [show ((oM (homeD d (pbD d b1))) : Int32) = nI ho from by rw [hh]; rfl]
        refine lv_icmp_ne (tgt := 660) hx hb dL_law_653 (by decide) (fun q9 => absurd (congrArg nI eph) q9) (fun _ => ?_)
        refine lv_iconst (v := nI 0) hx hb dL_law_656 (by decide) ?_
        refine lv_goto (tgt := 661) hx hb dL_law_657 (by decide) ?_
        refine lv_dup2_11 hx hb dL_law_661 rfl rfl ?_
        refine lx_ald F T hw 6 (by decide) (i := 0) (v := nI (hwD d b1 0)) (by show 0 < 3; omega) (by omega) (tf6 0 (by omega)) dL_law_662 ?_
        refine lv_iconst (v := 1) hx hb dL_law_663 (by decide) ?_
        refine lv_iadd hx hb dL_law_664 ?_
        rw [show (((nI (hwD d b1 0)) + 1) : Int32) = nI ((hwD d b1 0) + 1) from nI_add (hwD d b1 0) 1]
        refine lx_ast F T kg hw 6 (by decide) (i := 0) (x := (nI ((hwD d b1 0) + 1))) (by show 0 < 3; omega) (by omega) dL_law_665 (fun H locs hw => ?_)
        obtain ⟨τ1, eτ1⟩ : ∃ z : St, z = su τ 6 0 (nI ((hwD d b1 0) + 1)) := ⟨_, rfl⟩
        rw [← eτ1] at hw
        have hs1 : ∀ j, j ≠ 6 → τ1 j = τ j := fun j hj => by rw [eτ1]; exact pz_su_r _ _ hj
        have hs1k : ∀ i, τ1 6 i = if i = 0 then (nI ((hwD d b1 0) + 1)) else τ 6 i := fun i => by rw [eτ1, pz_su_w]; rfl
        have tf0 : ∀ i, i < 360 → τ1 0 i = oA d i := fun i hi => (congrFun (hs1 0 (by decide)) i).trans (tf0 i hi)
        have tf1 : ∀ i, i < 8 → τ1 1 i = nI (stD d i) := fun i hi => (congrFun (hs1 1 (by decide)) i).trans (tf1 i hi)
        have tf2 : ∀ i, i < 8 → τ1 2 i = nI (hcD d b1 i) := fun i hi => (congrFun (hs1 2 (by decide)) i).trans (tf2 i hi)
        have tf3 : ∀ i, i < 8 → τ1 3 i = nI (htD d b1 i) := fun i hi => (congrFun (hs1 3 (by decide)) i).trans (tf3 i hi)
        have tf4 : ∀ i, i < 8 → τ1 4 i = nI (lcD d b1 i) := fun i hi => (congrFun (hs1 4 (by decide)) i).trans (tf4 i hi)
        have tf5 : ∀ i, i < 8 → τ1 5 i = nI (tkD d (b1 + 1) i) := fun i hi => (congrFun (hs1 5 (by decide)) i).trans (tf5 i hi)
        have tf6 : ∀ i, i < 3 → τ1 6 i = nI (hwD d (b1 + 1) i) := row_up (g := fun i => hwD d b1 i) hs1k tf6 (by rw [hw_s, hx0, if_pos rfl]) (fun i hne => by rw [hw_s, hx0, if_neg hne]; rfl)
        refine lv_iload hx hb dL_law_666 (lv_at hl 25 rfl) ?_
        rw [show ((oM (homeD d (pbD d b1))) : Int32) = nI ho from by rw [hh]; rfl]
        refine lv_if_lt (tgt := 690) hx hb dL_law_668 (by decide) (fun q9 => absurd q9 (nI_pos (by omega))) (fun _ => ?_)
        refine lv_aload hx hb dL_law_671 (lv_at hl 14 rfl) ?_
        refine lv_iload hx hb dL_law_673 (lv_at hl 25 rfl) ?_
        rw [show ((oM (homeD d (pbD d b1))) : Int32) = nI ho from by rw [hh]; rfl]
        refine lv_dup2_11 hx hb dL_law_675 rfl rfl ?_
        refine lx_ald F T hw 2 (by decide) (i := ho) (v := nI (hcD d b1 ho)) (by show ho < 8; omega) (by omega) (tf2 ho (by omega)) dL_law_676 ?_
        refine lv_iconst (v := 1) hx hb dL_law_677 (by decide) ?_
        refine lv_iadd hx hb dL_law_678 ?_
        rw [show (((nI (hcD d b1 ho)) + 1) : Int32) = nI ((hcD d b1 ho) + 1) from nI_add (hcD d b1 ho) 1]
        refine lx_ast F T kg hw 2 (by decide) (i := ho) (x := (nI ((hcD d b1 ho) + 1))) (by show ho < 8; omega) (by omega) dL_law_679 (fun H locs hw => ?_)
        obtain ⟨τ2, eτ2⟩ : ∃ z : St, z = su τ1 2 ho (nI ((hcD d b1 ho) + 1)) := ⟨_, rfl⟩
        rw [← eτ2] at hw
        have hs2 : ∀ j, j ≠ 2 → τ2 j = τ1 j := fun j hj => by rw [eτ2]; exact pz_su_r _ _ hj
        have hs2k : ∀ i, τ2 2 i = if i = ho then (nI ((hcD d b1 ho) + 1)) else τ1 2 i := fun i => by rw [eτ2, pz_su_w]; rfl
        have tf0 : ∀ i, i < 360 → τ2 0 i = oA d i := fun i hi => (congrFun (hs2 0 (by decide)) i).trans (tf0 i hi)
        have tf1 : ∀ i, i < 8 → τ2 1 i = nI (stD d i) := fun i hi => (congrFun (hs2 1 (by decide)) i).trans (tf1 i hi)
        have tf3 : ∀ i, i < 8 → τ2 3 i = nI (htD d b1 i) := fun i hi => (congrFun (hs2 3 (by decide)) i).trans (tf3 i hi)
        have tf4 : ∀ i, i < 8 → τ2 4 i = nI (lcD d b1 i) := fun i hi => (congrFun (hs2 4 (by decide)) i).trans (tf4 i hi)
        have tf5 : ∀ i, i < 8 → τ2 5 i = nI (tkD d (b1 + 1) i) := fun i hi => (congrFun (hs2 5 (by decide)) i).trans (tf5 i hi)
        have tf6 : ∀ i, i < 3 → τ2 6 i = nI (hwD d (b1 + 1) i) := fun i hi => (congrFun (hs2 6 (by decide)) i).trans (tf6 i hi)
        have tf2 : ∀ i, i < 8 → τ2 2 i = nI (hcD d (b1 + 1) i) := row_up (g := fun i => hcD d b1 i) hs2k tf2 (by rw [hcD_s, if_pos hh]) (fun i hne => by rw [hcD_s, if_neg (fun z => by rw [hh] at z; exact hne (Option.some.inj z).symm)]; rfl)
        refine lv_aload hx hb dL_law_680 (lv_at hl 15 rfl) ?_
        refine lv_iload hx hb dL_law_682 (lv_at hl 25 rfl) ?_
        rw [show ((oM (homeD d (pbD d b1))) : Int32) = nI ho from by rw [hh]; rfl]
        refine lv_dup2_11 hx hb dL_law_684 rfl rfl ?_
        refine lx_ald F T hw 3 (by decide) (i := ho) (v := nI (htD d b1 ho)) (by show ho < 8; omega) (by omega) (tf3 ho (by omega)) dL_law_685 ?_
        refine lv_iload hx hb dL_law_686 (lv_at hl 23 rfl) ?_
        refine lv_iadd hx hb dL_law_688 ?_
        rw [show (((nI (htD d b1 ho)) + (nI (dto d b1))) : Int32) = nI ((htD d b1 ho) + (dto d b1)) from nI_add (htD d b1 ho) (dto d b1)]
        refine lx_ast F T kg hw 3 (by decide) (i := ho) (x := (nI ((htD d b1 ho) + (dto d b1)))) (by show ho < 8; omega) (by omega) dL_law_689 (fun H locs hw => ?_)
        obtain ⟨τ3, eτ3⟩ : ∃ z : St, z = su τ2 3 ho (nI ((htD d b1 ho) + (dto d b1))) := ⟨_, rfl⟩
        rw [← eτ3] at hw
        have hs3 : ∀ j, j ≠ 3 → τ3 j = τ2 j := fun j hj => by rw [eτ3]; exact pz_su_r _ _ hj
        have hs3k : ∀ i, τ3 3 i = if i = ho then (nI ((htD d b1 ho) + (dto d b1))) else τ2 3 i := fun i => by rw [eτ3, pz_su_w]; rfl
        have tf0 : ∀ i, i < 360 → τ3 0 i = oA d i := fun i hi => (congrFun (hs3 0 (by decide)) i).trans (tf0 i hi)
        have tf1 : ∀ i, i < 8 → τ3 1 i = nI (stD d i) := fun i hi => (congrFun (hs3 1 (by decide)) i).trans (tf1 i hi)
        have tf2 : ∀ i, i < 8 → τ3 2 i = nI (hcD d (b1 + 1) i) := fun i hi => (congrFun (hs3 2 (by decide)) i).trans (tf2 i hi)
        have tf4 : ∀ i, i < 8 → τ3 4 i = nI (lcD d b1 i) := fun i hi => (congrFun (hs3 4 (by decide)) i).trans (tf4 i hi)
        have tf5 : ∀ i, i < 8 → τ3 5 i = nI (tkD d (b1 + 1) i) := fun i hi => (congrFun (hs3 5 (by decide)) i).trans (tf5 i hi)
        have tf6 : ∀ i, i < 3 → τ3 6 i = nI (hwD d (b1 + 1) i) := fun i hi => (congrFun (hs3 6 (by decide)) i).trans (tf6 i hi)
        have tf3 : ∀ i, i < 8 → τ3 3 i = nI (htD d (b1 + 1) i) := row_up (g := fun i => htD d b1 i) hs3k tf3 (by rw [htD_s, if_pos hh]) (fun i hne => by rw [htD_s, if_neg (fun z => by rw [hh] at z; exact hne (Option.some.inj z).symm)]; rfl)
        refine lv_iload hx hb dL_law_690 (lv_at hl 27 rfl) ?_
        rw [show ((oM (lieD d b1)) : Int32) = nI po from by rw [hlie]; rfl]
        refine lv_if_ge (tgt := 698) hx hb dL_law_692 (by decide) (fun _ => ?_) (fun q9 => absurd (nI_pos' (by omega)) q9)
        refine lv_aload hx hb dL_law_698 (lv_at hl 20 rfl) ?_
        refine lv_iload hx hb dL_law_700 (lv_at hl 27 rfl) ?_
        rw [show ((oM (lieD d b1)) : Int32) = nI po from by rw [hlie]; rfl]
        have hzs1 := hw.z
        refine lb_new F T jl_J4 gL_law_J4_init_da8c8 (F.S.2.2.2.2 _ jl_1) (F.S.2.2.2.2 _ jl_2) (F.S.2.2.2.2 _ jl_3) (F.S.2.2.2.2 _ jl_4) (F.S.2.2.2.2 _ jl_5) hw hl.1 (Nat.le_of_ble_eq_true rfl) ⟨Nat.le_of_ble_eq_true rfl, Nat.le_of_ble_eq_true rfl⟩ ⟨cL (by omega), sL (by omega)⟩ dL_law_702 dL_law_705 dL_law_706 (fun B1 V1 H1 locs1 hw1 => ?_)
        have ht1 : ([] : List Nat).length ≤ 0 := Nat.le_refl _
        have kgB1 : ∀ V mb a t, KG zT (GB dC dI cy zT H B1 V mb a t) := fun _ _ _ _ => KG.B hzs1
        refine lv_aload hx hb dL_law_709 (lv_at hl 20 rfl) ?_
        refine lv_iload hx hb dL_law_711 (lv_at hl 27 rfl) ?_
        rw [show ((oM (lieD d b1)) : Int32) = nI po from by rw [hlie]; rfl]
        refine ls_ald (i := po) F hw1 (((hw.g.keep (fun x x1 x2 => hw1.g.1.2 x x1 x2)).top)) (by omega) (by omega) dL_law_713 ?_
        refine lb_made F T hzs1 hw1 (hw.g.2.2 po hp).2.2 (Nat.le_refl _) (Nat.le_refl _) (Nat.le_trans (Nat.add_le_add ht1 (lnAt_len (n := b1) hC.1 (by omega) hp)) (by omega)) (cwV 1 F.S.2.2.2.2 gL_law_J4_append_15ec4 rfl rfl rfl dmJ4_append_15ec4 ⟨Nat.le_of_ble_eq_true rfl, Nat.le_of_ble_eq_true rfl⟩) hl.1 (Nat.le_of_ble_eq_true rfl) ⟨cL (by omega), sL (by omega)⟩ dL_law_714 (fun V1 m1 a1 H1 locs1 hw1 => ?_)
        have ht1 := tl_made ht1 (lnAt_len (n := b1) hC.1 (by omega) hp)
        refine lv_aload hx hb dL_law_717 (lv_at hl 16 rfl) ?_
        refine lv_iload hx hb dL_law_719 (lv_at hl 27 rfl) ?_
        rw [show ((oM (lieD d b1)) : Int32) = nI po from by rw [hlie]; rfl]
        refine lx_ald F T hw1 4 (by decide) (i := po) (v := nI (lcD d b1 po)) (by show po < 8; omega) (by omega) (tf4 po (by omega)) dL_law_721 ?_
        by_cases hz0 : lcD d b1 po = 0
        · have hlc : lcD d b1 po ≤ 24 := Nat.le_trans (by have := sumTo_le (f := fun j => if lieD d j = some po then 1 else 0) (c := 1) b1 (fun j _ => by show (if _ then 1 else 0) ≤ 1; split <;> omega); show sumTo _ b1 ≤ b1; omega) (show b1 ≤ 24 by omega)
          refine lv_if_le (tgt := 730) hx hb dL_law_722 (by decide) (fun _ => ?_) (fun q9 => absurd (by rw [hz0]; decide) q9)
          refine lk_ldc 1 (by decide) F dL_law_730 ?_
          refine lb_const 1 (by decide) F T hzs1 hw1 (Nat.le_trans ht1 (by omega)) (cwV 1 F.S.2.2.2.2 gL_law_J4_append_15ec4 rfl rfl rfl dmJ4_append_15ec4 ⟨Nat.le_of_ble_eq_true rfl, Nat.le_of_ble_eq_true rfl⟩) hl.1 (Nat.le_of_ble_eq_true rfl) ⟨cL (by omega), sL (by omega)⟩ dL_law_732 (fun V1 m1 a1 H1 locs1 hw1 => ?_)
          have ht1 := tl_const ht1 1 (by decide)
          refine lv_iload hx hb dL_law_735 (lv_at hl 21 rfl) ?_
          refine lb_int (v := b1) F T hzs1 hw1 (Nat.le_trans ht1 (by omega)) (by omega) (cwV 1 F.S.2.2.2.2 gL_law_J4_append_bf812 rfl rfl rfl dmJ4_append_bf812 ⟨Nat.le_of_ble_eq_true rfl, Nat.le_of_ble_eq_true rfl⟩) hl.1 (Nat.le_of_ble_eq_true rfl) ⟨cL (by omega), sL (by omega)⟩ dL_law_737 (fun V1 m1 a1 H1 locs1 hw1 => ?_)
          have ht1 := tl_int ht1 b1
          refine lb_toS F T jl_J0 hzs1 (kg) hw.g hw1 (cwV 0 F.S.2.2.2.2 gL_law_J4_toString_0e30d rfl rfl rfl dmJ4_toString_0e30d ⟨Nat.le_of_ble_eq_true rfl, Nat.le_of_ble_eq_true rfl⟩) hl.1 (Nat.le_of_ble_eq_true rfl) ⟨cL (by omega), sL (by omega)⟩ dL_law_740 (fun q1 v1 H9 locs9 hw9 hA1 hP1 hz1 hk1 => ?_)
          refine lb_put (i := po) (n := dP d) F T hw.z hw.g (by omega) (by omega) hw9 hA1 hP1 hk1 dL_law_743 (fun qs vs H locs hw => ?_)
          have hw := LWd.gmap (G2 := GL dC dI cy s zT aL (dP d) qs vs (lnAt d (b1 + 1))) hw (fun H h => by
            rw [if_neg (by omega)] at h
            refine h.congr (fun j hj => ?_)
            by_cases ejp : j = po
            · rw [if_pos ejp, ejp, lnAt_this hlie]; rw [if_pos hz0]; simp [kch]
            · rw [if_neg ejp, lnAt_other hlie ejp])
          have kg := KG.L (dC, dI) cy aL (dP d) qs vs (lnAt d (b1 + 1)) zT s
          refine lv_aload hx hb dL_law_744 (lv_at hl 16 rfl) ?_
          refine lv_iload hx hb dL_law_746 (lv_at hl 27 rfl) ?_
          rw [show ((oM (lieD d b1)) : Int32) = nI po from by rw [hlie]; rfl]
          refine lv_dup2_11 hx hb dL_law_748 rfl rfl ?_
          refine lx_ald F T hw 4 (by decide) (i := po) (v := nI (lcD d b1 po)) (by show po < 8; omega) (by omega) (tf4 po (by omega)) dL_law_749 ?_
          refine lv_iconst (v := 1) hx hb dL_law_750 (by decide) ?_
          refine lv_iadd hx hb dL_law_751 ?_
          rw [show (((nI (lcD d b1 po)) + 1) : Int32) = nI ((lcD d b1 po) + 1) from nI_add (lcD d b1 po) 1]
          refine lx_ast F T kg hw 4 (by decide) (i := po) (x := (nI ((lcD d b1 po) + 1))) (by show po < 8; omega) (by omega) dL_law_752 (fun H locs hw => ?_)
          obtain ⟨τ4, eτ4⟩ : ∃ z : St, z = su τ3 4 po (nI ((lcD d b1 po) + 1)) := ⟨_, rfl⟩
          rw [← eτ4] at hw
          have hs4 : ∀ j, j ≠ 4 → τ4 j = τ3 j := fun j hj => by rw [eτ4]; exact pz_su_r _ _ hj
          have hs4k : ∀ i, τ4 4 i = if i = po then (nI ((lcD d b1 po) + 1)) else τ3 4 i := fun i => by rw [eτ4, pz_su_w]; rfl
          have tf0 : ∀ i, i < 360 → τ4 0 i = oA d i := fun i hi => (congrFun (hs4 0 (by decide)) i).trans (tf0 i hi)
          have tf1 : ∀ i, i < 8 → τ4 1 i = nI (stD d i) := fun i hi => (congrFun (hs4 1 (by decide)) i).trans (tf1 i hi)
          have tf2 : ∀ i, i < 8 → τ4 2 i = nI (hcD d (b1 + 1) i) := fun i hi => (congrFun (hs4 2 (by decide)) i).trans (tf2 i hi)
          have tf3 : ∀ i, i < 8 → τ4 3 i = nI (htD d (b1 + 1) i) := fun i hi => (congrFun (hs4 3 (by decide)) i).trans (tf3 i hi)
          have tf5 : ∀ i, i < 8 → τ4 5 i = nI (tkD d (b1 + 1) i) := fun i hi => (congrFun (hs4 5 (by decide)) i).trans (tf5 i hi)
          have tf6 : ∀ i, i < 3 → τ4 6 i = nI (hwD d (b1 + 1) i) := fun i hi => (congrFun (hs4 6 (by decide)) i).trans (tf6 i hi)
          have tf4 : ∀ i, i < 8 → τ4 4 i = nI (lcD d (b1 + 1) i) := row_up (g := fun i => lcD d b1 i) hs4k tf4 (by rw [lcD_s, if_pos hlie]) (fun i hne => by rw [lcD_s, if_neg (fun z => by rw [hlie] at z; exact hne (Option.some.inj z).symm)]; rfl)
          refine lv_iload hx hb dL_law_753 (lv_at hl 8 rfl) ?_
          refine lv_iload hx hb dL_law_755 (lv_at hl 23 rfl) ?_
          refine lv_iadd hx hb dL_law_757 ?_
          rw [show (((nI (lyD d b1)) + (nI (dto d b1))) : Int32) = nI (lyD d (b1 + 1)) from by rw [ly_some hlie]; exact nI_add _ _]
          refine lv_istore (lv' := [(8, .int (nI (lyD d (b1 + 1)))), (7, .int (nI (sumTo (dto d) (b1 + 1)))), (0, .ref b), (1, .ref (adX 0)), (2, .int (nI turn)), (3, .int (nI (dP d))), (4, .int (nI (dB d))), (5, .int 0), (6, .int 0), (9, .int 0), (10, .int 0), (11, .int (nI (dT d))), (12, .ref (adT 0)), (13, .ref (adT 1)), (14, .ref (adT 2)), (15, .ref (adT 3)), (16, .ref (adT 4)), (17, .ref (adT 5)), (18, .ref (adT 6)), (19, .ref (adT 7)), (20, .ref aL), (21, .int (nI b1)), (22, .int (nI (dna d b1))), (23, .int (nI (dto d b1))), (24, .int (nI (pbD d b1))), (25, .int (oM (homeD d (pbD d b1)))), (26, .int (nI (pasD d b1))), (27, .int (oM (lieD d b1))), (28, .ref q28)]) hx hb dL_law_758 hl (by decide) rfl (fun ls hl => ?_)
          refine lv_iinc (v := nI (b1 + 1)) (lv' := [(21, .int (nI (b1 + 1))), (8, .int (nI (lyD d (b1 + 1)))), (7, .int (nI (sumTo (dto d) (b1 + 1)))), (0, .ref b), (1, .ref (adX 0)), (2, .int (nI turn)), (3, .int (nI (dP d))), (4, .int (nI (dB d))), (5, .int 0), (6, .int 0), (9, .int 0), (10, .int 0), (11, .int (nI (dT d))), (12, .ref (adT 0)), (13, .ref (adT 1)), (14, .ref (adT 2)), (15, .ref (adT 3)), (16, .ref (adT 4)), (17, .ref (adT 5)), (18, .ref (adT 6)), (19, .ref (adT 7)), (20, .ref aL), (22, .int (nI (dna d b1))), (23, .int (nI (dto d b1))), (24, .int (nI (pbD d b1))), (25, .int (oM (homeD d (pbD d b1)))), (26, .int (nI (pasD d b1))), (27, .int (oM (lieD d b1))), (28, .ref q28)]) hx hb dL_law_760 hl (k := 21) rfl (nI_1 b1) (by decide) rfl (fun ls hl => ?_)
          refine lv_goto (tgt := 256) hx hb dL_law_763 (by decide) ?_
          refine lx_mono (k := nc + 7) (n' := ns + 824) (by omega) (by omega) ?_
          exact kk σ1 τ4 qs vs hI1 tf0 tf1 tf2 tf3 tf4 tf5 tf6 H locs hw ls (lv_sub hl [3, 4, 5, 6, 7, 8, 9, 2, 1, 10, 11, 12, 13, 14, 15, 16, 17, 18, 19, 20, 21, 0] rfl)
        · have hlc : lcD d b1 po ≤ 24 := Nat.le_trans (by have := sumTo_le (f := fun j => if lieD d j = some po then 1 else 0) (c := 1) b1 (fun j _ => by show (if _ then 1 else 0) ≤ 1; split <;> omega); show sumTo _ b1 ≤ b1; omega) (show b1 ≤ 24 by omega)
          refine lv_if_le (tgt := 730) hx hb dL_law_722 (by decide) (fun q9 => absurd q9 (nI_nle (by omega) (by omega))) (fun _ => ?_)
          refine lk_ldc 9 (by decide) F dL_law_725 ?_
          refine lv_goto (tgt := 732) hx hb dL_law_727 (by decide) ?_
          refine lb_const 9 (by decide) F T hzs1 hw1 (Nat.le_trans ht1 (by omega)) (cwV 1 F.S.2.2.2.2 gL_law_J4_append_15ec4 rfl rfl rfl dmJ4_append_15ec4 ⟨Nat.le_of_ble_eq_true rfl, Nat.le_of_ble_eq_true rfl⟩) hl.1 (Nat.le_of_ble_eq_true rfl) ⟨cL (by omega), sL (by omega)⟩ dL_law_732 (fun V1 m1 a1 H1 locs1 hw1 => ?_)
          have ht1 := tl_const ht1 9 (by decide)
          refine lv_iload hx hb dL_law_735 (lv_at hl 21 rfl) ?_
          refine lb_int (v := b1) F T hzs1 hw1 (Nat.le_trans ht1 (by omega)) (by omega) (cwV 1 F.S.2.2.2.2 gL_law_J4_append_bf812 rfl rfl rfl dmJ4_append_bf812 ⟨Nat.le_of_ble_eq_true rfl, Nat.le_of_ble_eq_true rfl⟩) hl.1 (Nat.le_of_ble_eq_true rfl) ⟨cL (by omega), sL (by omega)⟩ dL_law_737 (fun V1 m1 a1 H1 locs1 hw1 => ?_)
          have ht1 := tl_int ht1 b1
          refine lb_toS F T jl_J0 hzs1 (kg) hw.g hw1 (cwV 0 F.S.2.2.2.2 gL_law_J4_toString_0e30d rfl rfl rfl dmJ4_toString_0e30d ⟨Nat.le_of_ble_eq_true rfl, Nat.le_of_ble_eq_true rfl⟩) hl.1 (Nat.le_of_ble_eq_true rfl) ⟨cL (by omega), sL (by omega)⟩ dL_law_740 (fun q1 v1 H9 locs9 hw9 hA1 hP1 hz1 hk1 => ?_)
          refine lb_put (i := po) (n := dP d) F T hw.z hw.g (by omega) (by omega) hw9 hA1 hP1 hk1 dL_law_743 (fun qs vs H locs hw => ?_)
          have hw := LWd.gmap (G2 := GL dC dI cy s zT aL (dP d) qs vs (lnAt d (b1 + 1))) hw (fun H h => by
            rw [if_neg (by omega)] at h
            refine h.congr (fun j hj => ?_)
            by_cases ejp : j = po
            · rw [if_pos ejp, ejp, lnAt_this hlie]; rw [if_neg hz0]; simp [kch]
            · rw [if_neg ejp, lnAt_other hlie ejp])
          have kg := KG.L (dC, dI) cy aL (dP d) qs vs (lnAt d (b1 + 1)) zT s
          refine lv_aload hx hb dL_law_744 (lv_at hl 16 rfl) ?_
          refine lv_iload hx hb dL_law_746 (lv_at hl 27 rfl) ?_
          rw [show ((oM (lieD d b1)) : Int32) = nI po from by rw [hlie]; rfl]
          refine lv_dup2_11 hx hb dL_law_748 rfl rfl ?_
          refine lx_ald F T hw 4 (by decide) (i := po) (v := nI (lcD d b1 po)) (by show po < 8; omega) (by omega) (tf4 po (by omega)) dL_law_749 ?_
          refine lv_iconst (v := 1) hx hb dL_law_750 (by decide) ?_
          refine lv_iadd hx hb dL_law_751 ?_
          rw [show (((nI (lcD d b1 po)) + 1) : Int32) = nI ((lcD d b1 po) + 1) from nI_add (lcD d b1 po) 1]
          refine lx_ast F T kg hw 4 (by decide) (i := po) (x := (nI ((lcD d b1 po) + 1))) (by show po < 8; omega) (by omega) dL_law_752 (fun H locs hw => ?_)
          obtain ⟨τ4, eτ4⟩ : ∃ z : St, z = su τ3 4 po (nI ((lcD d b1 po) + 1)) := ⟨_, rfl⟩
          rw [← eτ4] at hw
          have hs4 : ∀ j, j ≠ 4 → τ4 j = τ3 j := fun j hj => by rw [eτ4]; exact pz_su_r _ _ hj
          have hs4k : ∀ i, τ4 4 i = if i = po then (nI ((lcD d b1 po) + 1)) else τ3 4 i := fun i => by rw [eτ4, pz_su_w]; rfl
          have tf0 : ∀ i, i < 360 → τ4 0 i = oA d i := fun i hi => (congrFun (hs4 0 (by decide)) i).trans (tf0 i hi)
          have tf1 : ∀ i, i < 8 → τ4 1 i = nI (stD d i) := fun i hi => (congrFun (hs4 1 (by decide)) i).trans (tf1 i hi)
          have tf2 : ∀ i, i < 8 → τ4 2 i = nI (hcD d (b1 + 1) i) := fun i hi => (congrFun (hs4 2 (by decide)) i).trans (tf2 i hi)
          have tf3 : ∀ i, i < 8 → τ4 3 i = nI (htD d (b1 + 1) i) := fun i hi => (congrFun (hs4 3 (by decide)) i).trans (tf3 i hi)
          have tf5 : ∀ i, i < 8 → τ4 5 i = nI (tkD d (b1 + 1) i) := fun i hi => (congrFun (hs4 5 (by decide)) i).trans (tf5 i hi)
          have tf6 : ∀ i, i < 3 → τ4 6 i = nI (hwD d (b1 + 1) i) := fun i hi => (congrFun (hs4 6 (by decide)) i).trans (tf6 i hi)
          have tf4 : ∀ i, i < 8 → τ4 4 i = nI (lcD d (b1 + 1) i) := row_up (g := fun i => lcD d b1 i) hs4k tf4 (by rw [lcD_s, if_pos hlie]) (fun i hne => by rw [lcD_s, if_neg (fun z => by rw [hlie] at z; exact hne (Option.some.inj z).symm)]; rfl)
          refine lv_iload hx hb dL_law_753 (lv_at hl 8 rfl) ?_
          refine lv_iload hx hb dL_law_755 (lv_at hl 23 rfl) ?_
          refine lv_iadd hx hb dL_law_757 ?_
          rw [show (((nI (lyD d b1)) + (nI (dto d b1))) : Int32) = nI (lyD d (b1 + 1)) from by rw [ly_some hlie]; exact nI_add _ _]
          refine lv_istore (lv' := [(8, .int (nI (lyD d (b1 + 1)))), (7, .int (nI (sumTo (dto d) (b1 + 1)))), (0, .ref b), (1, .ref (adX 0)), (2, .int (nI turn)), (3, .int (nI (dP d))), (4, .int (nI (dB d))), (5, .int 0), (6, .int 0), (9, .int 0), (10, .int 0), (11, .int (nI (dT d))), (12, .ref (adT 0)), (13, .ref (adT 1)), (14, .ref (adT 2)), (15, .ref (adT 3)), (16, .ref (adT 4)), (17, .ref (adT 5)), (18, .ref (adT 6)), (19, .ref (adT 7)), (20, .ref aL), (21, .int (nI b1)), (22, .int (nI (dna d b1))), (23, .int (nI (dto d b1))), (24, .int (nI (pbD d b1))), (25, .int (oM (homeD d (pbD d b1)))), (26, .int (nI (pasD d b1))), (27, .int (oM (lieD d b1))), (28, .ref q28)]) hx hb dL_law_758 hl (by decide) rfl (fun ls hl => ?_)
          refine lv_iinc (v := nI (b1 + 1)) (lv' := [(21, .int (nI (b1 + 1))), (8, .int (nI (lyD d (b1 + 1)))), (7, .int (nI (sumTo (dto d) (b1 + 1)))), (0, .ref b), (1, .ref (adX 0)), (2, .int (nI turn)), (3, .int (nI (dP d))), (4, .int (nI (dB d))), (5, .int 0), (6, .int 0), (9, .int 0), (10, .int 0), (11, .int (nI (dT d))), (12, .ref (adT 0)), (13, .ref (adT 1)), (14, .ref (adT 2)), (15, .ref (adT 3)), (16, .ref (adT 4)), (17, .ref (adT 5)), (18, .ref (adT 6)), (19, .ref (adT 7)), (20, .ref aL), (22, .int (nI (dna d b1))), (23, .int (nI (dto d b1))), (24, .int (nI (pbD d b1))), (25, .int (oM (homeD d (pbD d b1)))), (26, .int (nI (pasD d b1))), (27, .int (oM (lieD d b1))), (28, .ref q28)]) hx hb dL_law_760 hl (k := 21) rfl (nI_1 b1) (by decide) rfl (fun ls hl => ?_)
          refine lv_goto (tgt := 256) hx hb dL_law_763 (by decide) ?_
          refine lx_mono (k := nc + 7) (n' := ns + 824) (by omega) (by omega) ?_
          exact kk σ1 τ4 qs vs hI1 tf0 tf1 tf2 tf3 tf4 tf5 tf6 H locs hw ls (lv_sub hl [3, 4, 5, 6, 7, 8, 9, 2, 1, 10, 11, 12, 13, 14, 15, 16, 17, 18, 19, 20, 21, 0] rfl)
      · have hx0 : hxD d b1 = 1 := by unfold hxD; rw [if_neg (fun z => by rw [hlie] at z; cases z), if_neg (fun z => by rw [hlie, hh] at z; exact eph (Option.some.inj z))]
        refine lv_iload hx hb dL_law_640 (lv_at hl 27 rfl) ?_
        rw [show ((oM (lieD d b1)) : Int32) = nI po from by rw [hlie]; rfl]
        refine lv_if_ge (tgt := 649) hx hb dL_law_642 (by decide) (fun _ => ?_) (fun q9 => absurd (nI_pos' (by omega)) q9)
        refine lv_iload hx hb dL_law_649 (lv_at hl 27 rfl) ?_
        rw [show ((oM (lieD d b1)) : Int32) = nI po from by rw [hlie]; rfl]
        refine lv_iload hx hb dL_law_651 (lv_at hl 25 rfl) ?_
        rw [show ((oM (homeD d (pbD d b1))) : Int32) = nI ho from by rw [hh]; rfl]
        refine lv_icmp_ne (tgt := 660) hx hb dL_law_653 (by decide) (fun _ => ?_) (fun q9 => absurd q9 (fun z => by have := (nI_eq (a := po) (b := ho) (by omega) (by omega)).mp z; omega))
        refine lv_iconst (v := nI 1) hx hb dL_law_660 (by decide) ?_
        refine lv_dup2_11 hx hb dL_law_661 rfl rfl ?_
        refine lx_ald F T hw 6 (by decide) (i := 1) (v := nI (hwD d b1 1)) (by show 1 < 3; omega) (by omega) (tf6 1 (by omega)) dL_law_662 ?_
        refine lv_iconst (v := 1) hx hb dL_law_663 (by decide) ?_
        refine lv_iadd hx hb dL_law_664 ?_
        rw [show (((nI (hwD d b1 1)) + 1) : Int32) = nI ((hwD d b1 1) + 1) from nI_add (hwD d b1 1) 1]
        refine lx_ast F T kg hw 6 (by decide) (i := 1) (x := (nI ((hwD d b1 1) + 1))) (by show 1 < 3; omega) (by omega) dL_law_665 (fun H locs hw => ?_)
        obtain ⟨τ1, eτ1⟩ : ∃ z : St, z = su τ 6 1 (nI ((hwD d b1 1) + 1)) := ⟨_, rfl⟩
        rw [← eτ1] at hw
        have hs1 : ∀ j, j ≠ 6 → τ1 j = τ j := fun j hj => by rw [eτ1]; exact pz_su_r _ _ hj
        have hs1k : ∀ i, τ1 6 i = if i = 1 then (nI ((hwD d b1 1) + 1)) else τ 6 i := fun i => by rw [eτ1, pz_su_w]; rfl
        have tf0 : ∀ i, i < 360 → τ1 0 i = oA d i := fun i hi => (congrFun (hs1 0 (by decide)) i).trans (tf0 i hi)
        have tf1 : ∀ i, i < 8 → τ1 1 i = nI (stD d i) := fun i hi => (congrFun (hs1 1 (by decide)) i).trans (tf1 i hi)
        have tf2 : ∀ i, i < 8 → τ1 2 i = nI (hcD d b1 i) := fun i hi => (congrFun (hs1 2 (by decide)) i).trans (tf2 i hi)
        have tf3 : ∀ i, i < 8 → τ1 3 i = nI (htD d b1 i) := fun i hi => (congrFun (hs1 3 (by decide)) i).trans (tf3 i hi)
        have tf4 : ∀ i, i < 8 → τ1 4 i = nI (lcD d b1 i) := fun i hi => (congrFun (hs1 4 (by decide)) i).trans (tf4 i hi)
        have tf5 : ∀ i, i < 8 → τ1 5 i = nI (tkD d (b1 + 1) i) := fun i hi => (congrFun (hs1 5 (by decide)) i).trans (tf5 i hi)
        have tf6 : ∀ i, i < 3 → τ1 6 i = nI (hwD d (b1 + 1) i) := row_up (g := fun i => hwD d b1 i) hs1k tf6 (by rw [hw_s, hx0, if_pos rfl]) (fun i hne => by rw [hw_s, hx0, if_neg hne]; rfl)
        refine lv_iload hx hb dL_law_666 (lv_at hl 25 rfl) ?_
        rw [show ((oM (homeD d (pbD d b1))) : Int32) = nI ho from by rw [hh]; rfl]
        refine lv_if_lt (tgt := 690) hx hb dL_law_668 (by decide) (fun q9 => absurd q9 (nI_pos (by omega))) (fun _ => ?_)
        refine lv_aload hx hb dL_law_671 (lv_at hl 14 rfl) ?_
        refine lv_iload hx hb dL_law_673 (lv_at hl 25 rfl) ?_
        rw [show ((oM (homeD d (pbD d b1))) : Int32) = nI ho from by rw [hh]; rfl]
        refine lv_dup2_11 hx hb dL_law_675 rfl rfl ?_
        refine lx_ald F T hw 2 (by decide) (i := ho) (v := nI (hcD d b1 ho)) (by show ho < 8; omega) (by omega) (tf2 ho (by omega)) dL_law_676 ?_
        refine lv_iconst (v := 1) hx hb dL_law_677 (by decide) ?_
        refine lv_iadd hx hb dL_law_678 ?_
        rw [show (((nI (hcD d b1 ho)) + 1) : Int32) = nI ((hcD d b1 ho) + 1) from nI_add (hcD d b1 ho) 1]
        refine lx_ast F T kg hw 2 (by decide) (i := ho) (x := (nI ((hcD d b1 ho) + 1))) (by show ho < 8; omega) (by omega) dL_law_679 (fun H locs hw => ?_)
        obtain ⟨τ2, eτ2⟩ : ∃ z : St, z = su τ1 2 ho (nI ((hcD d b1 ho) + 1)) := ⟨_, rfl⟩
        rw [← eτ2] at hw
        have hs2 : ∀ j, j ≠ 2 → τ2 j = τ1 j := fun j hj => by rw [eτ2]; exact pz_su_r _ _ hj
        have hs2k : ∀ i, τ2 2 i = if i = ho then (nI ((hcD d b1 ho) + 1)) else τ1 2 i := fun i => by rw [eτ2, pz_su_w]; rfl
        have tf0 : ∀ i, i < 360 → τ2 0 i = oA d i := fun i hi => (congrFun (hs2 0 (by decide)) i).trans (tf0 i hi)
        have tf1 : ∀ i, i < 8 → τ2 1 i = nI (stD d i) := fun i hi => (congrFun (hs2 1 (by decide)) i).trans (tf1 i hi)
        have tf3 : ∀ i, i < 8 → τ2 3 i = nI (htD d b1 i) := fun i hi => (congrFun (hs2 3 (by decide)) i).trans (tf3 i hi)
        have tf4 : ∀ i, i < 8 → τ2 4 i = nI (lcD d b1 i) := fun i hi => (congrFun (hs2 4 (by decide)) i).trans (tf4 i hi)
        have tf5 : ∀ i, i < 8 → τ2 5 i = nI (tkD d (b1 + 1) i) := fun i hi => (congrFun (hs2 5 (by decide)) i).trans (tf5 i hi)
        have tf6 : ∀ i, i < 3 → τ2 6 i = nI (hwD d (b1 + 1) i) := fun i hi => (congrFun (hs2 6 (by decide)) i).trans (tf6 i hi)
        have tf2 : ∀ i, i < 8 → τ2 2 i = nI (hcD d (b1 + 1) i) := row_up (g := fun i => hcD d b1 i) hs2k tf2 (by rw [hcD_s, if_pos hh]) (fun i hne => by rw [hcD_s, if_neg (fun z => by rw [hh] at z; exact hne (Option.some.inj z).symm)]; rfl)
        refine lv_aload hx hb dL_law_680 (lv_at hl 15 rfl) ?_
        refine lv_iload hx hb dL_law_682 (lv_at hl 25 rfl) ?_
        rw [show ((oM (homeD d (pbD d b1))) : Int32) = nI ho from by rw [hh]; rfl]
        refine lv_dup2_11 hx hb dL_law_684 rfl rfl ?_
        refine lx_ald F T hw 3 (by decide) (i := ho) (v := nI (htD d b1 ho)) (by show ho < 8; omega) (by omega) (tf3 ho (by omega)) dL_law_685 ?_
        refine lv_iload hx hb dL_law_686 (lv_at hl 23 rfl) ?_
        refine lv_iadd hx hb dL_law_688 ?_
        rw [show (((nI (htD d b1 ho)) + (nI (dto d b1))) : Int32) = nI ((htD d b1 ho) + (dto d b1)) from nI_add (htD d b1 ho) (dto d b1)]
        refine lx_ast F T kg hw 3 (by decide) (i := ho) (x := (nI ((htD d b1 ho) + (dto d b1)))) (by show ho < 8; omega) (by omega) dL_law_689 (fun H locs hw => ?_)
        obtain ⟨τ3, eτ3⟩ : ∃ z : St, z = su τ2 3 ho (nI ((htD d b1 ho) + (dto d b1))) := ⟨_, rfl⟩
        rw [← eτ3] at hw
        have hs3 : ∀ j, j ≠ 3 → τ3 j = τ2 j := fun j hj => by rw [eτ3]; exact pz_su_r _ _ hj
        have hs3k : ∀ i, τ3 3 i = if i = ho then (nI ((htD d b1 ho) + (dto d b1))) else τ2 3 i := fun i => by rw [eτ3, pz_su_w]; rfl
        have tf0 : ∀ i, i < 360 → τ3 0 i = oA d i := fun i hi => (congrFun (hs3 0 (by decide)) i).trans (tf0 i hi)
        have tf1 : ∀ i, i < 8 → τ3 1 i = nI (stD d i) := fun i hi => (congrFun (hs3 1 (by decide)) i).trans (tf1 i hi)
        have tf2 : ∀ i, i < 8 → τ3 2 i = nI (hcD d (b1 + 1) i) := fun i hi => (congrFun (hs3 2 (by decide)) i).trans (tf2 i hi)
        have tf4 : ∀ i, i < 8 → τ3 4 i = nI (lcD d b1 i) := fun i hi => (congrFun (hs3 4 (by decide)) i).trans (tf4 i hi)
        have tf5 : ∀ i, i < 8 → τ3 5 i = nI (tkD d (b1 + 1) i) := fun i hi => (congrFun (hs3 5 (by decide)) i).trans (tf5 i hi)
        have tf6 : ∀ i, i < 3 → τ3 6 i = nI (hwD d (b1 + 1) i) := fun i hi => (congrFun (hs3 6 (by decide)) i).trans (tf6 i hi)
        have tf3 : ∀ i, i < 8 → τ3 3 i = nI (htD d (b1 + 1) i) := row_up (g := fun i => htD d b1 i) hs3k tf3 (by rw [htD_s, if_pos hh]) (fun i hne => by rw [htD_s, if_neg (fun z => by rw [hh] at z; exact hne (Option.some.inj z).symm)]; rfl)
        refine lv_iload hx hb dL_law_690 (lv_at hl 27 rfl) ?_
        rw [show ((oM (lieD d b1)) : Int32) = nI po from by rw [hlie]; rfl]
        refine lv_if_ge (tgt := 698) hx hb dL_law_692 (by decide) (fun _ => ?_) (fun q9 => absurd (nI_pos' (by omega)) q9)
        refine lv_aload hx hb dL_law_698 (lv_at hl 20 rfl) ?_
        refine lv_iload hx hb dL_law_700 (lv_at hl 27 rfl) ?_
        rw [show ((oM (lieD d b1)) : Int32) = nI po from by rw [hlie]; rfl]
        have hzs1 := hw.z
        refine lb_new F T jl_J4 gL_law_J4_init_da8c8 (F.S.2.2.2.2 _ jl_1) (F.S.2.2.2.2 _ jl_2) (F.S.2.2.2.2 _ jl_3) (F.S.2.2.2.2 _ jl_4) (F.S.2.2.2.2 _ jl_5) hw hl.1 (Nat.le_of_ble_eq_true rfl) ⟨Nat.le_of_ble_eq_true rfl, Nat.le_of_ble_eq_true rfl⟩ ⟨cL (by omega), sL (by omega)⟩ dL_law_702 dL_law_705 dL_law_706 (fun B1 V1 H1 locs1 hw1 => ?_)
        have ht1 : ([] : List Nat).length ≤ 0 := Nat.le_refl _
        have kgB1 : ∀ V mb a t, KG zT (GB dC dI cy zT H B1 V mb a t) := fun _ _ _ _ => KG.B hzs1
        refine lv_aload hx hb dL_law_709 (lv_at hl 20 rfl) ?_
        refine lv_iload hx hb dL_law_711 (lv_at hl 27 rfl) ?_
        rw [show ((oM (lieD d b1)) : Int32) = nI po from by rw [hlie]; rfl]
        refine ls_ald (i := po) F hw1 (((hw.g.keep (fun x x1 x2 => hw1.g.1.2 x x1 x2)).top)) (by omega) (by omega) dL_law_713 ?_
        refine lb_made F T hzs1 hw1 (hw.g.2.2 po hp).2.2 (Nat.le_refl _) (Nat.le_refl _) (Nat.le_trans (Nat.add_le_add ht1 (lnAt_len (n := b1) hC.1 (by omega) hp)) (by omega)) (cwV 1 F.S.2.2.2.2 gL_law_J4_append_15ec4 rfl rfl rfl dmJ4_append_15ec4 ⟨Nat.le_of_ble_eq_true rfl, Nat.le_of_ble_eq_true rfl⟩) hl.1 (Nat.le_of_ble_eq_true rfl) ⟨cL (by omega), sL (by omega)⟩ dL_law_714 (fun V1 m1 a1 H1 locs1 hw1 => ?_)
        have ht1 := tl_made ht1 (lnAt_len (n := b1) hC.1 (by omega) hp)
        refine lv_aload hx hb dL_law_717 (lv_at hl 16 rfl) ?_
        refine lv_iload hx hb dL_law_719 (lv_at hl 27 rfl) ?_
        rw [show ((oM (lieD d b1)) : Int32) = nI po from by rw [hlie]; rfl]
        refine lx_ald F T hw1 4 (by decide) (i := po) (v := nI (lcD d b1 po)) (by show po < 8; omega) (by omega) (tf4 po (by omega)) dL_law_721 ?_
        by_cases hz0 : lcD d b1 po = 0
        · have hlc : lcD d b1 po ≤ 24 := Nat.le_trans (by have := sumTo_le (f := fun j => if lieD d j = some po then 1 else 0) (c := 1) b1 (fun j _ => by show (if _ then 1 else 0) ≤ 1; split <;> omega); show sumTo _ b1 ≤ b1; omega) (show b1 ≤ 24 by omega)
          refine lv_if_le (tgt := 730) hx hb dL_law_722 (by decide) (fun _ => ?_) (fun q9 => absurd (by rw [hz0]; decide) q9)
          refine lk_ldc 1 (by decide) F dL_law_730 ?_
          refine lb_const 1 (by decide) F T hzs1 hw1 (Nat.le_trans ht1 (by omega)) (cwV 1 F.S.2.2.2.2 gL_law_J4_append_15ec4 rfl rfl rfl dmJ4_append_15ec4 ⟨Nat.le_of_ble_eq_true rfl, Nat.le_of_ble_eq_true rfl⟩) hl.1 (Nat.le_of_ble_eq_true rfl) ⟨cL (by omega), sL (by omega)⟩ dL_law_732 (fun V1 m1 a1 H1 locs1 hw1 => ?_)
          have ht1 := tl_const ht1 1 (by decide)
          refine lv_iload hx hb dL_law_735 (lv_at hl 21 rfl) ?_
          refine lb_int (v := b1) F T hzs1 hw1 (Nat.le_trans ht1 (by omega)) (by omega) (cwV 1 F.S.2.2.2.2 gL_law_J4_append_bf812 rfl rfl rfl dmJ4_append_bf812 ⟨Nat.le_of_ble_eq_true rfl, Nat.le_of_ble_eq_true rfl⟩) hl.1 (Nat.le_of_ble_eq_true rfl) ⟨cL (by omega), sL (by omega)⟩ dL_law_737 (fun V1 m1 a1 H1 locs1 hw1 => ?_)
          have ht1 := tl_int ht1 b1
          refine lb_toS F T jl_J0 hzs1 (kg) hw.g hw1 (cwV 0 F.S.2.2.2.2 gL_law_J4_toString_0e30d rfl rfl rfl dmJ4_toString_0e30d ⟨Nat.le_of_ble_eq_true rfl, Nat.le_of_ble_eq_true rfl⟩) hl.1 (Nat.le_of_ble_eq_true rfl) ⟨cL (by omega), sL (by omega)⟩ dL_law_740 (fun q1 v1 H9 locs9 hw9 hA1 hP1 hz1 hk1 => ?_)
          refine lb_put (i := po) (n := dP d) F T hw.z hw.g (by omega) (by omega) hw9 hA1 hP1 hk1 dL_law_743 (fun qs vs H locs hw => ?_)
          have hw := LWd.gmap (G2 := GL dC dI cy s zT aL (dP d) qs vs (lnAt d (b1 + 1))) hw (fun H h => by
            rw [if_neg (by omega)] at h
            refine h.congr (fun j hj => ?_)
            by_cases ejp : j = po
            · rw [if_pos ejp, ejp, lnAt_this hlie]; rw [if_pos hz0]; simp [kch]
            · rw [if_neg ejp, lnAt_other hlie ejp])
          have kg := KG.L (dC, dI) cy aL (dP d) qs vs (lnAt d (b1 + 1)) zT s
          refine lv_aload hx hb dL_law_744 (lv_at hl 16 rfl) ?_
          refine lv_iload hx hb dL_law_746 (lv_at hl 27 rfl) ?_
          rw [show ((oM (lieD d b1)) : Int32) = nI po from by rw [hlie]; rfl]
          refine lv_dup2_11 hx hb dL_law_748 rfl rfl ?_
          refine lx_ald F T hw 4 (by decide) (i := po) (v := nI (lcD d b1 po)) (by show po < 8; omega) (by omega) (tf4 po (by omega)) dL_law_749 ?_
          refine lv_iconst (v := 1) hx hb dL_law_750 (by decide) ?_
          refine lv_iadd hx hb dL_law_751 ?_
          rw [show (((nI (lcD d b1 po)) + 1) : Int32) = nI ((lcD d b1 po) + 1) from nI_add (lcD d b1 po) 1]
          refine lx_ast F T kg hw 4 (by decide) (i := po) (x := (nI ((lcD d b1 po) + 1))) (by show po < 8; omega) (by omega) dL_law_752 (fun H locs hw => ?_)
          obtain ⟨τ4, eτ4⟩ : ∃ z : St, z = su τ3 4 po (nI ((lcD d b1 po) + 1)) := ⟨_, rfl⟩
          rw [← eτ4] at hw
          have hs4 : ∀ j, j ≠ 4 → τ4 j = τ3 j := fun j hj => by rw [eτ4]; exact pz_su_r _ _ hj
          have hs4k : ∀ i, τ4 4 i = if i = po then (nI ((lcD d b1 po) + 1)) else τ3 4 i := fun i => by rw [eτ4, pz_su_w]; rfl
          have tf0 : ∀ i, i < 360 → τ4 0 i = oA d i := fun i hi => (congrFun (hs4 0 (by decide)) i).trans (tf0 i hi)
          have tf1 : ∀ i, i < 8 → τ4 1 i = nI (stD d i) := fun i hi => (congrFun (hs4 1 (by decide)) i).trans (tf1 i hi)
          have tf2 : ∀ i, i < 8 → τ4 2 i = nI (hcD d (b1 + 1) i) := fun i hi => (congrFun (hs4 2 (by decide)) i).trans (tf2 i hi)
          have tf3 : ∀ i, i < 8 → τ4 3 i = nI (htD d (b1 + 1) i) := fun i hi => (congrFun (hs4 3 (by decide)) i).trans (tf3 i hi)
          have tf5 : ∀ i, i < 8 → τ4 5 i = nI (tkD d (b1 + 1) i) := fun i hi => (congrFun (hs4 5 (by decide)) i).trans (tf5 i hi)
          have tf6 : ∀ i, i < 3 → τ4 6 i = nI (hwD d (b1 + 1) i) := fun i hi => (congrFun (hs4 6 (by decide)) i).trans (tf6 i hi)
          have tf4 : ∀ i, i < 8 → τ4 4 i = nI (lcD d (b1 + 1) i) := row_up (g := fun i => lcD d b1 i) hs4k tf4 (by rw [lcD_s, if_pos hlie]) (fun i hne => by rw [lcD_s, if_neg (fun z => by rw [hlie] at z; exact hne (Option.some.inj z).symm)]; rfl)
          refine lv_iload hx hb dL_law_753 (lv_at hl 8 rfl) ?_
          refine lv_iload hx hb dL_law_755 (lv_at hl 23 rfl) ?_
          refine lv_iadd hx hb dL_law_757 ?_
          rw [show (((nI (lyD d b1)) + (nI (dto d b1))) : Int32) = nI (lyD d (b1 + 1)) from by rw [ly_some hlie]; exact nI_add _ _]
          refine lv_istore (lv' := [(8, .int (nI (lyD d (b1 + 1)))), (7, .int (nI (sumTo (dto d) (b1 + 1)))), (0, .ref b), (1, .ref (adX 0)), (2, .int (nI turn)), (3, .int (nI (dP d))), (4, .int (nI (dB d))), (5, .int 0), (6, .int 0), (9, .int 0), (10, .int 0), (11, .int (nI (dT d))), (12, .ref (adT 0)), (13, .ref (adT 1)), (14, .ref (adT 2)), (15, .ref (adT 3)), (16, .ref (adT 4)), (17, .ref (adT 5)), (18, .ref (adT 6)), (19, .ref (adT 7)), (20, .ref aL), (21, .int (nI b1)), (22, .int (nI (dna d b1))), (23, .int (nI (dto d b1))), (24, .int (nI (pbD d b1))), (25, .int (oM (homeD d (pbD d b1)))), (26, .int (nI (pasD d b1))), (27, .int (oM (lieD d b1))), (28, .ref q28)]) hx hb dL_law_758 hl (by decide) rfl (fun ls hl => ?_)
          refine lv_iinc (v := nI (b1 + 1)) (lv' := [(21, .int (nI (b1 + 1))), (8, .int (nI (lyD d (b1 + 1)))), (7, .int (nI (sumTo (dto d) (b1 + 1)))), (0, .ref b), (1, .ref (adX 0)), (2, .int (nI turn)), (3, .int (nI (dP d))), (4, .int (nI (dB d))), (5, .int 0), (6, .int 0), (9, .int 0), (10, .int 0), (11, .int (nI (dT d))), (12, .ref (adT 0)), (13, .ref (adT 1)), (14, .ref (adT 2)), (15, .ref (adT 3)), (16, .ref (adT 4)), (17, .ref (adT 5)), (18, .ref (adT 6)), (19, .ref (adT 7)), (20, .ref aL), (22, .int (nI (dna d b1))), (23, .int (nI (dto d b1))), (24, .int (nI (pbD d b1))), (25, .int (oM (homeD d (pbD d b1)))), (26, .int (nI (pasD d b1))), (27, .int (oM (lieD d b1))), (28, .ref q28)]) hx hb dL_law_760 hl (k := 21) rfl (nI_1 b1) (by decide) rfl (fun ls hl => ?_)
          refine lv_goto (tgt := 256) hx hb dL_law_763 (by decide) ?_
          refine lx_mono (k := nc + 7) (n' := ns + 824) (by omega) (by omega) ?_
          exact kk σ1 τ4 qs vs hI1 tf0 tf1 tf2 tf3 tf4 tf5 tf6 H locs hw ls (lv_sub hl [3, 4, 5, 6, 7, 8, 9, 2, 1, 10, 11, 12, 13, 14, 15, 16, 17, 18, 19, 20, 21, 0] rfl)
        · have hlc : lcD d b1 po ≤ 24 := Nat.le_trans (by have := sumTo_le (f := fun j => if lieD d j = some po then 1 else 0) (c := 1) b1 (fun j _ => by show (if _ then 1 else 0) ≤ 1; split <;> omega); show sumTo _ b1 ≤ b1; omega) (show b1 ≤ 24 by omega)
          refine lv_if_le (tgt := 730) hx hb dL_law_722 (by decide) (fun q9 => absurd q9 (nI_nle (by omega) (by omega))) (fun _ => ?_)
          refine lk_ldc 9 (by decide) F dL_law_725 ?_
          refine lv_goto (tgt := 732) hx hb dL_law_727 (by decide) ?_
          refine lb_const 9 (by decide) F T hzs1 hw1 (Nat.le_trans ht1 (by omega)) (cwV 1 F.S.2.2.2.2 gL_law_J4_append_15ec4 rfl rfl rfl dmJ4_append_15ec4 ⟨Nat.le_of_ble_eq_true rfl, Nat.le_of_ble_eq_true rfl⟩) hl.1 (Nat.le_of_ble_eq_true rfl) ⟨cL (by omega), sL (by omega)⟩ dL_law_732 (fun V1 m1 a1 H1 locs1 hw1 => ?_)
          have ht1 := tl_const ht1 9 (by decide)
          refine lv_iload hx hb dL_law_735 (lv_at hl 21 rfl) ?_
          refine lb_int (v := b1) F T hzs1 hw1 (Nat.le_trans ht1 (by omega)) (by omega) (cwV 1 F.S.2.2.2.2 gL_law_J4_append_bf812 rfl rfl rfl dmJ4_append_bf812 ⟨Nat.le_of_ble_eq_true rfl, Nat.le_of_ble_eq_true rfl⟩) hl.1 (Nat.le_of_ble_eq_true rfl) ⟨cL (by omega), sL (by omega)⟩ dL_law_737 (fun V1 m1 a1 H1 locs1 hw1 => ?_)
          have ht1 := tl_int ht1 b1
          refine lb_toS F T jl_J0 hzs1 (kg) hw.g hw1 (cwV 0 F.S.2.2.2.2 gL_law_J4_toString_0e30d rfl rfl rfl dmJ4_toString_0e30d ⟨Nat.le_of_ble_eq_true rfl, Nat.le_of_ble_eq_true rfl⟩) hl.1 (Nat.le_of_ble_eq_true rfl) ⟨cL (by omega), sL (by omega)⟩ dL_law_740 (fun q1 v1 H9 locs9 hw9 hA1 hP1 hz1 hk1 => ?_)
          refine lb_put (i := po) (n := dP d) F T hw.z hw.g (by omega) (by omega) hw9 hA1 hP1 hk1 dL_law_743 (fun qs vs H locs hw => ?_)
          have hw := LWd.gmap (G2 := GL dC dI cy s zT aL (dP d) qs vs (lnAt d (b1 + 1))) hw (fun H h => by
            rw [if_neg (by omega)] at h
            refine h.congr (fun j hj => ?_)
            by_cases ejp : j = po
            · rw [if_pos ejp, ejp, lnAt_this hlie]; rw [if_neg hz0]; simp [kch]
            · rw [if_neg ejp, lnAt_other hlie ejp])
          have kg := KG.L (dC, dI) cy aL (dP d) qs vs (lnAt d (b1 + 1)) zT s
          refine lv_aload hx hb dL_law_744 (lv_at hl 16 rfl) ?_
          refine lv_iload hx hb dL_law_746 (lv_at hl 27 rfl) ?_
          rw [show ((oM (lieD d b1)) : Int32) = nI po from by rw [hlie]; rfl]
          refine lv_dup2_11 hx hb dL_law_748 rfl rfl ?_
          refine lx_ald F T hw 4 (by decide) (i := po) (v := nI (lcD d b1 po)) (by show po < 8; omega) (by omega) (tf4 po (by omega)) dL_law_749 ?_
          refine lv_iconst (v := 1) hx hb dL_law_750 (by decide) ?_
          refine lv_iadd hx hb dL_law_751 ?_
          rw [show (((nI (lcD d b1 po)) + 1) : Int32) = nI ((lcD d b1 po) + 1) from nI_add (lcD d b1 po) 1]
          refine lx_ast F T kg hw 4 (by decide) (i := po) (x := (nI ((lcD d b1 po) + 1))) (by show po < 8; omega) (by omega) dL_law_752 (fun H locs hw => ?_)
          obtain ⟨τ4, eτ4⟩ : ∃ z : St, z = su τ3 4 po (nI ((lcD d b1 po) + 1)) := ⟨_, rfl⟩
          rw [← eτ4] at hw
          have hs4 : ∀ j, j ≠ 4 → τ4 j = τ3 j := fun j hj => by rw [eτ4]; exact pz_su_r _ _ hj
          have hs4k : ∀ i, τ4 4 i = if i = po then (nI ((lcD d b1 po) + 1)) else τ3 4 i := fun i => by rw [eτ4, pz_su_w]; rfl
          have tf0 : ∀ i, i < 360 → τ4 0 i = oA d i := fun i hi => (congrFun (hs4 0 (by decide)) i).trans (tf0 i hi)
          have tf1 : ∀ i, i < 8 → τ4 1 i = nI (stD d i) := fun i hi => (congrFun (hs4 1 (by decide)) i).trans (tf1 i hi)
          have tf2 : ∀ i, i < 8 → τ4 2 i = nI (hcD d (b1 + 1) i) := fun i hi => (congrFun (hs4 2 (by decide)) i).trans (tf2 i hi)
          have tf3 : ∀ i, i < 8 → τ4 3 i = nI (htD d (b1 + 1) i) := fun i hi => (congrFun (hs4 3 (by decide)) i).trans (tf3 i hi)
          have tf5 : ∀ i, i < 8 → τ4 5 i = nI (tkD d (b1 + 1) i) := fun i hi => (congrFun (hs4 5 (by decide)) i).trans (tf5 i hi)
          have tf6 : ∀ i, i < 3 → τ4 6 i = nI (hwD d (b1 + 1) i) := fun i hi => (congrFun (hs4 6 (by decide)) i).trans (tf6 i hi)
          have tf4 : ∀ i, i < 8 → τ4 4 i = nI (lcD d (b1 + 1) i) := row_up (g := fun i => lcD d b1 i) hs4k tf4 (by rw [lcD_s, if_pos hlie]) (fun i hne => by rw [lcD_s, if_neg (fun z => by rw [hlie] at z; exact hne (Option.some.inj z).symm)]; rfl)
          refine lv_iload hx hb dL_law_753 (lv_at hl 8 rfl) ?_
          refine lv_iload hx hb dL_law_755 (lv_at hl 23 rfl) ?_
          refine lv_iadd hx hb dL_law_757 ?_
          rw [show (((nI (lyD d b1)) + (nI (dto d b1))) : Int32) = nI (lyD d (b1 + 1)) from by rw [ly_some hlie]; exact nI_add _ _]
          refine lv_istore (lv' := [(8, .int (nI (lyD d (b1 + 1)))), (7, .int (nI (sumTo (dto d) (b1 + 1)))), (0, .ref b), (1, .ref (adX 0)), (2, .int (nI turn)), (3, .int (nI (dP d))), (4, .int (nI (dB d))), (5, .int 0), (6, .int 0), (9, .int 0), (10, .int 0), (11, .int (nI (dT d))), (12, .ref (adT 0)), (13, .ref (adT 1)), (14, .ref (adT 2)), (15, .ref (adT 3)), (16, .ref (adT 4)), (17, .ref (adT 5)), (18, .ref (adT 6)), (19, .ref (adT 7)), (20, .ref aL), (21, .int (nI b1)), (22, .int (nI (dna d b1))), (23, .int (nI (dto d b1))), (24, .int (nI (pbD d b1))), (25, .int (oM (homeD d (pbD d b1)))), (26, .int (nI (pasD d b1))), (27, .int (oM (lieD d b1))), (28, .ref q28)]) hx hb dL_law_758 hl (by decide) rfl (fun ls hl => ?_)
          refine lv_iinc (v := nI (b1 + 1)) (lv' := [(21, .int (nI (b1 + 1))), (8, .int (nI (lyD d (b1 + 1)))), (7, .int (nI (sumTo (dto d) (b1 + 1)))), (0, .ref b), (1, .ref (adX 0)), (2, .int (nI turn)), (3, .int (nI (dP d))), (4, .int (nI (dB d))), (5, .int 0), (6, .int 0), (9, .int 0), (10, .int 0), (11, .int (nI (dT d))), (12, .ref (adT 0)), (13, .ref (adT 1)), (14, .ref (adT 2)), (15, .ref (adT 3)), (16, .ref (adT 4)), (17, .ref (adT 5)), (18, .ref (adT 6)), (19, .ref (adT 7)), (20, .ref aL), (22, .int (nI (dna d b1))), (23, .int (nI (dto d b1))), (24, .int (nI (pbD d b1))), (25, .int (oM (homeD d (pbD d b1)))), (26, .int (nI (pasD d b1))), (27, .int (oM (lieD d b1))), (28, .ref q28)]) hx hb dL_law_760 hl (k := 21) rfl (nI_1 b1) (by decide) rfl (fun ls hl => ?_)
          refine lv_goto (tgt := 256) hx hb dL_law_763 (by decide) ?_
          refine lx_mono (k := nc + 7) (n' := ns + 824) (by omega) (by omega) ?_
          exact kk σ1 τ4 qs vs hI1 tf0 tf1 tf2 tf3 tf4 tf5 tf6 H locs hw ls (lv_sub hl [3, 4, 5, 6, 7, 8, 9, 2, 1, 10, 11, 12, 13, 14, 15, 16, 17, 18, 19, 20, 21, 0] rfl)
end LB
