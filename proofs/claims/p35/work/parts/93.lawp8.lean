/-! The law: the points in their order (1359 to 1509). -/
theorem jm_1 : Cond.methodLink RL 57 Lib.Math.max.name ∈ wsL_law := by decide +kernel
theorem jm_2 : Cond.static Lib.Math.max.name ∈ wsL_law := by decide +kernel
theorem jm_3 : Cond.initialized "java/lang/Math" ∈ wsL_law := by decide +kernel
theorem jm_4 : Cond.code Lib.Math.max.name Lib.Math.max.code 2 (some .int) ∈ wsL_law := by decide +kernel
theorem jm_5 : Cond.methodLink RL 94 Lib.Math.min.name ∈ wsL_law := by decide +kernel
theorem jm_6 : Cond.static Lib.Math.min.name ∈ wsL_law := by decide +kernel
theorem jm_7 : Cond.code Lib.Math.min.name Lib.Math.min.code 2 (some .int) ∈ wsL_law := by decide +kernel
noncomputable def dpM (d : HD) : Nat → Nat
  | 0 => 0
  | n + 1 => max (dpM d n) (dpK d (nixD d (paD d n)) + 1)
theorem dpM_ge (d : HD) {i : Nat} : ∀ n, i < n → dpK d (nixD d (paD d i)) + 1 ≤ dpM d n := by
  intro n
  induction n with
  | zero => intro h; omega
  | succ n ih =>
    intro h
    show _ ≤ max (dpM d n) (dpK d (nixD d (paD d n)) + 1)
    by_cases e : i = n
    · rw [e]; exact Nat.le_max_right _ _
    · exact Nat.le_trans (ih (by omega)) (Nat.le_max_left _ _)
theorem hgK_ge (d : HD) {i : Nat} : ∀ n, i < n → dpK d i + 1 ≤ hgK d n := by
  intro n
  induction n with
  | zero => intro h; omega
  | succ n ih =>
    intro h
    show _ ≤ max (hgK d n) (dpK d n + 1)
    by_cases e : i = n
    · rw [e]; exact Nat.le_max_right _ _
    · exact Nat.le_trans (ih (by omega)) (Nat.le_max_left _ _)
theorem dpM_le (d : HD) {M : Nat} : ∀ n, (∀ i, i < n → dpK d (nixD d (paD d i)) + 1 ≤ M) → dpM d n ≤ M := by
  intro n
  induction n with
  | zero => intro _; exact Nat.zero_le _
  | succ n ih => intro h; exact Nat.max_le.mpr ⟨ih (fun i hi => h i (by omega)), h n (by omega)⟩
theorem hgK_le2 (d : HD) {M : Nat} : ∀ n, (∀ i, i < n → dpK d i + 1 ≤ M) → hgK d n ≤ M := by
  intro n
  induction n with
  | zero => intro _; exact Nat.zero_le _
  | succ n ih => intro h; exact Nat.max_le.mpr ⟨ih (fun i hi => h i (by omega)), h n (by omega)⟩
theorem dpM_hg {d : HD} (hd : dOk d) : dpM d (cntD d) = hgK d (cntD d) := by
  refine Nat.le_antisymm (dpM_le d _ (fun i hi => ?_)) (hgK_le2 d _ (fun u hu => ?_))
  · have h1 := paD_facts hd hi
    exact hgK_ge d _ (nix_facts h1.1 h1.2.1).1
  · have h1 := kD_facts hd hu
    have h2 := rkD_lt hd h1.1 h1.2.1
    have h3 := paD_rk h1.1 h1.2.1
    have h4 := dpM_ge d (cntD d) h2
    rw [h3, h1.2.2] at h4
    exact h4
theorem dpM_b {d : HD} (hd : dOk d) {n : Nat} (hn : n ≤ cntD d) : dpM d n ≤ 81 := by
  have h80 := cntD_le hd
  refine dpM_le d n (fun i hi => ?_)
  have h1 := paD_facts hd (show i < cntD d by omega)
  have h2 := (nix_facts h1.1 h1.2.1).1
  have h3 := dpK_le d (nixD d (paD d i))
  omega
section LB
variable {p : Program} {l : Launch} {e : Env} {s : State} {m : MethodId} {below : List Frame} {meth : Method} {c : Code} {Q : State → Prop}
variable {dC : Nat → ClassId} {dI : Nat → Nat → Nat} {cy : Nat → ClassId} {tb : Nat × Nat} {aK aV : Nat → Nat} {b bL : Nat} {xs : Nat → Int32}
variable {adX adT : Nat → Nat} {σ : St} {zX zT : Nat} {G : Heap → Prop} {d : HD} {turn nc ns : Nat}
set_option maxHeartbeats 16000000 in
set_option maxRecDepth 100000 in
theorem law_p8 (F : LF p s m c dC dI cy tb adX aK aV zX b bL xs) (T : LT 8 adT zX zT) (hC : CX σ d) (kg : KG zT G) {τ : St} (hnc : nc ≤ 700000) (hns : ns ≤ 6900000) (tf0 : ∀ i, i < 360 → τ 0 i = oA d i) (kk : ∀ (H : Heap) (locs : List Loc), LWd s dC dI cy adX 8 adT zT G σ (τ) H locs → ∀ ls : Array Slot, lv_has ls 31 [(0, .ref b), (1, .ref (adX 0)), (2, .int (nI turn)), (3, .int (nI (dP d))), (4, .int (nI (dB d))), (6, .int (nI (cntD d))), (12, .ref (adT 0)), (13, .ref (adT 1)), (14, .ref (adT 2)), (15, .ref (adT 3)), (16, .ref (adT 4)), (17, .ref (adT 5)), (18, .ref (adT 6)), (19, .ref (adT 7))] → W p l e room_1 s m #[Value.ref b] below meth c H locs nc ns Q (F0 m 1509 ls [])) : ∀ n k, k + n = 360 → ∀ (H : Heap) (locs : List Loc), LWd s dC dI cy adX 8 adT zT G σ (τ) H locs → ∀ ls : Array Slot, lv_has ls 31 [(0, .ref b), (1, .ref (adX 0)), (2, .int (nI turn)), (3, .int (nI (dP d))), (4, .int (nI (dB d))), (6, .int (nI (cntD d))), (12, .ref (adT 0)), (13, .ref (adT 1)), (14, .ref (adT 2)), (15, .ref (adT 3)), (16, .ref (adT 4)), (17, .ref (adT 5)), (18, .ref (adT 6)), (19, .ref (adT 7)), (21, .int (nI (rkD d k))), (22, .int (nI (dpM d (rkD d k)))), (23, .int (nI k))] → W p l e room_1 s m #[Value.ref b] below meth c H locs nc ns Q (F0 m 1368 ls []) := by
  have hx := F.S.1
  have hb := F.S.2.1
  have h8 := hC.1.1
  have h24 := hC.1.2.1
  have h200 := hC.1.2.2.1
  have cL : ∀ {x : Nat}, x ≤ 723972 → x ≤ room_1.cells := fun h => h
  have sL : ∀ {x : Nat}, x ≤ 6930331 → x ≤ room_1.slots := fun h => h
  have h80 := cntD_le hC.1
  intro n
  induction n with
  | zero =>
    intro k hk H locs hw ls hl
    obtain rfl : k = 360 := by omega
    have e1 : rkD d 360 = cntD d := rkD_360 hC.1
    rw [e1, dpM_hg hC.1] at hl
    have hgl := hgK_le d (cntD d)
    refine lv_iload hx hb dL_law_1368 (lv_at hl 16 rfl) ?_
    refine lv_sipush (v := nI 360) hx hb dL_law_1370 (by decide) ?_
    refine lv_icmp_ge (tgt := 1479) hx hb dL_law_1373 (by decide) (fun _ => ?_) (fun q9 => absurd (nI_le (by omega) (by omega)) q9)
    refine lv_iload hx hb dL_law_1479 (lv_at hl 14 rfl) ?_
    refine lv_iload hx hb dL_law_1481 (lv_at hl 5 rfl) ?_
    refine lv_icmp_ne (tgt := 1507) hx hb dL_law_1483 (by decide) (fun q9 => absurd (congrArg nI (show (cntD d) = (cntD d) by omega)) q9) (fun _ => ?_)
    refine lv_aload_n hx hb dL_law_1486 rfl (lv_at hl 1 rfl) ?_
    refine lv_iload hx hb dL_law_1487 (lv_at hl 5 rfl) ?_
    refine lv_iconst (v := 0) hx hb dL_law_1489 (by decide) ?_
    refine lx_i (As := [.int (nI (cntD d)), .int 0]) (rest := []) F T kg (mX6_ring l dC dI adX cy F.J σ (nI (cntD d)) 0 _ (cq_rN hC 0)) (cwV 2 F.S.2.2.2.2 gL_law_X6_ring rfl rfl rfl dmX6_ring ⟨Nat.le_of_ble_eq_true rfl, Nat.le_of_ble_eq_true rfl⟩) hw rfl rfl hl.1 (Nat.le_of_ble_eq_true rfl) ⟨cL (by omega), sL (by omega)⟩ dL_law_1490 (fun H locs hw => ?_)
    refine lv_bipush (v := mI 11) hx hb dL_law_1493 (by decide) ?_
    refine lv_icmp_ne (tgt := 1507) hx hb dL_law_1495 (by decide) (fun q9 => absurd (rfl) q9) (fun _ => ?_)
    refine lv_aload_n hx hb dL_law_1498 rfl (lv_at hl 1 rfl) ?_
    refine lx_i (As := []) (rest := []) F T kg (mX6_deep l dC dI adX cy F.J σ _ (cq_deep hC)) (cwV 0 F.S.2.2.2.2 gL_law_X6_deep rfl rfl rfl dmX6_deep ⟨Nat.le_of_ble_eq_true rfl, Nat.le_of_ble_eq_true rfl⟩) hw rfl rfl hl.1 (Nat.le_of_ble_eq_true rfl) ⟨cL (by omega), sL (by omega)⟩ dL_law_1499 (fun H locs hw => ?_)
    refine lv_iload hx hb dL_law_1502 (lv_at hl 15 rfl) ?_
    refine lv_icmp_eq (tgt := 1509) hx hb dL_law_1504 (by decide) (fun _ => ?_) (fun q9 => absurd (congrArg nI (show (hgK d (cntD d)) = (hgK d (cntD d)) by omega)) q9)
    exact kk H locs hw ls (lv_sub hl [0, 1, 2, 3, 4, 5, 6, 7, 8, 9, 10, 11, 12, 13] rfl)
  | succ n ih =>
    intro k hk H locs hw ls hl
    have hq : k < 360 := by omega
    by_cases hi : isD d k = true
    · have hpl := rkD_lt hC.1 hq hi
      have epk : paD d (rkD d k) = k := paD_rk hq hi
      have hjq := jqD_lt k
      have hpt : 8 * ((17 * (k % 8) + 7 * jqD k) % 45) + k % 8 = k := ptD_jq hq
      have hrs : rkD d (k + 1) = rkD d k + 1 := by rw [rkD_s, if_pos hi]
      have hb1 := dpM_b hC.1 (show rkD d k ≤ cntD d by omega)
      have hdl := dpK_le d (nixD d k)
      have hnx := (nix_facts hq hi).1
      have hms : dpM d (rkD d k + 1) = max (dpM d (rkD d k)) (dpK d (nixD d k) + 1) := by
        show max (dpM d (rkD d k)) (dpK d (nixD d (paD d (rkD d k))) + 1) = _
        rw [epk]
      refine lv_iload hx hb dL_law_1368 (lv_at hl 16 rfl) ?_
      refine lv_sipush (v := nI 360) hx hb dL_law_1370 (by decide) ?_
      refine lv_icmp_ge (tgt := 1479) hx hb dL_law_1373 (by decide) (fun q9 => absurd q9 (nI_ge (by omega) (by omega))) (fun _ => ?_)
      refine lv_aload hx hb dL_law_1376 (lv_at hl 6 rfl) ?_
      refine lv_iload hx hb dL_law_1378 (lv_at hl 16 rfl) ?_
      refine lx_ald F T hw 0 (by decide) (i := k) (v := oA d k) (by show k < 360; omega) (by omega) (tf0 k (by omega)) dL_law_1380 ?_
      rw [show ((oA d k) : Int32) = nI (k % 8) from if_pos hi]
      refine lv_if_ge (tgt := 1387) hx hb dL_law_1381 (by decide) (fun _ => ?_) (fun q9 => absurd (nI_pos' (by omega)) q9)
      refine lv_aload hx hb dL_law_1387 (lv_at hl 6 rfl) ?_
      refine lv_iload hx hb dL_law_1389 (lv_at hl 16 rfl) ?_
      refine lx_ald F T hw 0 (by decide) (i := k) (v := oA d k) (by show k < 360; omega) (by omega) (tf0 k (by omega)) dL_law_1391 ?_
      rw [show ((oA d k) : Int32) = nI (k % 8) from if_pos hi]
      refine lv_istore (lv' := [(24, .int (nI (k % 8))), (0, .ref b), (1, .ref (adX 0)), (2, .int (nI turn)), (3, .int (nI (dP d))), (4, .int (nI (dB d))), (6, .int (nI (cntD d))), (12, .ref (adT 0)), (13, .ref (adT 1)), (14, .ref (adT 2)), (15, .ref (adT 3)), (16, .ref (adT 4)), (17, .ref (adT 5)), (18, .ref (adT 6)), (19, .ref (adT 7)), (21, .int (nI (rkD d k))), (22, .int (nI (dpM d (rkD d k)))), (23, .int (nI k))]) hx hb dL_law_1392 hl (by decide) rfl (fun ls hl => ?_)
      refine lv_aload_n hx hb dL_law_1394 rfl (lv_at hl 2 rfl) ?_
      refine lv_iload hx hb dL_law_1395 (lv_at hl 15 rfl) ?_
      refine lv_iconst (v := 2) hx hb dL_law_1397 (by decide) ?_
      refine lx_i (As := [.int (nI (rkD d k)), .int 2]) (rest := []) F T kg (mX6_ring l dC dI adX cy F.J σ (nI (rkD d k)) 2 _ (cq_r2 hC hpl)) (cwV 2 F.S.2.2.2.2 gL_law_X6_ring rfl rfl rfl dmX6_ring ⟨Nat.le_of_ble_eq_true rfl, Nat.le_of_ble_eq_true rfl⟩) hw rfl rfl hl.1 (Nat.le_of_ble_eq_true rfl) ⟨cL (by omega), sL (by omega)⟩ dL_law_1398 (fun H locs hw => ?_)
      rw [show ((nI (jqD (paD d (rkD d k)))) : Int32) = nI (jqD k) from by rw [epk]]
      refine lv_istore (lv' := [(25, .int (nI (jqD k))), (24, .int (nI (k % 8))), (0, .ref b), (1, .ref (adX 0)), (2, .int (nI turn)), (3, .int (nI (dP d))), (4, .int (nI (dB d))), (6, .int (nI (cntD d))), (12, .ref (adT 0)), (13, .ref (adT 1)), (14, .ref (adT 2)), (15, .ref (adT 3)), (16, .ref (adT 4)), (17, .ref (adT 5)), (18, .ref (adT 6)), (19, .ref (adT 7)), (21, .int (nI (rkD d k))), (22, .int (nI (dpM d (rkD d k)))), (23, .int (nI k))]) hx hb dL_law_1401 hl (by decide) rfl (fun ls hl => ?_)
      refine lv_aload_n hx hb dL_law_1403 rfl (lv_at hl 3 rfl) ?_
      refine lv_iload hx hb dL_law_1404 (lv_at hl 16 rfl) ?_
      refine lv_iconst (v := 0) hx hb dL_law_1406 (by decide) ?_
      refine lx_i (As := [.int (nI (rkD d k)), .int 0]) (rest := []) F T kg (mX6_ring l dC dI adX cy F.J σ (nI (rkD d k)) 0 _ (cq_r0 hC hpl)) (cwV 2 F.S.2.2.2.2 gL_law_X6_ring rfl rfl rfl dmX6_ring ⟨Nat.le_of_ble_eq_true rfl, Nat.le_of_ble_eq_true rfl⟩) hw rfl rfl hl.1 (Nat.le_of_ble_eq_true rfl) ⟨cL (by omega), sL (by omega)⟩ dL_law_1407 (fun H locs hw => ?_)
      rw [show ((nI (paD d (rkD d k))) : Int32) = nI k from by rw [epk]]
      refine lv_iload hx hb dL_law_1410 (lv_at hl 18 rfl) ?_
      refine lv_icmp_ne (tgt := 1452) hx hb dL_law_1412 (by decide) (fun q9 => absurd (congrArg nI (show k = k by omega)) q9) (fun _ => ?_)
      refine lv_aload_n hx hb dL_law_1415 rfl (lv_at hl 3 rfl) ?_
      refine lv_iload hx hb dL_law_1416 (lv_at hl 16 rfl) ?_
      refine lv_iconst (v := 1) hx hb dL_law_1418 (by decide) ?_
      refine lx_i (As := [.int (nI (rkD d k)), .int 1]) (rest := []) F T kg (mX6_ring l dC dI adX cy F.J σ (nI (rkD d k)) 1 _ (cq_r1 hC hpl)) (cwV 2 F.S.2.2.2.2 gL_law_X6_ring rfl rfl rfl dmX6_ring ⟨Nat.le_of_ble_eq_true rfl, Nat.le_of_ble_eq_true rfl⟩) hw rfl rfl hl.1 (Nat.le_of_ble_eq_true rfl) ⟨cL (by omega), sL (by omega)⟩ dL_law_1419 (fun H locs hw => ?_)
      rw [show ((nI (paD d (rkD d k) % 8)) : Int32) = nI (k % 8) from by rw [epk]]
      refine lv_iload hx hb dL_law_1422 (lv_at hl 1 rfl) ?_
      refine lv_icmp_ne (tgt := 1452) hx hb dL_law_1424 (by decide) (fun q9 => absurd (congrArg nI (show (k % 8) = (k % 8) by omega)) q9) (fun _ => ?_)
      refine lv_bipush (v := 8) hx hb dL_law_1427 (by decide) ?_
      refine lv_bipush (v := 17) hx hb dL_law_1429 (by decide) ?_
      refine lv_iload hx hb dL_law_1431 (lv_at hl 1 rfl) ?_
      refine lv_imul hx hb dL_law_1433 ?_
      rw [show (((17 : Int32) * (nI (k % 8))) : Int32) = nI (17 * (k % 8)) from pk_mul 17 (k % 8)]
      refine lv_bipush (v := 7) hx hb dL_law_1434 (by decide) ?_
      refine lv_iload hx hb dL_law_1436 (lv_at hl 0 rfl) ?_
      refine lv_imul hx hb dL_law_1438 ?_
      rw [show (((7 : Int32) * (nI (jqD k))) : Int32) = nI (7 * (jqD k)) from pk_mul 7 (jqD k)]
      refine lv_iadd hx hb dL_law_1439 ?_
      rw [show (((nI (17 * (k % 8))) + (nI (7 * (jqD k)))) : Int32) = nI ((17 * (k % 8)) + (7 * (jqD k))) from nI_add (17 * (k % 8)) (7 * (jqD k))]
      refine lv_bipush (v := 45) hx hb dL_law_1440 (by decide) ?_
      refine xt_irem hx hb dL_law_1442 (by decide) ?_
      rw [show ((jrem (nI ((17 * (k % 8)) + (7 * (jqD k)))) 45) : Int32) = nI (((17 * (k % 8)) + (7 * (jqD k))) % 45) from pz_rem (a := ((17 * (k % 8)) + (7 * (jqD k)))) (d := 45) (by omega) (by omega) (by omega)]
      refine lv_imul hx hb dL_law_1443 ?_
      rw [show (((8 : Int32) * (nI (((17 * (k % 8)) + (7 * (jqD k))) % 45))) : Int32) = nI (8 * (((17 * (k % 8)) + (7 * (jqD k))) % 45)) from pk_mul 8 (((17 * (k % 8)) + (7 * (jqD k))) % 45)]
      refine lv_iload hx hb dL_law_1444 (lv_at hl 1 rfl) ?_
      refine lv_iadd hx hb dL_law_1446 ?_
      rw [show (((nI (8 * (((17 * (k % 8)) + (7 * (jqD k))) % 45))) + (nI (k % 8))) : Int32) = nI ((8 * (((17 * (k % 8)) + (7 * (jqD k))) % 45)) + (k % 8)) from nI_add (8 * (((17 * (k % 8)) + (7 * (jqD k))) % 45)) (k % 8)]
      refine lv_iload hx hb dL_law_1447 (lv_at hl 18 rfl) ?_
      refine lv_icmp_eq (tgt := 1454) hx hb dL_law_1449 (by decide) (fun _ => ?_) (fun q9 => absurd (congrArg nI (show ((8 * (((17 * (k % 8)) + (7 * (jqD k))) % 45)) + (k % 8)) = k by omega)) q9)
      refine lv_iload hx hb dL_law_1454 (lv_at hl 17 rfl) ?_
      refine lv_aload_n hx hb dL_law_1456 rfl (lv_at hl 3 rfl) ?_
      refine lv_iload hx hb dL_law_1457 (lv_at hl 16 rfl) ?_
      refine lv_iconst (v := 3) hx hb dL_law_1459 (by decide) ?_
      refine lx_i (As := [.int (nI (rkD d k)), .int 3]) (rest := [.int (nI (dpM d (rkD d k)))]) F T kg (mX6_ring l dC dI adX cy F.J σ (nI (rkD d k)) 3 _ (cq_r3 hC hpl)) (cwV 2 F.S.2.2.2.2 gL_law_X6_ring rfl rfl rfl dmX6_ring ⟨Nat.le_of_ble_eq_true rfl, Nat.le_of_ble_eq_true rfl⟩) hw rfl rfl hl.1 (Nat.le_of_ble_eq_true rfl) ⟨cL (by omega), sL (by omega)⟩ dL_law_1460 (fun H locs hw => ?_)
      rw [show ((nI (dpK d (nixD d (paD d (rkD d k))))) : Int32) = nI (dpK d (nixD d k)) from by rw [epk]]
      refine lv_iconst (v := 1) hx hb dL_law_1463 (by decide) ?_
      refine lv_iadd hx hb dL_law_1464 ?_
      rw [show (((nI (dpK d (nixD d k))) + 1) : Int32) = nI ((dpK d (nixD d k)) + 1) from nI_add (dpK d (nixD d k)) 1]
      refine va_mmax hx hb (F.S.2.2.1.trans hl.1.symm) F.S.2.2.2.1 (F.S.2.2.2.2 _ jm_1) (F.S.2.2.2.2 _ jm_2) (F.S.2.2.2.2 _ jm_3) (F.S.2.2.2.2 _ jm_4) (Nat.le_of_ble_eq_true rfl) (Nat.le_of_ble_eq_true rfl) (cL (by omega)) (sL (by omega)) dL_law_1465 ?_
      rw [show ((if (nI (dpM d (rkD d k))) < (nI ((dpK d (nixD d k)) + 1)) then (nI ((dpK d (nixD d k)) + 1)) else (nI (dpM d (rkD d k)))) : Int32) = nI (dpM d (rkD d (k + 1))) from by rw [hrs, hms]; exact pz_max (by omega) (by omega)]
      refine lv_istore (lv' := [(22, .int (nI (dpM d (rkD d (k + 1))))), (25, .int (nI (jqD k))), (24, .int (nI (k % 8))), (0, .ref b), (1, .ref (adX 0)), (2, .int (nI turn)), (3, .int (nI (dP d))), (4, .int (nI (dB d))), (6, .int (nI (cntD d))), (12, .ref (adT 0)), (13, .ref (adT 1)), (14, .ref (adT 2)), (15, .ref (adT 3)), (16, .ref (adT 4)), (17, .ref (adT 5)), (18, .ref (adT 6)), (19, .ref (adT 7)), (21, .int (nI (rkD d k))), (23, .int (nI k))]) hx hb dL_law_1468 hl (by decide) rfl (fun ls hl => ?_)
      refine lv_iinc (v := nI (rkD d (k + 1))) (lv' := [(21, .int (nI (rkD d (k + 1)))), (22, .int (nI (dpM d (rkD d (k + 1))))), (25, .int (nI (jqD k))), (24, .int (nI (k % 8))), (0, .ref b), (1, .ref (adX 0)), (2, .int (nI turn)), (3, .int (nI (dP d))), (4, .int (nI (dB d))), (6, .int (nI (cntD d))), (12, .ref (adT 0)), (13, .ref (adT 1)), (14, .ref (adT 2)), (15, .ref (adT 3)), (16, .ref (adT 4)), (17, .ref (adT 5)), (18, .ref (adT 6)), (19, .ref (adT 7)), (23, .int (nI k))]) hx hb dL_law_1470 hl (k := 17) rfl (by rw [hrs]; exact nI_1 _) (by decide) rfl (fun ls hl => ?_)
      refine lv_iinc (v := nI (k + 1)) (lv' := [(23, .int (nI (k + 1))), (21, .int (nI (rkD d (k + 1)))), (22, .int (nI (dpM d (rkD d (k + 1))))), (25, .int (nI (jqD k))), (24, .int (nI (k % 8))), (0, .ref b), (1, .ref (adX 0)), (2, .int (nI turn)), (3, .int (nI (dP d))), (4, .int (nI (dB d))), (6, .int (nI (cntD d))), (12, .ref (adT 0)), (13, .ref (adT 1)), (14, .ref (adT 2)), (15, .ref (adT 3)), (16, .ref (adT 4)), (17, .ref (adT 5)), (18, .ref (adT 6)), (19, .ref (adT 7))]) hx hb dL_law_1473 hl (k := 18) rfl (nI_1 k) (by decide) rfl (fun ls hl => ?_)
      refine lv_goto (tgt := 1368) hx hb dL_law_1476 (by decide) ?_
      exact ih (k + 1) (by omega) H locs hw ls (lv_sub hl [5, 6, 7, 8, 9, 10, 11, 12, 13, 14, 15, 16, 17, 18, 1, 2, 0] rfl)
    · have hrs : rkD d (k + 1) = rkD d k := by rw [rkD_s, if_neg hi]; rfl
      rw [← hrs] at hl
      refine lv_iload hx hb dL_law_1368 (lv_at hl 16 rfl) ?_
      refine lv_sipush (v := nI 360) hx hb dL_law_1370 (by decide) ?_
      refine lv_icmp_ge (tgt := 1479) hx hb dL_law_1373 (by decide) (fun q9 => absurd q9 (nI_ge (by omega) (by omega))) (fun _ => ?_)
      refine lv_aload hx hb dL_law_1376 (lv_at hl 6 rfl) ?_
      refine lv_iload hx hb dL_law_1378 (lv_at hl 16 rfl) ?_
      refine lx_ald F T hw 0 (by decide) (i := k) (v := oA d k) (by show k < 360; omega) (by omega) (tf0 k (by omega)) dL_law_1380 ?_
      rw [show ((oA d k) : Int32) = mI 1 from if_neg hi]
      refine lv_if_ge (tgt := 1387) hx hb dL_law_1381 (by decide) (fun q9 => absurd q9 (by decide)) (fun _ => ?_)
      refine lv_goto (tgt := 1473) hx hb dL_law_1384 (by decide) ?_
      refine lv_iinc (v := nI (k + 1)) (lv' := [(23, .int (nI (k + 1))), (0, .ref b), (1, .ref (adX 0)), (2, .int (nI turn)), (3, .int (nI (dP d))), (4, .int (nI (dB d))), (6, .int (nI (cntD d))), (12, .ref (adT 0)), (13, .ref (adT 1)), (14, .ref (adT 2)), (15, .ref (adT 3)), (16, .ref (adT 4)), (17, .ref (adT 5)), (18, .ref (adT 6)), (19, .ref (adT 7)), (21, .int (nI (rkD d (k + 1)))), (22, .int (nI (dpM d (rkD d (k + 1)))))]) hx hb dL_law_1473 hl (k := 16) rfl (nI_1 k) (by decide) rfl (fun ls hl => ?_)
      refine lv_goto (tgt := 1368) hx hb dL_law_1476 (by decide) ?_
      exact ih (k + 1) (by omega) H locs hw ls (lv_sub hl [1, 2, 3, 4, 5, 6, 7, 8, 9, 10, 11, 12, 13, 14, 15, 16, 0] rfl)
end LB
