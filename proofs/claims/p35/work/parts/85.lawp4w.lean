/-! The law: where a barge lies (316 to 404). -/
def lyD (d : HD) (n : Nat) : Nat := sumTo (fun j => if lieD d j = none then 0 else dto d j) n
section LB
variable {p : Program} {l : Launch} {e : Env} {s : State} {m : MethodId} {below : List Frame} {meth : Method} {c : Code} {Q : State → Prop}
variable {dC : Nat → ClassId} {dI : Nat → Nat → Nat} {cy : Nat → ClassId} {tb : Nat × Nat} {aK aV : Nat → Nat} {b bL : Nat} {xs : Nat → Int32}
variable {adX adT : Nat → Nat} {σ : St} {zX zT : Nat} {G : Heap → Prop} {d : HD} {turn nc ns : Nat}
set_option maxHeartbeats 8000000 in
set_option maxRecDepth 100000 in
theorem law_p4w (F : LF p s m c dC dI cy tb adX aK aV zX b bL xs) (T : LT 8 adT zX zT) (hC : CX σ d) (kg : KG zT G) {τ0 : St} {aL b1 : Nat} (hb1 : b1 < dB d) (hnc : nc ≤ 700000) (hns : ns ≤ 6900000) (tf00 : ∀ i, i < 360 → τ0 0 i = oA d i) (kk : ∀ (τ : St) (x27 : Int32), (∀ j, j ≠ 5 → j ≠ 7 → τ j = τ0 j) → τ 7 b1 = oM (lieD d b1) → (∀ i, i < 8 → τ 5 i = nI (tkD d (b1 + 1) i)) → ∀ (H : Heap) (locs : List Loc), LWd s dC dI cy adX 8 adT zT G σ (τ) H locs → ∀ ls : Array Slot, lv_has ls 31 [(0, .ref b), (1, .ref (adX 0)), (2, .int (nI turn)), (3, .int (nI (dP d))), (4, .int (nI (dB d))), (5, .int 0), (6, .int 0), (7, .int (nI (sumTo (dto d) b1))), (8, .int (nI (lyD d b1))), (9, .int 0), (10, .int 0), (11, .int (nI (dT d))), (12, .ref (adT 0)), (13, .ref (adT 1)), (14, .ref (adT 2)), (15, .ref (adT 3)), (16, .ref (adT 4)), (17, .ref (adT 5)), (18, .ref (adT 6)), (19, .ref (adT 7)), (20, .ref aL), (21, .int (nI b1)), (22, .int (nI (dna d b1))), (23, .int (nI (dto d b1))), (24, .int (nI (pbD d b1))), (25, .int (oM (homeD d (pbD d b1)))), (26, .int (nI (pasD d b1))), (27, .int x27)] → W p l e room_1 s m #[Value.ref b] below meth c H locs nc ns Q (F0 m 404 ls [])) : ∀ n k, k + n = 360 → ∀ (τ : St) (c1 : Nat), (∀ j, j ≠ 5 → j ≠ 7 → τ j = τ0 j) → τ 7 b1 = mI 1 → (∀ i, i < 8 → τ 5 i = nI (tkD d b1 i)) → lieD d b1 = ((wl (cP d) (360 - k) (pbD d b1 + k)).find? (fitD d (tkD d b1) b1)).map (fun i => i % 8) → pasD d b1 = c1 + (wl (cP d) (360 - k) (pbD d b1 + k)).findIdx (fitD d (tkD d b1) b1) → ∀ (H : Heap) (locs : List Loc), LWd s dC dI cy adX 8 adT zT G σ (τ) H locs → ∀ ls : Array Slot, lv_has ls 31 [(0, .ref b), (1, .ref (adX 0)), (2, .int (nI turn)), (3, .int (nI (dP d))), (4, .int (nI (dB d))), (5, .int 0), (6, .int 0), (7, .int (nI (sumTo (dto d) b1))), (8, .int (nI (lyD d b1))), (9, .int 0), (10, .int 0), (11, .int (nI (dT d))), (12, .ref (adT 0)), (13, .ref (adT 1)), (14, .ref (adT 2)), (15, .ref (adT 3)), (16, .ref (adT 4)), (17, .ref (adT 5)), (18, .ref (adT 6)), (19, .ref (adT 7)), (20, .ref aL), (21, .int (nI b1)), (22, .int (nI (dna d b1))), (23, .int (nI (dto d b1))), (24, .int (nI (pbD d b1))), (25, .int (oM (homeD d (pbD d b1)))), (26, .int (nI c1)), (27, .int (nI k))] → W p l e room_1 s m #[Value.ref b] below meth c H locs nc ns Q (F0 m 316 ls []) := by
  have hx := F.S.1
  have hb := F.S.2.1
  have h8 := hC.1.1
  have h24 := hC.1.2.1
  have h200 := hC.1.2.2.1
  have cL : ∀ {x : Nat}, x ≤ 723972 → x ≤ room_1.cells := fun h => h
  have sL : ∀ {x : Nat}, x ≤ 6930331 → x ≤ room_1.slots := fun h => h
  have hpb := pbD_lt d b1
  have hto := (hC.1.2.2.2.2 b1 hb1).2.2
  have hpas := pasD_le d b1
  have found : ∀ k p1, k ≤ 360 → p1 < 8 → lieD d b1 = some p1 → ∀ (τ : St), (∀ j, j ≠ 5 → j ≠ 7 → τ j = τ0 j) → τ 7 b1 = nI p1 → (∀ i, i < 8 → τ 5 i = nI (tkD d (b1 + 1) i)) → ∀ (H : Heap) (locs : List Loc), LWd s dC dI cy adX 8 adT zT G σ (τ) H locs → ∀ ls : Array Slot, lv_has ls 31 [(0, .ref b), (1, .ref (adX 0)), (2, .int (nI turn)), (3, .int (nI (dP d))), (4, .int (nI (dB d))), (5, .int 0), (6, .int 0), (7, .int (nI (sumTo (dto d) b1))), (8, .int (nI (lyD d b1))), (9, .int 0), (10, .int 0), (11, .int (nI (dT d))), (12, .ref (adT 0)), (13, .ref (adT 1)), (14, .ref (adT 2)), (15, .ref (adT 3)), (16, .ref (adT 4)), (17, .ref (adT 5)), (18, .ref (adT 6)), (19, .ref (adT 7)), (20, .ref aL), (21, .int (nI b1)), (22, .int (nI (dna d b1))), (23, .int (nI (dto d b1))), (24, .int (nI (pbD d b1))), (25, .int (oM (homeD d (pbD d b1)))), (26, .int (nI (pasD d b1))), (27, .int (nI k))] → W p l e room_1 s m #[Value.ref b] below meth c H locs nc ns Q (F0 m 316 ls []) := by
    intro k p1 hk hp1 hlie τ ho h7 tf5 H locs hw ls hl
    by_cases hk3 : k = 360
    · obtain rfl := hk3
      refine lv_iload hx hb dL_law_316 (lv_at hl 27 rfl) ?_
      refine lv_sipush (v := nI 360) hx hb dL_law_318 (by decide) ?_
      refine lv_icmp_ge (tgt := 404) hx hb dL_law_321 (by decide) (fun _ => ?_) (fun q9 => absurd (nI_le (by omega) (by omega)) q9)
      exact kk τ _ ho (by rw [h7, hlie]; rfl) tf5 H locs hw ls (lv_sub hl [0, 1, 2, 3, 4, 5, 6, 7, 8, 9, 10, 11, 12, 13, 14, 15, 16, 17, 18, 19, 20, 21, 22, 23, 24, 25, 26, 27] rfl)
    · have hk2 : k < 360 := by omega
      refine lv_iload hx hb dL_law_316 (lv_at hl 27 rfl) ?_
      refine lv_sipush (v := nI 360) hx hb dL_law_318 (by decide) ?_
      refine lv_icmp_ge (tgt := 404) hx hb dL_law_321 (by decide) (fun q9 => absurd q9 (nI_ge (by omega) (by omega))) (fun _ => ?_)
      refine lv_aload hx hb dL_law_324 (lv_at hl 19 rfl) ?_
      refine lv_iload hx hb dL_law_326 (lv_at hl 21 rfl) ?_
      refine lx_ald F T hw 7 (by decide) (i := b1) (v := nI p1) (by show b1 < 24; omega) (by omega) (h7) dL_law_328 ?_
      refine lv_if_ge (tgt := 404) hx hb dL_law_329 (by decide) (fun _ => ?_) (fun q9 => absurd (nI_pos' (by omega)) q9)
      exact kk τ _ ho (by rw [h7, hlie]; rfl) tf5 H locs hw ls (lv_sub hl [0, 1, 2, 3, 4, 5, 6, 7, 8, 9, 10, 11, 12, 13, 14, 15, 16, 17, 18, 19, 20, 21, 22, 23, 24, 25, 26, 27] rfl)
  intro n
  induction n with
  | zero =>
    intro k hk τ c1 ho h7 tf5 e5 e6 H locs hw ls hl
    obtain rfl : k = 360 := by omega
    have e5 : lieD d b1 = none := e5
    have e6 : pasD d b1 = c1 := e6
    refine lv_iload hx hb dL_law_316 (lv_at hl 27 rfl) ?_
    refine lv_sipush (v := nI 360) hx hb dL_law_318 (by decide) ?_
    refine lv_icmp_ge (tgt := 404) hx hb dL_law_321 (by decide) (fun _ => ?_) (fun q9 => absurd (nI_le (by omega) (by omega)) q9)
    rw [← e6] at hl
    exact kk τ _ ho (by rw [h7, e5]; rfl) (fun i hi => by rw [tf5 i hi, tkD_s, e5]; rfl) H locs hw ls (lv_sub hl [0, 1, 2, 3, 4, 5, 6, 7, 8, 9, 10, 11, 12, 13, 14, 15, 16, 17, 18, 19, 20, 21, 22, 23, 24, 25, 26, 27] rfl)
  | succ n ih =>
    intro k hk τ c1 ho h7 tf5 e5 e6 H locs hw ls hl
    have tf0 : ∀ i, i < 360 → τ 0 i = oA d i := fun i hi => (congrFun (ho 0 (by decide) (by decide)) i).trans (tf00 i hi)
    have hm : (pbD d b1 + k) % 360 < 360 := Nat.mod_lt _ (by omega)
    have hwl : wl (cP d) (360 - k) (pbD d b1 + k) = if isD d ((pbD d b1 + k) % 360) = true then (pbD d b1 + k) :: wl (cP d) (360 - (k + 1)) (pbD d b1 + (k + 1)) else wl (cP d) (360 - (k + 1)) (pbD d b1 + (k + 1)) := by
      rw [show 360 - k = (360 - (k + 1)) + 1 by omega]
      rfl
    rw [hwl] at e5 e6
    refine lv_iload hx hb dL_law_316 (lv_at hl 27 rfl) ?_
    refine lv_sipush (v := nI 360) hx hb dL_law_318 (by decide) ?_
    refine lv_icmp_ge (tgt := 404) hx hb dL_law_321 (by decide) (fun q9 => absurd q9 (nI_ge (by omega) (by omega))) (fun _ => ?_)
    refine lv_aload hx hb dL_law_324 (lv_at hl 19 rfl) ?_
    refine lv_iload hx hb dL_law_326 (lv_at hl 21 rfl) ?_
    refine lx_ald F T hw 7 (by decide) (i := b1) (v := mI 1) (by show b1 < 24; omega) (by omega) (h7) dL_law_328 ?_
    refine lv_if_ge (tgt := 404) hx hb dL_law_329 (by decide) (fun q9 => absurd q9 (by decide)) (fun _ => ?_)
    refine lv_aload hx hb dL_law_332 (lv_at hl 12 rfl) ?_
    refine lv_iload hx hb dL_law_334 (lv_at hl 24 rfl) ?_
    refine lv_iload hx hb dL_law_336 (lv_at hl 27 rfl) ?_
    refine lv_iadd hx hb dL_law_338 ?_
    rw [show (((nI (pbD d b1)) + (nI k)) : Int32) = nI ((pbD d b1) + k) from nI_add (pbD d b1) k]
    refine lv_sipush (v := nI 360) hx hb dL_law_339 (by decide) ?_
    refine xt_irem hx hb dL_law_342 (by decide) ?_
    rw [show ((jrem (nI ((pbD d b1) + k)) (nI 360)) : Int32) = nI (((pbD d b1) + k) % 360) from pz_rem (a := ((pbD d b1) + k)) (d := 360) (by omega) (by omega) (by omega)]
    refine lx_ald F T hw 0 (by decide) (i := (((pbD d b1) + k) % 360)) (v := oA d (((pbD d b1) + k) % 360)) (by show (((pbD d b1) + k) % 360) < 360; omega) (by omega) (tf0 (((pbD d b1) + k) % 360) (by omega)) dL_law_343 ?_
    by_cases hi : isD d ((pbD d b1 + k) % 360) = true
    · rw [if_pos hi] at e5 e6
      obtain ⟨po, epo⟩ : ∃ z, z = (pbD d b1 + k) % 8 := ⟨_, rfl⟩
      have ep2 : (pbD d b1 + k) % 360 % 8 = po := by omega
      have hp8 : po < 8 := by omega
      have his := isD_iff.mp hi
      rw [ep2] at his
      have hp : po < dP d := his.1
      have hop : dop d po = true := by
        cases hq : dop d po with
        | true => rfl
        | false =>
          have := his.2
          unfold nptD at this
          rw [hq] at this
          simp at this
      have hro : roomD d po = dbe d po * dT d := by unfold roomD; rw [if_pos hop]
      have hrl := roomD_le hC.1 hp
      have htk := tkD_le hC.1 po b1 (by omega)
      rw [show ((oA d (((pbD d b1) + k) % 360)) : Int32) = nI po from by rw [← ep2]; exact if_pos hi]
      refine lv_istore (lv' := [(28, .int (nI po)), (0, .ref b), (1, .ref (adX 0)), (2, .int (nI turn)), (3, .int (nI (dP d))), (4, .int (nI (dB d))), (5, .int 0), (6, .int 0), (7, .int (nI (sumTo (dto d) b1))), (8, .int (nI (lyD d b1))), (9, .int 0), (10, .int 0), (11, .int (nI (dT d))), (12, .ref (adT 0)), (13, .ref (adT 1)), (14, .ref (adT 2)), (15, .ref (adT 3)), (16, .ref (adT 4)), (17, .ref (adT 5)), (18, .ref (adT 6)), (19, .ref (adT 7)), (20, .ref aL), (21, .int (nI b1)), (22, .int (nI (dna d b1))), (23, .int (nI (dto d b1))), (24, .int (nI (pbD d b1))), (25, .int (oM (homeD d (pbD d b1)))), (26, .int (nI c1)), (27, .int (nI k))]) hx hb dL_law_344 hl (by decide) rfl (fun ls hl => ?_)
      refine lv_iload hx hb dL_law_346 (lv_at hl 0 rfl) ?_
      refine lv_if_ge (tgt := 354) hx hb dL_law_348 (by decide) (fun _ => ?_) (fun q9 => absurd (nI_pos' (by omega)) q9)
      refine lv_aload hx hb dL_law_354 (lv_at hl 18 rfl) ?_
      refine lv_iload hx hb dL_law_356 (lv_at hl 0 rfl) ?_
      refine lx_ald F T hw 5 (by decide) (i := po) (v := nI (tkD d b1 po)) (by show po < 8; omega) (by omega) (tf5 po (by omega)) dL_law_358 ?_
      refine lv_iload hx hb dL_law_359 (lv_at hl 24 rfl) ?_
      refine lv_iadd hx hb dL_law_361 ?_
      rw [show (((nI (tkD d b1 po)) + (nI (dto d b1))) : Int32) = nI ((tkD d b1 po) + (dto d b1)) from nI_add (tkD d b1 po) (dto d b1)]
      refine lv_aload_n hx hb dL_law_362 rfl (lv_at hl 2 rfl) ?_
      refine lv_iload hx hb dL_law_363 (lv_at hl 0 rfl) ?_
      refine lv_iconst (v := 0) hx hb dL_law_365 (by decide) ?_
      refine lx_i (As := [.int (nI po), .int 0]) (rest := [.int (nI ((tkD d b1 po) + (dto d b1)))]) F T kg (mX6_pierOf l dC dI adX cy F.J σ (nI po) 0 _ (cq_p0 hC hp)) (cwV 2 F.S.2.2.2.2 gL_law_X6_pierOf rfl rfl rfl dmX6_pierOf ⟨Nat.le_of_ble_eq_true rfl, Nat.le_of_ble_eq_true rfl⟩) hw rfl rfl hl.1 (Nat.le_of_ble_eq_true rfl) ⟨cL (by omega), sL (by omega)⟩ dL_law_366 (fun H locs hw => ?_)
      refine lv_iload hx hb dL_law_369 (lv_at hl 12 rfl) ?_
      refine lv_imul hx hb dL_law_371 ?_
      rw [show (((nI (dbe d po)) * (nI (dT d))) : Int32) = nI ((dbe d po) * (dT d)) from pk_mul (dbe d po) (dT d)]
      by_cases hfit : tkD d b1 po + dto d b1 ≤ roomD d po
      · have hft : fitD d (tkD d b1) b1 (pbD d b1 + k) = true := by
          unfold fitD
          rw [← epo]
          simpa using hfit
        rw [List.find?_cons_of_pos hft] at e5
        rw [List.findIdx_cons, hft] at e6
        have e5 : lieD d b1 = some po := by rw [epo]; exact e5
        have e6 : pasD d b1 = c1 := e6
        refine lv_icmp_gt (tgt := 395) hx hb dL_law_372 (by decide) (fun q9 => absurd q9 (nI_nlt (by omega) (by omega))) (fun _ => ?_)
        refine lv_aload hx hb dL_law_375 (lv_at hl 20 rfl) ?_
        refine lv_iload hx hb dL_law_377 (lv_at hl 22 rfl) ?_
        refine lv_iload hx hb dL_law_379 (lv_at hl 0 rfl) ?_
        refine lx_ast F T kg hw 7 (by decide) (i := b1) (x := (nI po)) (by show b1 < 24; omega) (by omega) dL_law_381 (fun H locs hw => ?_)
        obtain ⟨τ1, eτ1⟩ : ∃ z : St, z = su τ 7 b1 (nI po) := ⟨_, rfl⟩
        rw [← eτ1] at hw
        have hs1 : ∀ j, j ≠ 7 → τ1 j = τ j := fun j hj => by rw [eτ1]; exact pz_su_r _ _ hj
        have hs1k : ∀ i, τ1 7 i = if i = b1 then (nI po) else τ 7 i := fun i => by rw [eτ1, pz_su_w]; rfl
        have tf0 : ∀ i, i < 360 → τ1 0 i = oA d i := fun i hi => (congrFun (hs1 0 (by decide)) i).trans (tf0 i hi)
        have tf5 : ∀ i, i < 8 → τ1 5 i = nI (tkD d b1 i) := fun i hi => (congrFun (hs1 5 (by decide)) i).trans (tf5 i hi)
        refine lv_aload hx hb dL_law_382 (lv_at hl 18 rfl) ?_
        refine lv_iload hx hb dL_law_384 (lv_at hl 0 rfl) ?_
        refine lv_dup2_11 hx hb dL_law_386 rfl rfl ?_
        refine lx_ald F T hw 5 (by decide) (i := po) (v := nI (tkD d b1 po)) (by show po < 8; omega) (by omega) (tf5 po (by omega)) dL_law_387 ?_
        refine lv_iload hx hb dL_law_388 (lv_at hl 24 rfl) ?_
        refine lv_iadd hx hb dL_law_390 ?_
        rw [show (((nI (tkD d b1 po)) + (nI (dto d b1))) : Int32) = nI ((tkD d b1 po) + (dto d b1)) from nI_add (tkD d b1 po) (dto d b1)]
        refine lx_ast F T kg hw 5 (by decide) (i := po) (x := (nI ((tkD d b1 po) + (dto d b1)))) (by show po < 8; omega) (by omega) dL_law_391 (fun H locs hw => ?_)
        obtain ⟨τ2, eτ2⟩ : ∃ z : St, z = su τ1 5 po (nI ((tkD d b1 po) + (dto d b1))) := ⟨_, rfl⟩
        rw [← eτ2] at hw
        have hs2 : ∀ j, j ≠ 5 → τ2 j = τ1 j := fun j hj => by rw [eτ2]; exact pz_su_r _ _ hj
        have hs2k : ∀ i, τ2 5 i = if i = po then (nI ((tkD d b1 po) + (dto d b1))) else τ1 5 i := fun i => by rw [eτ2, pz_su_w]; rfl
        have tf0 : ∀ i, i < 360 → τ2 0 i = oA d i := fun i hi => (congrFun (hs2 0 (by decide)) i).trans (tf0 i hi)
        have h7b : τ2 7 b1 = nI po := by rw [hs2 7 (by decide), hs1k b1, if_pos rfl]
        have tf5b : ∀ i, i < 8 → τ2 5 i = nI (tkD d (b1 + 1) i) := row_up (g := fun i => tkD d b1 i) hs2k tf5 (by rw [tkD_s, e5, if_pos rfl]) (fun i hne => by rw [tkD_s, e5, if_neg (fun z => hne (Option.some.inj z).symm)]; rfl)
        have ho2 : ∀ j, j ≠ 5 → j ≠ 7 → τ2 j = τ0 j := fun j j1 j2 => by rw [hs2 j j1, hs1 j j2]; exact ho j j1 j2
        refine lv_goto (tgt := 398) hx hb dL_law_392 (by decide) ?_
        refine lv_iinc (v := nI (k + 1)) (lv' := [(27, .int (nI (k + 1))), (28, .int (nI po)), (0, .ref b), (1, .ref (adX 0)), (2, .int (nI turn)), (3, .int (nI (dP d))), (4, .int (nI (dB d))), (5, .int 0), (6, .int 0), (7, .int (nI (sumTo (dto d) b1))), (8, .int (nI (lyD d b1))), (9, .int 0), (10, .int 0), (11, .int (nI (dT d))), (12, .ref (adT 0)), (13, .ref (adT 1)), (14, .ref (adT 2)), (15, .ref (adT 3)), (16, .ref (adT 4)), (17, .ref (adT 5)), (18, .ref (adT 6)), (19, .ref (adT 7)), (20, .ref aL), (21, .int (nI b1)), (22, .int (nI (dna d b1))), (23, .int (nI (dto d b1))), (24, .int (nI (pbD d b1))), (25, .int (oM (homeD d (pbD d b1)))), (26, .int (nI c1))]) hx hb dL_law_398 hl (k := 28) rfl (nI_1 k) (by decide) rfl (fun ls hl => ?_)
        refine lv_goto (tgt := 316) hx hb dL_law_401 (by decide) ?_
        rw [← e6] at hl
        exact found (k + 1) po (by omega) hp8 e5 τ2 ho2 h7b tf5b H locs hw ls (lv_sub hl [2, 3, 4, 5, 6, 7, 8, 9, 10, 11, 12, 13, 14, 15, 16, 17, 18, 19, 20, 21, 22, 23, 24, 25, 26, 27, 28, 0] rfl)
      · have hft : ¬ fitD d (tkD d b1) b1 (pbD d b1 + k) = true := by
          unfold fitD
          rw [← epo]
          simpa using hfit
        rw [List.find?_cons_of_neg hft] at e5
        have hft2 : fitD d (tkD d b1) b1 (pbD d b1 + k) = false := by simpa using hft
        rw [List.findIdx_cons, hft2] at e6
        simp only [cond_false] at e6
        refine lv_icmp_gt (tgt := 395) hx hb dL_law_372 (by decide) (fun _ => ?_) (fun q9 => absurd (nI_lt (by omega) (by omega)) q9)
        refine lv_iinc (v := nI (c1 + 1)) (lv' := [(26, .int (nI (c1 + 1))), (28, .int (nI po)), (0, .ref b), (1, .ref (adX 0)), (2, .int (nI turn)), (3, .int (nI (dP d))), (4, .int (nI (dB d))), (5, .int 0), (6, .int 0), (7, .int (nI (sumTo (dto d) b1))), (8, .int (nI (lyD d b1))), (9, .int 0), (10, .int 0), (11, .int (nI (dT d))), (12, .ref (adT 0)), (13, .ref (adT 1)), (14, .ref (adT 2)), (15, .ref (adT 3)), (16, .ref (adT 4)), (17, .ref (adT 5)), (18, .ref (adT 6)), (19, .ref (adT 7)), (20, .ref aL), (21, .int (nI b1)), (22, .int (nI (dna d b1))), (23, .int (nI (dto d b1))), (24, .int (nI (pbD d b1))), (25, .int (oM (homeD d (pbD d b1)))), (27, .int (nI k))]) hx hb dL_law_395 hl (k := 27) rfl (nI_1 c1) (by decide) rfl (fun ls hl => ?_)
        refine lv_iinc (v := nI (k + 1)) (lv' := [(27, .int (nI (k + 1))), (26, .int (nI (c1 + 1))), (28, .int (nI po)), (0, .ref b), (1, .ref (adX 0)), (2, .int (nI turn)), (3, .int (nI (dP d))), (4, .int (nI (dB d))), (5, .int 0), (6, .int 0), (7, .int (nI (sumTo (dto d) b1))), (8, .int (nI (lyD d b1))), (9, .int 0), (10, .int 0), (11, .int (nI (dT d))), (12, .ref (adT 0)), (13, .ref (adT 1)), (14, .ref (adT 2)), (15, .ref (adT 3)), (16, .ref (adT 4)), (17, .ref (adT 5)), (18, .ref (adT 6)), (19, .ref (adT 7)), (20, .ref aL), (21, .int (nI b1)), (22, .int (nI (dna d b1))), (23, .int (nI (dto d b1))), (24, .int (nI (pbD d b1))), (25, .int (oM (homeD d (pbD d b1))))]) hx hb dL_law_398 hl (k := 28) rfl (nI_1 k) (by decide) rfl (fun ls hl => ?_)
        refine lv_goto (tgt := 316) hx hb dL_law_401 (by decide) ?_
        exact ih (k + 1) (by omega) τ (c1 + 1) ho h7 tf5 e5 (by omega) H locs hw ls (lv_sub hl [3, 4, 5, 6, 7, 8, 9, 10, 11, 12, 13, 14, 15, 16, 17, 18, 19, 20, 21, 22, 23, 24, 25, 26, 27, 28, 1, 0] rfl)
    · rw [if_neg hi] at e5 e6
      rw [show ((oA d (((pbD d b1) + k) % 360)) : Int32) = mI 1 from if_neg hi]
      refine lv_istore (lv' := [(28, .int (mI 1)), (0, .ref b), (1, .ref (adX 0)), (2, .int (nI turn)), (3, .int (nI (dP d))), (4, .int (nI (dB d))), (5, .int 0), (6, .int 0), (7, .int (nI (sumTo (dto d) b1))), (8, .int (nI (lyD d b1))), (9, .int 0), (10, .int 0), (11, .int (nI (dT d))), (12, .ref (adT 0)), (13, .ref (adT 1)), (14, .ref (adT 2)), (15, .ref (adT 3)), (16, .ref (adT 4)), (17, .ref (adT 5)), (18, .ref (adT 6)), (19, .ref (adT 7)), (20, .ref aL), (21, .int (nI b1)), (22, .int (nI (dna d b1))), (23, .int (nI (dto d b1))), (24, .int (nI (pbD d b1))), (25, .int (oM (homeD d (pbD d b1)))), (26, .int (nI c1)), (27, .int (nI k))]) hx hb dL_law_344 hl (by decide) rfl (fun ls hl => ?_)
      refine lv_iload hx hb dL_law_346 (lv_at hl 0 rfl) ?_
      refine lv_if_ge (tgt := 354) hx hb dL_law_348 (by decide) (fun q9 => absurd q9 (by decide)) (fun _ => ?_)
      refine lv_goto (tgt := 398) hx hb dL_law_351 (by decide) ?_
      refine lv_iinc (v := nI (k + 1)) (lv' := [(27, .int (nI (k + 1))), (28, .int (mI 1)), (0, .ref b), (1, .ref (adX 0)), (2, .int (nI turn)), (3, .int (nI (dP d))), (4, .int (nI (dB d))), (5, .int 0), (6, .int 0), (7, .int (nI (sumTo (dto d) b1))), (8, .int (nI (lyD d b1))), (9, .int 0), (10, .int 0), (11, .int (nI (dT d))), (12, .ref (adT 0)), (13, .ref (adT 1)), (14, .ref (adT 2)), (15, .ref (adT 3)), (16, .ref (adT 4)), (17, .ref (adT 5)), (18, .ref (adT 6)), (19, .ref (adT 7)), (20, .ref aL), (21, .int (nI b1)), (22, .int (nI (dna d b1))), (23, .int (nI (dto d b1))), (24, .int (nI (pbD d b1))), (25, .int (oM (homeD d (pbD d b1)))), (26, .int (nI c1))]) hx hb dL_law_398 hl (k := 28) rfl (nI_1 k) (by decide) rfl (fun ls hl => ?_)
      refine lv_goto (tgt := 316) hx hb dL_law_401 (by decide) ?_
      exact ih (k + 1) (by omega) τ c1 ho h7 tf5 e5 e6 H locs hw ls (lv_sub hl [2, 3, 4, 5, 6, 7, 8, 9, 10, 11, 12, 13, 14, 15, 16, 17, 18, 19, 20, 21, 22, 23, 24, 25, 26, 27, 28, 0] rfl)
end LB
