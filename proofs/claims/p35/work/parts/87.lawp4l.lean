/-! The law: the barges' loop (256 to 766). -/
section LB
variable {p : Program} {l : Launch} {e : Env} {s : State} {m : MethodId} {below : List Frame} {meth : Method} {c : Code} {Q : State → Prop}
variable {dC : Nat → ClassId} {dI : Nat → Nat → Nat} {cy : Nat → ClassId} {tb : Nat × Nat} {aK aV : Nat → Nat} {b bL : Nat} {xs : Nat → Int32}
variable {adX adT : Nat → Nat} {σ : St} {zX zT : Nat} {G : Heap → Prop} {d : HD} {turn nc ns : Nat}
set_option maxHeartbeats 16000000 in
set_option maxRecDepth 100000 in
theorem law_p4 (F : LF p s m c dC dI cy tb adX aK aV zX b bL xs) (T : LT 8 adT zX zT) {aL : Nat} (hnc : nc ≤ 690000) (hns : ns ≤ 6700000) (kk : ∀ (σ τ : St) (qs vs : Nat → Nat), CI σ d → (∀ i, i < 360 → τ 0 i = oA d i) → (∀ i, i < 8 → τ 1 i = nI (stD d i)) → (∀ i, i < 8 → τ 2 i = nI (hcD d (dB d) i)) → (∀ i, i < 8 → τ 3 i = nI (htD d (dB d) i)) → (∀ i, i < 8 → τ 4 i = nI (lcD d (dB d) i)) → (∀ i, i < 8 → τ 5 i = nI (tkD d (dB d) i)) → (∀ i, i < 3 → τ 6 i = nI (hwD d (dB d) i)) → ∀ (H : Heap) (locs : List Loc), LWd s dC dI cy adX 8 adT zT (GL dC dI cy s zT aL (dP d) qs vs (lnAt d (dB d))) σ (τ) H locs → ∀ ls : Array Slot, lv_has ls 31 [(0, .ref b), (1, .ref (adX 0)), (2, .int (nI turn)), (3, .int (nI (dP d))), (4, .int (nI (dB d))), (5, .int 0), (6, .int 0), (7, .int (nI (sumTo (dto d) (dB d)))), (8, .int (nI (lyD d (dB d)))), (9, .int 0), (10, .int 0), (11, .int (nI (dT d))), (12, .ref (adT 0)), (13, .ref (adT 1)), (14, .ref (adT 2)), (15, .ref (adT 3)), (16, .ref (adT 4)), (17, .ref (adT 5)), (18, .ref (adT 6)), (19, .ref (adT 7)), (20, .ref aL)] → W p l e room_1 s m #[Value.ref b] below meth c H locs (nc + 720) (ns + 96000) Q (F0 m 766 ls [])) : ∀ n b1, b1 + n = dB d → ∀ (σ τ : St) (qs vs : Nat → Nat), CI σ d → (∀ i, i < 360 → τ 0 i = oA d i) → (∀ i, i < 8 → τ 1 i = nI (stD d i)) → (∀ i, i < 8 → τ 2 i = nI (hcD d b1 i)) → (∀ i, i < 8 → τ 3 i = nI (htD d b1 i)) → (∀ i, i < 8 → τ 4 i = nI (lcD d b1 i)) → (∀ i, i < 8 → τ 5 i = nI (tkD d b1 i)) → (∀ i, i < 3 → τ 6 i = nI (hwD d b1 i)) → ∀ (H : Heap) (locs : List Loc), LWd s dC dI cy adX 8 adT zT (GL dC dI cy s zT aL (dP d) qs vs (lnAt d b1)) σ (τ) H locs → ∀ ls : Array Slot, lv_has ls 31 [(0, .ref b), (1, .ref (adX 0)), (2, .int (nI turn)), (3, .int (nI (dP d))), (4, .int (nI (dB d))), (5, .int 0), (6, .int 0), (7, .int (nI (sumTo (dto d) b1))), (8, .int (nI (lyD d b1))), (9, .int 0), (10, .int 0), (11, .int (nI (dT d))), (12, .ref (adT 0)), (13, .ref (adT 1)), (14, .ref (adT 2)), (15, .ref (adT 3)), (16, .ref (adT 4)), (17, .ref (adT 5)), (18, .ref (adT 6)), (19, .ref (adT 7)), (20, .ref aL), (21, .int (nI b1))] → W p l e room_1 s m #[Value.ref b] below meth c H locs (nc + 30 * b1) (ns + 4000 * b1) Q (F0 m 256 ls []) := by
  intro n
  induction n with
  | zero =>
    intro b1 hk σ τ qs vs hI tf0 tf1 tf2 tf3 tf4 tf5 tf6 H locs hw ls hl
    obtain rfl : b1 = dB d := by omega
    have hC := hI.1
    have hx := F.S.1
    have hb := F.S.2.1
    have h8 := hC.1.1
    have h24 := hC.1.2.1
    have h200 := hC.1.2.2.1
    have cL : ∀ {x : Nat}, x ≤ 723972 → x ≤ room_1.cells := fun h => h
    have sL : ∀ {x : Nat}, x ≤ 6930331 → x ≤ room_1.slots := fun h => h
    refine lx_mono (k := nc + 720) (n' := ns + 96000) (by omega) (by omega) ?_
    refine lv_iload hx hb dL_law_256 (lv_at hl 21 rfl) ?_
    refine lv_iload hx hb dL_law_258 (lv_at hl 4 rfl) ?_
    refine lv_icmp_ge (tgt := 766) hx hb dL_law_260 (by decide) (fun _ => ?_) (fun q9 => absurd (nI_le (by omega) (by omega)) q9)
    exact kk σ τ qs vs hI tf0 tf1 tf2 tf3 tf4 tf5 tf6 H locs hw ls (lv_sub hl [0, 1, 2, 3, 4, 5, 6, 7, 8, 9, 10, 11, 12, 13, 14, 15, 16, 17, 18, 19, 20] rfl)
  | succ n ih =>
    intro b1 hk σ τ qs vs hI tf0 tf1 tf2 tf3 tf4 tf5 tf6 H locs hw ls hl
    have hC := hI.1
    have hb1 : b1 < dB d := by omega
    have hx := F.S.1
    have hb := F.S.2.1
    have h8 := hC.1.1
    have h24 := hC.1.2.1
    have h200 := hC.1.2.2.1
    have cL : ∀ {x : Nat}, x ≤ 723972 → x ≤ room_1.cells := fun h => h
    have sL : ∀ {x : Nat}, x ≤ 6930331 → x ≤ room_1.slots := fun h => h
    have kg := KG.L (dC, dI) cy aL (dP d) qs vs (lnAt d b1) zT s
    have hpb := pbD_lt d b1
    have hna := (hC.1.2.2.2.2 b1 hb1).1
    have hto := (hC.1.2.2.2.2 b1 hb1).2
    refine lv_iload hx hb dL_law_256 (lv_at hl 21 rfl) ?_
    refine lv_iload hx hb dL_law_258 (lv_at hl 4 rfl) ?_
    refine lv_icmp_ge (tgt := 766) hx hb dL_law_260 (by decide) (fun q9 => absurd q9 (nI_ge (by omega) (by omega))) (fun _ => ?_)
    refine lv_aload_n hx hb dL_law_263 rfl (lv_at hl 1 rfl) ?_
    refine lv_iload hx hb dL_law_264 (lv_at hl 21 rfl) ?_
    refine lv_iconst (v := 0) hx hb dL_law_266 (by decide) ?_
    refine lx_i (As := [.int (nI b1), .int 0]) (rest := []) F T kg (mX6_bargeOf l dC dI adX cy F.J σ (nI b1) 0 _ (cq_b0 hC hb1)) (cwV 2 F.S.2.2.2.2 gL_law_X6_bargeOf rfl rfl rfl dmX6_bargeOf ⟨Nat.le_of_ble_eq_true rfl, Nat.le_of_ble_eq_true rfl⟩) hw rfl rfl hl.1 (Nat.le_of_ble_eq_true rfl) ⟨cL (by omega), sL (by omega)⟩ dL_law_267 (fun H locs hw => ?_)
    refine lv_istore (lv' := [(22, .int (nI (dna d b1))), (0, .ref b), (1, .ref (adX 0)), (2, .int (nI turn)), (3, .int (nI (dP d))), (4, .int (nI (dB d))), (5, .int 0), (6, .int 0), (7, .int (nI (sumTo (dto d) b1))), (8, .int (nI (lyD d b1))), (9, .int 0), (10, .int 0), (11, .int (nI (dT d))), (12, .ref (adT 0)), (13, .ref (adT 1)), (14, .ref (adT 2)), (15, .ref (adT 3)), (16, .ref (adT 4)), (17, .ref (adT 5)), (18, .ref (adT 6)), (19, .ref (adT 7)), (20, .ref aL), (21, .int (nI b1))]) hx hb dL_law_270 hl (by decide) rfl (fun ls hl => ?_)
    refine lv_aload_n hx hb dL_law_272 rfl (lv_at hl 2 rfl) ?_
    refine lv_iload hx hb dL_law_273 (lv_at hl 22 rfl) ?_
    refine lv_iconst (v := 1) hx hb dL_law_275 (by decide) ?_
    refine lx_i (As := [.int (nI b1), .int 1]) (rest := []) F T kg (mX6_bargeOf l dC dI adX cy F.J σ (nI b1) 1 _ (cq_b1 hC hb1)) (cwV 2 F.S.2.2.2.2 gL_law_X6_bargeOf rfl rfl rfl dmX6_bargeOf ⟨Nat.le_of_ble_eq_true rfl, Nat.le_of_ble_eq_true rfl⟩) hw rfl rfl hl.1 (Nat.le_of_ble_eq_true rfl) ⟨cL (by omega), sL (by omega)⟩ dL_law_276 (fun H locs hw => ?_)
    refine lv_istore (lv' := [(23, .int (nI (dto d b1))), (22, .int (nI (dna d b1))), (0, .ref b), (1, .ref (adX 0)), (2, .int (nI turn)), (3, .int (nI (dP d))), (4, .int (nI (dB d))), (5, .int 0), (6, .int 0), (7, .int (nI (sumTo (dto d) b1))), (8, .int (nI (lyD d b1))), (9, .int 0), (10, .int 0), (11, .int (nI (dT d))), (12, .ref (adT 0)), (13, .ref (adT 1)), (14, .ref (adT 2)), (15, .ref (adT 3)), (16, .ref (adT 4)), (17, .ref (adT 5)), (18, .ref (adT 6)), (19, .ref (adT 7)), (20, .ref aL), (21, .int (nI b1))]) hx hb dL_law_279 hl (by decide) rfl (fun ls hl => ?_)
    refine lv_bipush (v := 37) hx hb dL_law_281 (by decide) ?_
    refine lv_iload hx hb dL_law_283 (lv_at hl 1 rfl) ?_
    refine lv_imul hx hb dL_law_285 ?_
    rw [show (((37 : Int32) * (nI (dna d b1))) : Int32) = nI (37 * (dna d b1)) from pk_mul 37 (dna d b1)]
    refine lv_bipush (v := 11) hx hb dL_law_286 (by decide) ?_
    refine lv_iadd hx hb dL_law_288 ?_
    rw [show (((nI (37 * (dna d b1))) + 11) : Int32) = nI ((37 * (dna d b1)) + 11) from nI_add (37 * (dna d b1)) 11]
    refine lv_sipush (v := 360) hx hb dL_law_289 (by decide) ?_
    refine xt_irem hx hb dL_law_292 (by decide) ?_
    rw [show ((jrem (nI ((37 * (dna d b1)) + 11)) 360) : Int32) = nI (pbD d b1) from pz_rem (a := 37 * dna d b1 + 11) (d := 360) (by omega) (by omega) (by omega)]
    refine lv_istore (lv' := [(24, .int (nI (pbD d b1))), (23, .int (nI (dto d b1))), (22, .int (nI (dna d b1))), (0, .ref b), (1, .ref (adX 0)), (2, .int (nI turn)), (3, .int (nI (dP d))), (4, .int (nI (dB d))), (5, .int 0), (6, .int 0), (7, .int (nI (sumTo (dto d) b1))), (8, .int (nI (lyD d b1))), (9, .int 0), (10, .int 0), (11, .int (nI (dT d))), (12, .ref (adT 0)), (13, .ref (adT 1)), (14, .ref (adT 2)), (15, .ref (adT 3)), (16, .ref (adT 4)), (17, .ref (adT 5)), (18, .ref (adT 6)), (19, .ref (adT 7)), (20, .ref aL), (21, .int (nI b1))]) hx hb dL_law_293 hl (by decide) rfl (fun ls hl => ?_)
    refine lv_aload hx hb dL_law_295 (lv_at hl 15 rfl) ?_
    refine lv_iload hx hb dL_law_297 (lv_at hl 0 rfl) ?_
    refine lx_home F kg (by decide) (q := (pbD d b1)) hpb tf0 (va_cwS 2 F.S.2.2.2.2 gL_law_L_home rfl rfl rfl dmL_home ⟨Nat.le_of_ble_eq_true rfl, Nat.le_of_ble_eq_true rfl⟩) hw rfl hl.1 (Nat.le_of_ble_eq_true rfl) ⟨cL (by omega), sL (by omega)⟩ dL_law_299 (fun H locs hw => ?_)
    refine lv_istore (lv' := [(25, .int (oM (homeD d (pbD d b1)))), (24, .int (nI (pbD d b1))), (23, .int (nI (dto d b1))), (22, .int (nI (dna d b1))), (0, .ref b), (1, .ref (adX 0)), (2, .int (nI turn)), (3, .int (nI (dP d))), (4, .int (nI (dB d))), (5, .int 0), (6, .int 0), (7, .int (nI (sumTo (dto d) b1))), (8, .int (nI (lyD d b1))), (9, .int 0), (10, .int 0), (11, .int (nI (dT d))), (12, .ref (adT 0)), (13, .ref (adT 1)), (14, .ref (adT 2)), (15, .ref (adT 3)), (16, .ref (adT 4)), (17, .ref (adT 5)), (18, .ref (adT 6)), (19, .ref (adT 7)), (20, .ref aL), (21, .int (nI b1))]) hx hb dL_law_302 hl (by decide) rfl (fun ls hl => ?_)
    refine lv_iconst (v := nI 0) hx hb dL_law_304 (by decide) ?_
    refine lv_istore (lv' := [(26, .int (nI 0)), (25, .int (oM (homeD d (pbD d b1)))), (24, .int (nI (pbD d b1))), (23, .int (nI (dto d b1))), (22, .int (nI (dna d b1))), (0, .ref b), (1, .ref (adX 0)), (2, .int (nI turn)), (3, .int (nI (dP d))), (4, .int (nI (dB d))), (5, .int 0), (6, .int 0), (7, .int (nI (sumTo (dto d) b1))), (8, .int (nI (lyD d b1))), (9, .int 0), (10, .int 0), (11, .int (nI (dT d))), (12, .ref (adT 0)), (13, .ref (adT 1)), (14, .ref (adT 2)), (15, .ref (adT 3)), (16, .ref (adT 4)), (17, .ref (adT 5)), (18, .ref (adT 6)), (19, .ref (adT 7)), (20, .ref aL), (21, .int (nI b1))]) hx hb dL_law_305 hl (by decide) rfl (fun ls hl => ?_)
    refine lv_aload hx hb dL_law_307 (lv_at hl 24 rfl) ?_
    refine lv_iload hx hb dL_law_309 (lv_at hl 26 rfl) ?_
    refine lv_iconst (v := mI 1) hx hb dL_law_311 (by decide) ?_
    refine lx_ast F T kg hw 7 (by decide) (i := b1) (x := (mI 1)) (by show b1 < 24; omega) (by omega) dL_law_312 (fun H locs hw => ?_)
    obtain ⟨τ1, eτ1⟩ : ∃ z : St, z = su τ 7 b1 (mI 1) := ⟨_, rfl⟩
    rw [← eτ1] at hw
    have hs1 : ∀ j, j ≠ 7 → τ1 j = τ j := fun j hj => by rw [eτ1]; exact pz_su_r _ _ hj
    have hs1k : ∀ i, τ1 7 i = if i = b1 then (mI 1) else τ 7 i := fun i => by rw [eτ1, pz_su_w]; rfl
    have tf0 : ∀ i, i < 360 → τ1 0 i = oA d i := fun i hi => (congrFun (hs1 0 (by decide)) i).trans (tf0 i hi)
    have tf1 : ∀ i, i < 8 → τ1 1 i = nI (stD d i) := fun i hi => (congrFun (hs1 1 (by decide)) i).trans (tf1 i hi)
    have tf2 : ∀ i, i < 8 → τ1 2 i = nI (hcD d b1 i) := fun i hi => (congrFun (hs1 2 (by decide)) i).trans (tf2 i hi)
    have tf3 : ∀ i, i < 8 → τ1 3 i = nI (htD d b1 i) := fun i hi => (congrFun (hs1 3 (by decide)) i).trans (tf3 i hi)
    have tf4 : ∀ i, i < 8 → τ1 4 i = nI (lcD d b1 i) := fun i hi => (congrFun (hs1 4 (by decide)) i).trans (tf4 i hi)
    have tf5 : ∀ i, i < 8 → τ1 5 i = nI (tkD d b1 i) := fun i hi => (congrFun (hs1 5 (by decide)) i).trans (tf5 i hi)
    have tf6 : ∀ i, i < 3 → τ1 6 i = nI (hwD d b1 i) := fun i hi => (congrFun (hs1 6 (by decide)) i).trans (tf6 i hi)
    refine lv_iconst (v := nI 0) hx hb dL_law_313 (by decide) ?_
    refine lv_istore (lv' := [(27, .int (nI 0)), (26, .int (nI 0)), (25, .int (oM (homeD d (pbD d b1)))), (24, .int (nI (pbD d b1))), (23, .int (nI (dto d b1))), (22, .int (nI (dna d b1))), (0, .ref b), (1, .ref (adX 0)), (2, .int (nI turn)), (3, .int (nI (dP d))), (4, .int (nI (dB d))), (5, .int 0), (6, .int 0), (7, .int (nI (sumTo (dto d) b1))), (8, .int (nI (lyD d b1))), (9, .int 0), (10, .int 0), (11, .int (nI (dT d))), (12, .ref (adT 0)), (13, .ref (adT 1)), (14, .ref (adT 2)), (15, .ref (adT 3)), (16, .ref (adT 4)), (17, .ref (adT 5)), (18, .ref (adT 6)), (19, .ref (adT 7)), (20, .ref aL), (21, .int (nI b1))]) hx hb dL_law_314 hl (by decide) rfl (fun ls hl => ?_)
    refine law_p4w F T hC kg (τ0 := τ1) (aL := aL) hb1 (by omega) (by omega) tf0 (fun τ x27 ho h7 tf5 H locs hw ls hl => ?_) 360 0 (by omega) τ1 0 (fun _ _ _ => rfl) (by rw [hs1k b1, if_pos rfl]) tf5 rfl (Nat.zero_add _).symm H locs hw ls (lv_sub hl [6, 7, 8, 9, 10, 11, 12, 13, 14, 15, 16, 17, 18, 19, 20, 21, 22, 23, 24, 25, 26, 27, 5, 4, 3, 2, 1, 0] rfl)
    have tf0 : ∀ i, i < 360 → τ 0 i = oA d i := fun i hi => (congrFun (ho 0 (by decide) (by decide)) i).trans (tf0 i hi)
    have tf1 : ∀ i, i < 8 → τ 1 i = nI (stD d i) := fun i hi => (congrFun (ho 1 (by decide) (by decide)) i).trans (tf1 i hi)
    have tf2 : ∀ i, i < 8 → τ 2 i = nI (hcD d b1 i) := fun i hi => (congrFun (ho 2 (by decide) (by decide)) i).trans (tf2 i hi)
    have tf3 : ∀ i, i < 8 → τ 3 i = nI (htD d b1 i) := fun i hi => (congrFun (ho 3 (by decide) (by decide)) i).trans (tf3 i hi)
    have tf4 : ∀ i, i < 8 → τ 4 i = nI (lcD d b1 i) := fun i hi => (congrFun (ho 4 (by decide) (by decide)) i).trans (tf4 i hi)
    have tf6 : ∀ i, i < 3 → τ 6 i = nI (hwD d b1 i) := fun i hi => (congrFun (ho 6 (by decide) (by decide)) i).trans (tf6 i hi)
    refine lv_aload hx hb dL_law_404 (lv_at hl 19 rfl) ?_
    refine lv_iload hx hb dL_law_406 (lv_at hl 21 rfl) ?_
    refine lx_ald F T hw 7 (by decide) (i := b1) (v := oM (lieD d b1)) (by show b1 < 24; omega) (by omega) (h7) dL_law_408 ?_
    refine lv_istore (lv' := [(27, .int (oM (lieD d b1))), (0, .ref b), (1, .ref (adX 0)), (2, .int (nI turn)), (3, .int (nI (dP d))), (4, .int (nI (dB d))), (5, .int 0), (6, .int 0), (7, .int (nI (sumTo (dto d) b1))), (8, .int (nI (lyD d b1))), (9, .int 0), (10, .int 0), (11, .int (nI (dT d))), (12, .ref (adT 0)), (13, .ref (adT 1)), (14, .ref (adT 2)), (15, .ref (adT 3)), (16, .ref (adT 4)), (17, .ref (adT 5)), (18, .ref (adT 6)), (19, .ref (adT 7)), (20, .ref aL), (21, .int (nI b1)), (22, .int (nI (dna d b1))), (23, .int (nI (dto d b1))), (24, .int (nI (pbD d b1))), (25, .int (oM (homeD d (pbD d b1)))), (26, .int (nI (pasD d b1)))]) hx hb dL_law_409 hl (by decide) rfl (fun ls hl => ?_)
    have hzs1 := hw.z
    refine lb_new F T jl_J4 gL_law_J4_init_da8c8 (F.S.2.2.2.2 _ jl_1) (F.S.2.2.2.2 _ jl_2) (F.S.2.2.2.2 _ jl_3) (F.S.2.2.2.2 _ jl_4) (F.S.2.2.2.2 _ jl_5) hw hl.1 (Nat.le_of_ble_eq_true rfl) ⟨Nat.le_of_ble_eq_true rfl, Nat.le_of_ble_eq_true rfl⟩ ⟨cL (by omega), sL (by omega)⟩ dL_law_411 dL_law_414 dL_law_415 (fun B1 V1 H1 locs1 hw1 => ?_)
    have ht1 : ([] : List Nat).length ≤ 0 := Nat.le_refl _
    have kgB1 : ∀ V mb a t, KG zT (GB dC dI cy zT H B1 V mb a t) := fun _ _ _ _ => KG.B hzs1
    refine lv_iload hx hb dL_law_418 (lv_at hl 22 rfl) ?_
    refine lb_int (v := b1) F T hzs1 hw1 (Nat.le_trans ht1 (by omega)) (by omega) (cwV 1 F.S.2.2.2.2 gL_law_J4_append_bf812 rfl rfl rfl dmJ4_append_bf812 ⟨Nat.le_of_ble_eq_true rfl, Nat.le_of_ble_eq_true rfl⟩) hl.1 (Nat.le_of_ble_eq_true rfl) ⟨cL (by omega), sL (by omega)⟩ dL_law_420 (fun V1 m1 a1 H1 locs1 hw1 => ?_)
    have ht1 := tl_int ht1 b1
    refine lk_ldc 4 (by decide) F dL_law_423 ?_
    refine lb_const 4 (by decide) F T hzs1 hw1 (Nat.le_trans ht1 (by omega)) (cwV 1 F.S.2.2.2.2 gL_law_J4_append_15ec4 rfl rfl rfl dmJ4_append_15ec4 ⟨Nat.le_of_ble_eq_true rfl, Nat.le_of_ble_eq_true rfl⟩) hl.1 (Nat.le_of_ble_eq_true rfl) ⟨cL (by omega), sL (by omega)⟩ dL_law_425 (fun V1 m1 a1 H1 locs1 hw1 => ?_)
    have ht1 := tl_const ht1 4 (by decide)
    refine lv_iload hx hb dL_law_428 (lv_at hl 23 rfl) ?_
    refine lb_int (v := (dna d b1)) F T hzs1 hw1 (Nat.le_trans ht1 (by omega)) (by omega) (cwV 1 F.S.2.2.2.2 gL_law_J4_append_bf812 rfl rfl rfl dmJ4_append_bf812 ⟨Nat.le_of_ble_eq_true rfl, Nat.le_of_ble_eq_true rfl⟩) hl.1 (Nat.le_of_ble_eq_true rfl) ⟨cL (by omega), sL (by omega)⟩ dL_law_430 (fun V1 m1 a1 H1 locs1 hw1 => ?_)
    have ht1 := tl_int ht1 (dna d b1)
    refine lk_ldc 5 (by decide) F dL_law_433 ?_
    refine lb_const 5 (by decide) F T hzs1 hw1 (Nat.le_trans ht1 (by omega)) (cwV 1 F.S.2.2.2.2 gL_law_J4_append_15ec4 rfl rfl rfl dmJ4_append_15ec4 ⟨Nat.le_of_ble_eq_true rfl, Nat.le_of_ble_eq_true rfl⟩) hl.1 (Nat.le_of_ble_eq_true rfl) ⟨cL (by omega), sL (by omega)⟩ dL_law_435 (fun V1 m1 a1 H1 locs1 hw1 => ?_)
    have ht1 := tl_const ht1 5 (by decide)
    refine lv_iload hx hb dL_law_438 (lv_at hl 25 rfl) ?_
    refine lb_int (v := (pbD d b1)) F T hzs1 hw1 (Nat.le_trans ht1 (by omega)) (by omega) (cwV 1 F.S.2.2.2.2 gL_law_J4_append_bf812 rfl rfl rfl dmJ4_append_bf812 ⟨Nat.le_of_ble_eq_true rfl, Nat.le_of_ble_eq_true rfl⟩) hl.1 (Nat.le_of_ble_eq_true rfl) ⟨cL (by omega), sL (by omega)⟩ dL_law_440 (fun V1 m1 a1 H1 locs1 hw1 => ?_)
    have ht1 := tl_int ht1 (pbD d b1)
    refine lk_ldc 6 (by decide) F dL_law_443 ?_
    refine lb_const 6 (by decide) F T hzs1 hw1 (Nat.le_trans ht1 (by omega)) (cwV 1 F.S.2.2.2.2 gL_law_J4_append_15ec4 rfl rfl rfl dmJ4_append_15ec4 ⟨Nat.le_of_ble_eq_true rfl, Nat.le_of_ble_eq_true rfl⟩) hl.1 (Nat.le_of_ble_eq_true rfl) ⟨cL (by omega), sL (by omega)⟩ dL_law_445 (fun V1 m1 a1 H1 locs1 hw1 => ?_)
    have ht1 := tl_const ht1 6 (by decide)
    refine lv_iload hx hb dL_law_448 (lv_at hl 24 rfl) ?_
    refine lb_int (v := (dto d b1)) F T hzs1 hw1 (Nat.le_trans ht1 (by omega)) (by omega) (cwV 1 F.S.2.2.2.2 gL_law_J4_append_bf812 rfl rfl rfl dmJ4_append_bf812 ⟨Nat.le_of_ble_eq_true rfl, Nat.le_of_ble_eq_true rfl⟩) hl.1 (Nat.le_of_ble_eq_true rfl) ⟨cL (by omega), sL (by omega)⟩ dL_law_450 (fun V1 m1 a1 H1 locs1 hw1 => ?_)
    have ht1 := tl_int ht1 (dto d b1)
    refine lk_ldc 7 (by decide) F dL_law_453 ?_
    refine lb_const 7 (by decide) F T hzs1 hw1 (Nat.le_trans ht1 (by omega)) (cwV 1 F.S.2.2.2.2 gL_law_J4_append_15ec4 rfl rfl rfl dmJ4_append_15ec4 ⟨Nat.le_of_ble_eq_true rfl, Nat.le_of_ble_eq_true rfl⟩) hl.1 (Nat.le_of_ble_eq_true rfl) ⟨cL (by omega), sL (by omega)⟩ dL_law_455 (fun V1 m1 a1 H1 locs1 hw1 => ?_)
    have ht1 := tl_const ht1 7 (by decide)
    refine lv_iload hx hb dL_law_458 (lv_at hl 0 rfl) ?_
    cases hlie : lieD d b1 with
    | none =>
      have et : [] ++ dg b1 ++ kch 4 ++ dg (dna d b1) ++ kch 5 ++ dg (pbD d b1) ++ kch 6 ++ dg (dto d b1) ++ kch 7 ++ kch 8 = lnB d b1 := by unfold lnB; rw [hlie]; rfl
      show W p l e room_1 s m #[Value.ref b] below meth c _ _ _ _ Q (F0 m 460 _ (.int (mI 1) :: .ref B1 :: []))
      refine lv_if_ge (tgt := 468) hx hb dL_law_460 (by decide) (fun q9 => absurd q9 (by decide)) (fun _ => ?_)
      refine lk_ldc 8 (by decide) F dL_law_463 ?_
      refine lv_goto (tgt := 488) hx hb dL_law_465 (by decide) ?_
      refine lb_const 8 (by decide) F T hzs1 hw1 (Nat.le_trans ht1 (by omega)) (cwV 1 F.S.2.2.2.2 gL_law_J4_append_15ec4 rfl rfl rfl dmJ4_append_15ec4 ⟨Nat.le_of_ble_eq_true rfl, Nat.le_of_ble_eq_true rfl⟩) hl.1 (Nat.le_of_ble_eq_true rfl) ⟨cL (by omega), sL (by omega)⟩ dL_law_488 (fun V1 m1 a1 H1 locs1 hw1 => ?_)
      have ht1 := tl_const ht1 8 (by decide)
      refine lb_toS F T jl_J0 hzs1 (kg) hw.g hw1 (cwV 0 F.S.2.2.2.2 gL_law_J4_toString_0e30d rfl rfl rfl dmJ4_toString_0e30d ⟨Nat.le_of_ble_eq_true rfl, Nat.le_of_ble_eq_true rfl⟩) hl.1 (Nat.le_of_ble_eq_true rfl) ⟨cL (by omega), sL (by omega)⟩ dL_law_491 (fun q1 v1 H9 locs9 hw9 hA1 hP1 hz1 hk1 => ?_)
      refine lv_astore (lv' := [(28, .ref q1), (27, .int (oM (lieD d b1))), (0, .ref b), (1, .ref (adX 0)), (2, .int (nI turn)), (3, .int (nI (dP d))), (4, .int (nI (dB d))), (5, .int 0), (6, .int 0), (7, .int (nI (sumTo (dto d) b1))), (8, .int (nI (lyD d b1))), (9, .int 0), (10, .int 0), (11, .int (nI (dT d))), (12, .ref (adT 0)), (13, .ref (adT 1)), (14, .ref (adT 2)), (15, .ref (adT 3)), (16, .ref (adT 4)), (17, .ref (adT 5)), (18, .ref (adT 6)), (19, .ref (adT 7)), (20, .ref aL), (21, .int (nI b1)), (22, .int (nI (dna d b1))), (23, .int (nI (dto d b1))), (24, .int (nI (pbD d b1))), (25, .int (oM (homeD d (pbD d b1)))), (26, .int (nI (pasD d b1)))]) hx hb dL_law_494 hl (by decide) rfl (fun ls hl => ?_)
      rw [et] at hA1
      have hw : LWd s dC dI cy adX 8 adT zT (fun H => GL dC dI cy s zT aL (dP d) qs vs (lnAt d b1) H ∧ GS s zT q1 v1 (lnB d b1) H) σ τ H9 locs9 := ⟨hw9.X, hw9.T, ⟨hw9.g, hA1.low hzs1⟩, hw9.S, hw9.z⟩
      refine law_p4r (turn := turn) F T hI hb1 (by omega) (by omega) (fun σ τ qs vs hI tf0 tf1 tf2 tf3 tf4 tf5 tf6 H locs hw ls hl => ?_) tf0 tf1 tf2 tf3 tf4 tf5 tf6 H9 locs9 hw ls ?_
      · refine lx_mono (k := nc + 30 * (b1 + 1)) (n' := ns + 4000 * (b1 + 1)) (by omega) (by omega) ?_
        exact ih (b1 + 1) (by omega) σ τ qs vs hI tf0 tf1 tf2 tf3 tf4 tf5 tf6 H locs hw ls hl
      · have hl := (lv_sub hl [2, 3, 4, 5, 6, 7, 8, 9, 10, 11, 12, 13, 14, 15, 16, 17, 18, 19, 20, 21, 22, 23, 24, 25, 26, 27, 28, 1, 0] rfl)
        exact hl
    | some po =>
      have hp : po < dP d := lieD_lt hlie
      have et : [] ++ dg b1 ++ kch 4 ++ dg (dna d b1) ++ kch 5 ++ dg (pbD d b1) ++ kch 6 ++ dg (dto d b1) ++ kch 7 ++ ([] ++ kch 1 ++ dg po) = lnB d b1 := by unfold lnB; rw [hlie]; rfl
      show W p l e room_1 s m #[Value.ref b] below meth c _ _ _ _ Q (F0 m 460 _ (.int (nI po) :: .ref B1 :: []))
      refine lv_if_ge (tgt := 468) hx hb dL_law_460 (by decide) (fun _ => ?_) (fun q9 => absurd (nI_pos' (by omega)) q9)
      have hBV1 := GB.lt hw1.g
      have hzs2 := hw1.z
      refine lb_new F T jl_J4 gL_law_J4_init_da8c8 (F.S.2.2.2.2 _ jl_1) (F.S.2.2.2.2 _ jl_2) (F.S.2.2.2.2 _ jl_3) (F.S.2.2.2.2 _ jl_4) (F.S.2.2.2.2 _ jl_5) hw1 hl.1 (Nat.le_of_ble_eq_true rfl) ⟨Nat.le_of_ble_eq_true rfl, Nat.le_of_ble_eq_true rfl⟩ ⟨cL (by omega), sL (by omega)⟩ dL_law_468 dL_law_471 dL_law_472 (fun B2 V2 H2 locs2 hw2 => ?_)
      have ht2 : ([] : List Nat).length ≤ 0 := Nat.le_refl _
      have kgB2 : ∀ V mb a t, KG zT (GB dC dI cy zT H1 B2 V mb a t) := fun _ _ _ _ => KG.B hzs2
      refine lk_ldc 1 (by decide) F dL_law_475 ?_
      refine lb_const 1 (by decide) F T hzs2 hw2 (Nat.le_trans ht2 (by omega)) (cwV 1 F.S.2.2.2.2 gL_law_J4_append_15ec4 rfl rfl rfl dmJ4_append_15ec4 ⟨Nat.le_of_ble_eq_true rfl, Nat.le_of_ble_eq_true rfl⟩) hl.1 (Nat.le_of_ble_eq_true rfl) ⟨cL (by omega), sL (by omega)⟩ dL_law_477 (fun V2 m2 a2 H2 locs2 hw2 => ?_)
      have ht2 := tl_const ht2 1 (by decide)
      refine lv_iload hx hb dL_law_480 (lv_at hl 0 rfl) ?_
      rw [show ((oM (lieD d b1)) : Int32) = nI po from by rw [hlie]; rfl]
      refine lb_int (v := po) F T hzs2 hw2 (Nat.le_trans ht2 (by omega)) (by omega) (cwV 1 F.S.2.2.2.2 gL_law_J4_append_bf812 rfl rfl rfl dmJ4_append_bf812 ⟨Nat.le_of_ble_eq_true rfl, Nat.le_of_ble_eq_true rfl⟩) hl.1 (Nat.le_of_ble_eq_true rfl) ⟨cL (by omega), sL (by omega)⟩ dL_law_482 (fun V2 m2 a2 H2 locs2 hw2 => ?_)
      have ht2 := tl_int ht2 po
      refine lb_toS F T jl_J0 hzs2 (kgB1 _ _ _ _) hw1.g hw2 (cwV 0 F.S.2.2.2.2 gL_law_J4_toString_0e30d rfl rfl rfl dmJ4_toString_0e30d ⟨Nat.le_of_ble_eq_true rfl, Nat.le_of_ble_eq_true rfl⟩) hl.1 (Nat.le_of_ble_eq_true rfl) ⟨cL (by omega), sL (by omega)⟩ dL_law_485 (fun q2 v2 H1 locs1 hw1 hA2 hP2 hz2 hk2 => ?_)
      refine lb_made2 F T hzs1 hw1 hA2 hBV1 (Nat.le_trans (Nat.add_le_add ht1 ht2) (by omega)) (cwV 1 F.S.2.2.2.2 gL_law_J4_append_15ec4 rfl rfl rfl dmJ4_append_15ec4 ⟨Nat.le_of_ble_eq_true rfl, Nat.le_of_ble_eq_true rfl⟩) hl.1 (Nat.le_of_ble_eq_true rfl) ⟨cL (by omega), sL (by omega)⟩ dL_law_488 (fun V1 m1 a1 H1 locs1 hw1 => ?_)
      have ht1 := tl_made ht1 ht2
      refine lb_toS F T jl_J0 hzs1 (kg) hw.g hw1 (cwV 0 F.S.2.2.2.2 gL_law_J4_toString_0e30d rfl rfl rfl dmJ4_toString_0e30d ⟨Nat.le_of_ble_eq_true rfl, Nat.le_of_ble_eq_true rfl⟩) hl.1 (Nat.le_of_ble_eq_true rfl) ⟨cL (by omega), sL (by omega)⟩ dL_law_491 (fun q1 v1 H9 locs9 hw9 hA1 hP1 hz1 hk1 => ?_)
      refine lv_astore (lv' := [(28, .ref q1), (27, .int (oM (lieD d b1))), (0, .ref b), (1, .ref (adX 0)), (2, .int (nI turn)), (3, .int (nI (dP d))), (4, .int (nI (dB d))), (5, .int 0), (6, .int 0), (7, .int (nI (sumTo (dto d) b1))), (8, .int (nI (lyD d b1))), (9, .int 0), (10, .int 0), (11, .int (nI (dT d))), (12, .ref (adT 0)), (13, .ref (adT 1)), (14, .ref (adT 2)), (15, .ref (adT 3)), (16, .ref (adT 4)), (17, .ref (adT 5)), (18, .ref (adT 6)), (19, .ref (adT 7)), (20, .ref aL), (21, .int (nI b1)), (22, .int (nI (dna d b1))), (23, .int (nI (dto d b1))), (24, .int (nI (pbD d b1))), (25, .int (oM (homeD d (pbD d b1)))), (26, .int (nI (pasD d b1)))]) hx hb dL_law_494 hl (by decide) rfl (fun ls hl => ?_)
      rw [et] at hA1
      have hw : LWd s dC dI cy adX 8 adT zT (fun H => GL dC dI cy s zT aL (dP d) qs vs (lnAt d b1) H ∧ GS s zT q1 v1 (lnB d b1) H) σ τ H9 locs9 := ⟨hw9.X, hw9.T, ⟨hw9.g, hA1.low hzs1⟩, hw9.S, hw9.z⟩
      refine law_p4r (turn := turn) F T hI hb1 (by omega) (by omega) (fun σ τ qs vs hI tf0 tf1 tf2 tf3 tf4 tf5 tf6 H locs hw ls hl => ?_) tf0 tf1 tf2 tf3 tf4 tf5 tf6 H9 locs9 hw ls ?_
      · refine lx_mono (k := nc + 30 * (b1 + 1)) (n' := ns + 4000 * (b1 + 1)) (by omega) (by omega) ?_
        exact ih (b1 + 1) (by omega) σ τ qs vs hI tf0 tf1 tf2 tf3 tf4 tf5 tf6 H locs hw ls hl
      · have hl := (lv_sub hl [2, 3, 4, 5, 6, 7, 8, 9, 10, 11, 12, 13, 14, 15, 16, 17, 18, 19, 20, 21, 22, 23, 24, 25, 26, 27, 28, 1, 0] rfl)
        exact hl
end LB
