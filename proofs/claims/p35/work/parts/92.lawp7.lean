/-! The law: the hot piers in their order (1249 to 1359). -/
section LB
variable {p : Program} {l : Launch} {e : Env} {s : State} {m : MethodId} {below : List Frame} {meth : Method} {c : Code} {Q : State → Prop}
variable {dC : Nat → ClassId} {dI : Nat → Nat → Nat} {cy : Nat → ClassId} {tb : Nat × Nat} {aK aV : Nat → Nat} {b bL : Nat} {xs : Nat → Int32}
variable {adX adT : Nat → Nat} {σ : St} {zX zT : Nat} {G : Heap → Prop} {d : HD} {turn nc ns : Nat}
set_option maxHeartbeats 16000000 in
set_option maxRecDepth 100000 in
theorem law_p7 (F : LF p s m c dC dI cy tb adX aK aV zX b bL xs) (T : LT 8 adT zX zT) (hC : CX σ d) (kg : KG zT G) {τ : St} (hnc : nc ≤ 700000) (hns : ns ≤ 6900000) (tf3 : ∀ i, i < 8 → τ 3 i = nI (htD d (dB d) i)) (kk : ∀ (H : Heap) (locs : List Loc), LWd s dC dI cy adX 8 adT zT G σ (τ) H locs → ∀ ls : Array Slot, lv_has ls 31 [(0, .ref b), (1, .ref (adX 0)), (2, .int (nI turn)), (3, .int (nI (dP d))), (4, .int (nI (dB d))), (6, .int (nI (cntD d))), (12, .ref (adT 0)), (13, .ref (adT 1)), (14, .ref (adT 2)), (15, .ref (adT 3)), (16, .ref (adT 4)), (17, .ref (adT 5)), (18, .ref (adT 6)), (19, .ref (adT 7))] → W p l e room_1 s m #[Value.ref b] below meth c H locs nc ns Q (F0 m 1359 ls [])) : ∀ n k1, k1 + n = dP d → 1 ≤ k1 → ∀ (H : Heap) (locs : List Loc), LWd s dC dI cy adX 8 adT zT G σ (τ) H locs → ∀ ls : Array Slot, lv_has ls 31 [(0, .ref b), (1, .ref (adX 0)), (2, .int (nI turn)), (3, .int (nI (dP d))), (4, .int (nI (dB d))), (6, .int (nI (cntD d))), (12, .ref (adT 0)), (13, .ref (adT 1)), (14, .ref (adT 2)), (15, .ref (adT 3)), (16, .ref (adT 4)), (17, .ref (adT 5)), (18, .ref (adT 6)), (19, .ref (adT 7)), (21, .int (nI k1))] → W p l e room_1 s m #[Value.ref b] below meth c H locs nc ns Q (F0 m 1252 ls []) := by
  have hx := F.S.1
  have hb := F.S.2.1
  have h8 := hC.1.1
  have h24 := hC.1.2.1
  have h200 := hC.1.2.2.1
  have cL : ∀ {x : Nat}, x ≤ 723972 → x ≤ room_1.cells := fun h => h
  have sL : ∀ {x : Nat}, x ≤ 6930331 → x ≤ room_1.slots := fun h => h
  intro n
  induction n with
  | zero =>
    intro k1 hk h1 H locs hw ls hl
    refine lv_iload hx hb dL_law_1252 (lv_at hl 14 rfl) ?_
    refine lv_iload_n hx hb dL_law_1254 rfl (lv_at hl 3 rfl) ?_
    refine lv_icmp_ge (tgt := 1359) hx hb dL_law_1255 (by decide) (fun _ => ?_) (fun q9 => absurd (nI_le (by omega) (by omega)) q9)
    exact kk H locs hw ls (lv_sub hl [0, 1, 2, 3, 4, 5, 6, 7, 8, 9, 10, 11, 12, 13] rfl)
  | succ n ih =>
    intro k1 hk h1 H locs hw ls hl
    obtain ⟨ra, hra, era, na⟩ := hot_at hC.1 (k := k1 - 1) (by omega)
    obtain ⟨rb, hrb, erb, nb⟩ := hot_at hC.1 (k := k1) (by omega)
    have hab : ahB d ra rb = true := by
      by_cases h2 : ahB d ra rb = true
      · exact h2
      · exfalso
        by_cases e : ra = rb
        · rw [e] at na; omega
        · have h3 : ahB d rb ra = true := by
            rw [ah_iff hC.1 hrb hra]
            rw [ah_iff hC.1 hra hrb] at h2
            omega
          have := na_lt hC.1 hrb hra h3
          omega
    have hlex := (ah_iff hC.1 hra hrb).mp hab
    have hmo := more_int hC.1 hra hrb
    obtain ⟨mo, emo⟩ : ∃ z : Int32, z = nI (htD d (dB d) ra) - nI (roomD d ra) - nI (htD d (dB d) rb) + nI (roomD d rb) := ⟨_, rfl⟩
    rw [← emo] at hmo
    have z0I : (0 : Int32).toInt = 0 := by decide
    have hba := hC.1.2.2.2.1 ra hra
    have hbb := hC.1.2.2.2.1 rb hrb
    refine lv_iload hx hb dL_law_1252 (lv_at hl 14 rfl) ?_
    refine lv_iload_n hx hb dL_law_1254 rfl (lv_at hl 3 rfl) ?_
    refine lv_icmp_ge (tgt := 1359) hx hb dL_law_1255 (by decide) (fun q9 => absurd q9 (nI_ge (by omega) (by omega))) (fun _ => ?_)
    refine lv_aload_n hx hb dL_law_1258 rfl (lv_at hl 1 rfl) ?_
    refine lv_iload hx hb dL_law_1259 (lv_at hl 14 rfl) ?_
    refine lv_iconst (v := 1) hx hb dL_law_1261 (by decide) ?_
    refine lv_isub hx hb dL_law_1262 ?_
    rw [show (((nI k1) - 1) : Int32) = nI (k1 - 1) from pk_sub (by omega)]
    refine lx_i (As := [.int (nI (k1 - 1))]) (rest := []) F T kg (mX6_hottest l dC dI adX cy F.J σ (nI (k1 - 1)) _ (cq_hottest hC _)) (cwV 1 F.S.2.2.2.2 gL_law_X6_hottest rfl rfl rfl dmX6_hottest ⟨Nat.le_of_ble_eq_true rfl, Nat.le_of_ble_eq_true rfl⟩) hw rfl rfl hl.1 (Nat.le_of_ble_eq_true rfl) ⟨cL (by omega), sL (by omega)⟩ dL_law_1263 (fun H locs hw => ?_)
    rw [show ((hotR d (nI (k1 - 1))) : Int32) = nI ra from era]
    refine lv_istore (lv' := [(22, .int (nI ra)), (0, .ref b), (1, .ref (adX 0)), (2, .int (nI turn)), (3, .int (nI (dP d))), (4, .int (nI (dB d))), (6, .int (nI (cntD d))), (12, .ref (adT 0)), (13, .ref (adT 1)), (14, .ref (adT 2)), (15, .ref (adT 3)), (16, .ref (adT 4)), (17, .ref (adT 5)), (18, .ref (adT 6)), (19, .ref (adT 7)), (21, .int (nI k1))]) hx hb dL_law_1266 hl (by decide) rfl (fun ls hl => ?_)
    refine lv_aload_n hx hb dL_law_1268 rfl (lv_at hl 2 rfl) ?_
    refine lv_iload hx hb dL_law_1269 (lv_at hl 15 rfl) ?_
    refine lx_i (As := [.int (nI k1)]) (rest := []) F T kg (mX6_hottest l dC dI adX cy F.J σ (nI k1) _ (cq_hottest hC _)) (cwV 1 F.S.2.2.2.2 gL_law_X6_hottest rfl rfl rfl dmX6_hottest ⟨Nat.le_of_ble_eq_true rfl, Nat.le_of_ble_eq_true rfl⟩) hw rfl rfl hl.1 (Nat.le_of_ble_eq_true rfl) ⟨cL (by omega), sL (by omega)⟩ dL_law_1271 (fun H locs hw => ?_)
    rw [show ((hotR d (nI k1)) : Int32) = nI rb from erb]
    refine lv_istore (lv' := [(23, .int (nI rb)), (22, .int (nI ra)), (0, .ref b), (1, .ref (adX 0)), (2, .int (nI turn)), (3, .int (nI (dP d))), (4, .int (nI (dB d))), (6, .int (nI (cntD d))), (12, .ref (adT 0)), (13, .ref (adT 1)), (14, .ref (adT 2)), (15, .ref (adT 3)), (16, .ref (adT 4)), (17, .ref (adT 5)), (18, .ref (adT 6)), (19, .ref (adT 7)), (21, .int (nI k1))]) hx hb dL_law_1274 hl (by decide) rfl (fun ls hl => ?_)
    refine lv_aload hx hb dL_law_1276 (lv_at hl 11 rfl) ?_
    refine lv_iload hx hb dL_law_1278 (lv_at hl 1 rfl) ?_
    refine lx_ald F T hw 3 (by decide) (i := ra) (v := nI (htD d (dB d) ra)) (by show ra < 8; omega) (by omega) (tf3 ra (by omega)) dL_law_1280 ?_
    refine lv_aload_n hx hb dL_law_1281 rfl (lv_at hl 3 rfl) ?_
    refine lv_iload hx hb dL_law_1282 (lv_at hl 1 rfl) ?_
    refine lv_bipush (v := 8) hx hb dL_law_1284 (by decide) ?_
    refine lx_i (As := [.int (nI ra), .int 8]) (rest := [.int (nI (htD d (dB d) ra))]) F T kg (mX6_pierOf l dC dI adX cy F.J σ (nI ra) 8 _ (cq_p8 hC hra)) (cwV 2 F.S.2.2.2.2 gL_law_X6_pierOf rfl rfl rfl dmX6_pierOf ⟨Nat.le_of_ble_eq_true rfl, Nat.le_of_ble_eq_true rfl⟩) hw rfl rfl hl.1 (Nat.le_of_ble_eq_true rfl) ⟨cL (by omega), sL (by omega)⟩ dL_law_1286 (fun H locs hw => ?_)
    refine lv_isub hx hb dL_law_1289 ?_
    rw [show (((nI (htD d (dB d) ra)) - (nI (roomD d ra))) : Int32) = (nI (htD d (dB d) ra) - nI (roomD d ra)) from rfl]
    refine lv_aload hx hb dL_law_1290 (lv_at hl 11 rfl) ?_
    refine lv_iload hx hb dL_law_1292 (lv_at hl 0 rfl) ?_
    refine lx_ald F T hw 3 (by decide) (i := rb) (v := nI (htD d (dB d) rb)) (by show rb < 8; omega) (by omega) (tf3 rb (by omega)) dL_law_1294 ?_
    refine lv_isub hx hb dL_law_1295 ?_
    rw [show (((nI (htD d (dB d) ra) - nI (roomD d ra)) - (nI (htD d (dB d) rb))) : Int32) = (nI (htD d (dB d) ra) - nI (roomD d ra) - nI (htD d (dB d) rb)) from rfl]
    refine lv_aload_n hx hb dL_law_1296 rfl (lv_at hl 3 rfl) ?_
    refine lv_iload hx hb dL_law_1297 (lv_at hl 0 rfl) ?_
    refine lv_bipush (v := 8) hx hb dL_law_1299 (by decide) ?_
    refine lx_i (As := [.int (nI rb), .int 8]) (rest := [.int (nI (htD d (dB d) ra) - nI (roomD d ra) - nI (htD d (dB d) rb))]) F T kg (mX6_pierOf l dC dI adX cy F.J σ (nI rb) 8 _ (cq_p8 hC hrb)) (cwV 2 F.S.2.2.2.2 gL_law_X6_pierOf rfl rfl rfl dmX6_pierOf ⟨Nat.le_of_ble_eq_true rfl, Nat.le_of_ble_eq_true rfl⟩) hw rfl rfl hl.1 (Nat.le_of_ble_eq_true rfl) ⟨cL (by omega), sL (by omega)⟩ dL_law_1301 (fun H locs hw => ?_)
    refine lv_iadd hx hb dL_law_1304 ?_
    rw [show (((nI (htD d (dB d) ra) - nI (roomD d ra) - nI (htD d (dB d) rb)) + (nI (roomD d rb))) : Int32) = mo from emo.symm]
    refine lv_istore (lv' := [(24, .int mo), (23, .int (nI rb)), (22, .int (nI ra)), (0, .ref b), (1, .ref (adX 0)), (2, .int (nI turn)), (3, .int (nI (dP d))), (4, .int (nI (dB d))), (6, .int (nI (cntD d))), (12, .ref (adT 0)), (13, .ref (adT 1)), (14, .ref (adT 2)), (15, .ref (adT 3)), (16, .ref (adT 4)), (17, .ref (adT 5)), (18, .ref (adT 6)), (19, .ref (adT 7)), (21, .int (nI k1))]) hx hb dL_law_1305 hl (by decide) rfl (fun ls hl => ?_)
    refine lv_aload_n hx hb dL_law_1307 rfl (lv_at hl 4 rfl) ?_
    refine lv_iload hx hb dL_law_1308 (lv_at hl 1 rfl) ?_
    refine lv_iconst (v := 0) hx hb dL_law_1310 (by decide) ?_
    refine lx_i (As := [.int (nI rb), .int 0]) (rest := []) F T kg (mX6_pierOf l dC dI adX cy F.J σ (nI rb) 0 _ (cq_p0 hC hrb)) (cwV 2 F.S.2.2.2.2 gL_law_X6_pierOf rfl rfl rfl dmX6_pierOf ⟨Nat.le_of_ble_eq_true rfl, Nat.le_of_ble_eq_true rfl⟩) hw rfl rfl hl.1 (Nat.le_of_ble_eq_true rfl) ⟨cL (by omega), sL (by omega)⟩ dL_law_1311 (fun H locs hw => ?_)
    refine lv_aload_n hx hb dL_law_1314 rfl (lv_at hl 4 rfl) ?_
    refine lv_iload hx hb dL_law_1315 (lv_at hl 2 rfl) ?_
    refine lv_iconst (v := 0) hx hb dL_law_1317 (by decide) ?_
    refine lx_i (As := [.int (nI ra), .int 0]) (rest := [.int (nI (dbe d rb))]) F T kg (mX6_pierOf l dC dI adX cy F.J σ (nI ra) 0 _ (cq_p0 hC hra)) (cwV 2 F.S.2.2.2.2 gL_law_X6_pierOf rfl rfl rfl dmX6_pierOf ⟨Nat.le_of_ble_eq_true rfl, Nat.le_of_ble_eq_true rfl⟩) hw rfl rfl hl.1 (Nat.le_of_ble_eq_true rfl) ⟨cL (by omega), sL (by omega)⟩ dL_law_1318 (fun H locs hw => ?_)
    refine lv_isub hx hb dL_law_1321 ?_
    rw [show (((nI (dbe d rb)) - (nI (dbe d ra))) : Int32) = (nI (dbe d rb) - nI (dbe d ra)) from rfl]
    refine lv_istore (lv' := [(25, .int (nI (dbe d rb) - nI (dbe d ra))), (24, .int mo), (23, .int (nI rb)), (22, .int (nI ra)), (0, .ref b), (1, .ref (adX 0)), (2, .int (nI turn)), (3, .int (nI (dP d))), (4, .int (nI (dB d))), (6, .int (nI (cntD d))), (12, .ref (adT 0)), (13, .ref (adT 1)), (14, .ref (adT 2)), (15, .ref (adT 3)), (16, .ref (adT 4)), (17, .ref (adT 5)), (18, .ref (adT 6)), (19, .ref (adT 7)), (21, .int (nI k1))]) hx hb dL_law_1322 hl (by decide) rfl (fun ls hl => ?_)
    refine lv_iload hx hb dL_law_1324 (lv_at hl 1 rfl) ?_
    refine lv_if_lt (tgt := 1351) hx hb dL_law_1326 (by decide) (fun q9 => absurd q9 (fun z => by have z2 := Int32.lt_iff_toInt_lt.mp z; omega)) (fun _ => ?_)
    refine lv_iload hx hb dL_law_1329 (lv_at hl 1 rfl) ?_
    by_cases hz : mo = 0
    · have hby : (byD d ra).toInt = (byD d rb).toInt := by rw [hz] at hmo; omega
      have hle : dbe d ra ≤ dbe d rb := by omega
      refine lv_if_ne (tgt := 1353) hx hb dL_law_1331 (by decide) (fun q9 => absurd (hz) q9) (fun _ => ?_)
      refine lv_iload hx hb dL_law_1334 (lv_at hl 0 rfl) ?_
      rw [show ((nI (dbe d rb) - nI (dbe d ra)) : Int32) = nI (dbe d rb - dbe d ra) from pk_sub hle]
      refine lv_if_lt (tgt := 1351) hx hb dL_law_1336 (by decide) (fun q9 => absurd q9 (nI_pos (by omega))) (fun _ => ?_)
      refine lv_iload hx hb dL_law_1339 (lv_at hl 0 rfl) ?_
      rw [show ((nI (dbe d rb) - nI (dbe d ra)) : Int32) = nI (dbe d rb - dbe d ra) from pk_sub hle]
      by_cases hq : dbe d ra = dbe d rb
      · have hlt : ra < rb := by omega
        refine lv_if_ne (tgt := 1353) hx hb dL_law_1341 (by decide) (fun q9 => absurd (by rw [show dbe d rb - dbe d ra = 0 by omega]; rfl) q9) (fun _ => ?_)
        refine lv_iload hx hb dL_law_1344 (lv_at hl 3 rfl) ?_
        refine lv_iload hx hb dL_law_1346 (lv_at hl 2 rfl) ?_
        refine lv_icmp_le (tgt := 1353) hx hb dL_law_1348 (by decide) (fun _ => ?_) (fun q9 => absurd (nI_le (by omega) (by omega)) q9)
        refine lv_iinc (v := nI (k1 + 1)) (lv' := [(21, .int (nI (k1 + 1))), (25, .int (nI (dbe d rb) - nI (dbe d ra))), (24, .int mo), (23, .int (nI rb)), (22, .int (nI ra)), (0, .ref b), (1, .ref (adX 0)), (2, .int (nI turn)), (3, .int (nI (dP d))), (4, .int (nI (dB d))), (6, .int (nI (cntD d))), (12, .ref (adT 0)), (13, .ref (adT 1)), (14, .ref (adT 2)), (15, .ref (adT 3)), (16, .ref (adT 4)), (17, .ref (adT 5)), (18, .ref (adT 6)), (19, .ref (adT 7))]) hx hb dL_law_1353 hl (k := 18) rfl (nI_1 k1) (by decide) rfl (fun ls hl => ?_)
        refine lv_goto (tgt := 1252) hx hb dL_law_1356 (by decide) ?_
        exact ih (k1 + 1) (by omega) (by omega) H locs hw ls (lv_sub hl [5, 6, 7, 8, 9, 10, 11, 12, 13, 14, 15, 16, 17, 18, 0] rfl)
      · have hlt2 : 0 < dbe d rb - dbe d ra := by omega
        refine lv_if_ne (tgt := 1353) hx hb dL_law_1341 (by decide) (fun _ => ?_) (fun q9 => absurd q9 (nI_ne0 hlt2 (by omega)))
        refine lv_iinc (v := nI (k1 + 1)) (lv' := [(21, .int (nI (k1 + 1))), (25, .int (nI (dbe d rb) - nI (dbe d ra))), (24, .int mo), (23, .int (nI rb)), (22, .int (nI ra)), (0, .ref b), (1, .ref (adX 0)), (2, .int (nI turn)), (3, .int (nI (dP d))), (4, .int (nI (dB d))), (6, .int (nI (cntD d))), (12, .ref (adT 0)), (13, .ref (adT 1)), (14, .ref (adT 2)), (15, .ref (adT 3)), (16, .ref (adT 4)), (17, .ref (adT 5)), (18, .ref (adT 6)), (19, .ref (adT 7))]) hx hb dL_law_1353 hl (k := 18) rfl (nI_1 k1) (by decide) rfl (fun ls hl => ?_)
        refine lv_goto (tgt := 1252) hx hb dL_law_1356 (by decide) ?_
        exact ih (k1 + 1) (by omega) (by omega) H locs hw ls (lv_sub hl [5, 6, 7, 8, 9, 10, 11, 12, 13, 14, 15, 16, 17, 18, 0] rfl)
    · skip
      refine lv_if_ne (tgt := 1353) hx hb dL_law_1331 (by decide) (fun _ => ?_) (fun q9 => absurd q9 (hz))
      refine lv_iinc (v := nI (k1 + 1)) (lv' := [(21, .int (nI (k1 + 1))), (25, .int (nI (dbe d rb) - nI (dbe d ra))), (24, .int mo), (23, .int (nI rb)), (22, .int (nI ra)), (0, .ref b), (1, .ref (adX 0)), (2, .int (nI turn)), (3, .int (nI (dP d))), (4, .int (nI (dB d))), (6, .int (nI (cntD d))), (12, .ref (adT 0)), (13, .ref (adT 1)), (14, .ref (adT 2)), (15, .ref (adT 3)), (16, .ref (adT 4)), (17, .ref (adT 5)), (18, .ref (adT 6)), (19, .ref (adT 7))]) hx hb dL_law_1353 hl (k := 18) rfl (nI_1 k1) (by decide) rfl (fun ls hl => ?_)
      refine lv_goto (tgt := 1252) hx hb dL_law_1356 (by decide) ?_
      exact ih (k1 + 1) (by omega) (by omega) H locs hw ls (lv_sub hl [5, 6, 7, 8, 9, 10, 11, 12, 13, 14, 15, 16, 17, 18, 0] rfl)
end LB
