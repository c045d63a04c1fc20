/-! The law: the accounts and the fractions (1080 to 1249). -/
theorem jl_9 : Cond.constantDouble RL 166 4645040803167600640 ∈ wsL_law := by decide +kernel
section LB
variable {p : Program} {l : Launch} {e : Env} {s : State} {m : MethodId} {below : List Frame} {meth : Method} {c : Code} {Q : State → Prop}
variable {dC : Nat → ClassId} {dI : Nat → Nat → Nat} {cy : Nat → ClassId} {tb : Nat × Nat} {aK aV : Nat → Nat} {b bL : Nat} {xs : Nat → Int32}
variable {adX adT : Nat → Nat} {σ : St} {zX zT : Nat} {G : Heap → Prop} {d : HD} {turn nc ns : Nat}
theorem LF.dr (F : LF p s m c dC dI cy tb adX aK aV zX b bL xs) (d1 : Drawn) : LF p (s.setDrawn d1) m c dC dI cy tb adX aK aV zX b bL xs := ⟨⟨F.S.1, F.S.2.1, F.S.2.2.1, F.S.2.2.2.1, dr_words F.S.2.2.2.2 d1⟩, F.X, F.bl, F.K, F.J, F.B, F.E, F.C, F.zz⟩
set_option maxHeartbeats 16000000 in
set_option maxRecDepth 100000 in
theorem law_p6 (F : LF p s m c dC dI cy tb adX aK aV zX b bL xs) (T : LT 8 adT zX zT) {aL : Nat} {qs vs : Nat → Nat} {τ : St} (hnc : nc ≤ 700000) (hns : ns ≤ 6900000) (kk : ∀ (d2 : Drawn) (σ : St), s.drawn.sameBut d2 lw_cs → CI σ d → ∀ (H : Heap) (locs : List Loc), LWd (s.setDrawn d2) dC dI cy adX 8 adT zT (fun _ => True) σ τ H locs → ∀ ls : Array Slot, lv_has ls 31 [(0, .ref b), (1, .ref (adX 0)), (2, .int (nI turn)), (3, .int (nI (dP d))), (4, .int (nI (dB d))), (5, .int (nI (opS d (dP d)))), (6, .int (nI (offD d (dP d)))), (7, .int (nI (sumTo (dto d) (dB d)))), (8, .int (nI (lyD d (dB d)))), (9, .int (nI (rmS d (dP d)))), (10, .int (nI (htS d (dP d)))), (11, .int (nI (dT d))), (12, .ref (adT 0)), (13, .ref (adT 1)), (14, .ref (adT 2)), (15, .ref (adT 3)), (16, .ref (adT 4)), (17, .ref (adT 5)), (18, .ref (adT 6)), (19, .ref (adT 7)), (20, .ref aL)] → W p l e room_1 (s.setDrawn d2) m #[Value.ref b] below meth c H locs nc ns Q (F0 m 1249 ls [])) : (∀ i, i < 360 → τ 0 i = oA d i) → (∀ i, i < 8 → τ 1 i = nI (stD d i)) → (∀ i, i < 8 → τ 2 i = nI (hcD d (dB d) i)) → (∀ i, i < 8 → τ 3 i = nI (htD d (dB d) i)) → (∀ i, i < 8 → τ 4 i = nI (lcD d (dB d) i)) → (∀ i, i < 8 → τ 5 i = nI (tkD d (dB d) i)) → (∀ i, i < 3 → τ 6 i = nI (hwD d (dB d) i)) → ∀ (σ : St), CI σ d → ∀ (H : Heap) (locs : List Loc), LWd s dC dI cy adX 8 adT zT (GL dC dI cy s zT aL (dP d) qs vs (lnAt d (dB d))) σ (τ) H locs → ∀ ls : Array Slot, lv_has ls 31 [(0, .ref b), (1, .ref (adX 0)), (2, .int (nI turn)), (3, .int (nI (dP d))), (4, .int (nI (dB d))), (5, .int (nI (opS d (dP d)))), (6, .int (nI (offD d (dP d)))), (7, .int (nI (sumTo (dto d) (dB d)))), (8, .int (nI (lyD d (dB d)))), (9, .int (nI (rmS d (dP d)))), (10, .int (nI (htS d (dP d)))), (11, .int (nI (dT d))), (12, .ref (adT 0)), (13, .ref (adT 1)), (14, .ref (adT 2)), (15, .ref (adT 3)), (16, .ref (adT 4)), (17, .ref (adT 5)), (18, .ref (adT 6)), (19, .ref (adT 7)), (20, .ref aL)] → W p l e room_1 s m #[Value.ref b] below meth c H locs nc ns Q (F0 m 1080 ls []) := by
  intro tf0 tf1 tf2 tf3 tf4 tf5 tf6 σ hI H locs hw ls hl
  have hC := hI.1
  have hw := LWd.gmap (G2 := fun _ => True) hw (fun _ _ => trivial)
  have kg := KG.T zT
  have hx := F.S.1
  have hb := F.S.2.1
  have h8 := hC.1.1
  have h24 := hC.1.2.1
  have h200 := hC.1.2.2.1
  have cL : ∀ {x : Nat}, x ≤ 723972 → x ≤ room_1.cells := fun h => h
  have sL : ∀ {x : Nat}, x ≤ 6930331 → x ≤ room_1.slots := fun h => h
  obtain ⟨σ1, cb1, cb2⟩ := cq_bal hC
  have hI1 : CI σ1 d := hI.scratch cb2
  have hC1 := hI1.1
  have hal : alD d = lyD d (dB d) := al_ly d (dB d)
  have hop : opD d ≤ dP d := Nat.le_trans (sumTo_le (f := fun x => if dop d x = true then 1 else 0) (c := 1) (dP d) (fun j hj => by show (if _ then 1 else 0) ≤ 1; split <;> omega)) (by omega)
  have har : arD d ≤ 8000 := Nat.le_trans (sumTo_le (f := roomD d) (c := 1000) (dP d) (fun j hj => roomD_le hC.1 hj)) (by omega)
  have hly : lyD d (dB d) ≤ 2376 := Nat.le_trans (sumTo_le (f := fun j => if lieD d j = none then 0 else dto d j) (c := 99) (dB d) (fun j hj => by have := (hC.1.2.2.2.2 j hj).2.2; show (if _ then _ else _) ≤ 99; split <;> omega)) (by omega)
  refine lv_aload_n hx hb dL_law_1080 rfl (lv_at hl 1 rfl) ?_
  refine lv_iconst (v := 1) hx hb dL_law_1081 (by decide) ?_
  refine lx_i (As := [.int 1]) (rest := []) F T kg (mX6_account l dC dI adX cy F.J σ 1 _ (cq_a1 hC)) (cwV 1 F.S.2.2.2.2 gL_law_X6_account rfl rfl rfl dmX6_account ⟨Nat.le_of_ble_eq_true rfl, Nat.le_of_ble_eq_true rfl⟩) hw rfl rfl hl.1 (Nat.le_of_ble_eq_true rfl) ⟨cL (by omega), sL (by omega)⟩ dL_law_1082 (fun H locs hw => ?_)
  refine lv_iload hx hb dL_law_1085 (lv_at hl 5 rfl) ?_
  refine lv_icmp_ne (tgt := 1247) hx hb dL_law_1087 (by decide) (fun q9 => absurd (rfl) q9) (fun _ => ?_)
  refine lv_aload_n hx hb dL_law_1090 rfl (lv_at hl 1 rfl) ?_
  refine lv_iconst (v := 2) hx hb dL_law_1091 (by decide) ?_
  refine lx_i (As := [.int 2]) (rest := []) F T kg (mX6_account l dC dI adX cy F.J σ 2 _ (cq_a2 hC)) (cwV 1 F.S.2.2.2.2 gL_law_X6_account rfl rfl rfl dmX6_account ⟨Nat.le_of_ble_eq_true rfl, Nat.le_of_ble_eq_true rfl⟩) hw rfl rfl hl.1 (Nat.le_of_ble_eq_true rfl) ⟨cL (by omega), sL (by omega)⟩ dL_law_1092 (fun H locs hw => ?_)
  refine lv_iload hx hb dL_law_1095 (lv_at hl 6 rfl) ?_
  refine lv_icmp_ne (tgt := 1247) hx hb dL_law_1097 (by decide) (fun q9 => absurd (rfl) q9) (fun _ => ?_)
  refine lv_aload_n hx hb dL_law_1100 rfl (lv_at hl 1 rfl) ?_
  refine lv_iconst (v := 4) hx hb dL_law_1101 (by decide) ?_
  refine lx_i (As := [.int 4]) (rest := []) F T kg (mX6_account l dC dI adX cy F.J σ 4 _ (cq_a4 hC)) (cwV 1 F.S.2.2.2.2 gL_law_X6_account rfl rfl rfl dmX6_account ⟨Nat.le_of_ble_eq_true rfl, Nat.le_of_ble_eq_true rfl⟩) hw rfl rfl hl.1 (Nat.le_of_ble_eq_true rfl) ⟨cL (by omega), sL (by omega)⟩ dL_law_1102 (fun H locs hw => ?_)
  refine lv_aload hx hb dL_law_1105 (lv_at hl 18 rfl) ?_
  refine lv_iconst (v := nI 0) hx hb dL_law_1107 (by decide) ?_
  refine lx_ald F T hw 6 (by decide) (i := 0) (v := nI (hwD d (dB d) 0)) (by show 0 < 3; omega) (by omega) (tf6 0 (by omega)) dL_law_1108 ?_
  refine lv_icmp_ne (tgt := 1247) hx hb dL_law_1109 (by decide) (fun q9 => absurd (rfl) q9) (fun _ => ?_)
  refine lv_aload_n hx hb dL_law_1112 rfl (lv_at hl 1 rfl) ?_
  refine lv_iconst (v := 5) hx hb dL_law_1113 (by decide) ?_
  refine lx_i (As := [.int 5]) (rest := []) F T kg (mX6_account l dC dI adX cy F.J σ 5 _ (cq_a5 hC)) (cwV 1 F.S.2.2.2.2 gL_law_X6_account rfl rfl rfl dmX6_account ⟨Nat.le_of_ble_eq_true rfl, Nat.le_of_ble_eq_true rfl⟩) hw rfl rfl hl.1 (Nat.le_of_ble_eq_true rfl) ⟨cL (by omega), sL (by omega)⟩ dL_law_1114 (fun H locs hw => ?_)
  refine lv_aload hx hb dL_law_1117 (lv_at hl 18 rfl) ?_
  refine lv_iconst (v := nI 1) hx hb dL_law_1119 (by decide) ?_
  refine lx_ald F T hw 6 (by decide) (i := 1) (v := nI (hwD d (dB d) 1)) (by show 1 < 3; omega) (by omega) (tf6 1 (by omega)) dL_law_1120 ?_
  refine lv_icmp_ne (tgt := 1247) hx hb dL_law_1121 (by decide) (fun q9 => absurd (rfl) q9) (fun _ => ?_)
  refine lv_aload_n hx hb dL_law_1124 rfl (lv_at hl 1 rfl) ?_
  refine lv_bipush (v := 6) hx hb dL_law_1125 (by decide) ?_
  refine lx_i (As := [.int 6]) (rest := []) F T kg (mX6_account l dC dI adX cy F.J σ 6 _ (cq_a6 hC)) (cwV 1 F.S.2.2.2.2 gL_law_X6_account rfl rfl rfl dmX6_account ⟨Nat.le_of_ble_eq_true rfl, Nat.le_of_ble_eq_true rfl⟩) hw rfl rfl hl.1 (Nat.le_of_ble_eq_true rfl) ⟨cL (by omega), sL (by omega)⟩ dL_law_1127 (fun H locs hw => ?_)
  refine lv_aload hx hb dL_law_1130 (lv_at hl 18 rfl) ?_
  refine lv_iconst (v := nI 2) hx hb dL_law_1132 (by decide) ?_
  refine lx_ald F T hw 6 (by decide) (i := 2) (v := nI (hwD d (dB d) 2)) (by show 2 < 3; omega) (by omega) (tf6 2 (by omega)) dL_law_1133 ?_
  refine lv_icmp_ne (tgt := 1247) hx hb dL_law_1134 (by decide) (fun q9 => absurd (rfl) q9) (fun _ => ?_)
  refine lv_aload_n hx hb dL_law_1137 rfl (lv_at hl 1 rfl) ?_
  refine lv_bipush (v := 7) hx hb dL_law_1138 (by decide) ?_
  refine lx_i (As := [.int 7]) (rest := []) F T kg (mX6_account l dC dI adX cy F.J σ 7 _ (cq_a7 hC)) (cwV 1 F.S.2.2.2.2 gL_law_X6_account rfl rfl rfl dmX6_account ⟨Nat.le_of_ble_eq_true rfl, Nat.le_of_ble_eq_true rfl⟩) hw rfl rfl hl.1 (Nat.le_of_ble_eq_true rfl) ⟨cL (by omega), sL (by omega)⟩ dL_law_1140 (fun H locs hw => ?_)
  refine lv_iload hx hb dL_law_1143 (lv_at hl 7 rfl) ?_
  refine lv_icmp_ne (tgt := 1247) hx hb dL_law_1145 (by decide) (fun q9 => absurd (rfl) q9) (fun _ => ?_)
  refine lv_aload_n hx hb dL_law_1148 rfl (lv_at hl 1 rfl) ?_
  refine lv_bipush (v := 8) hx hb dL_law_1149 (by decide) ?_
  refine lx_i (As := [.int 8]) (rest := []) F T kg (mX6_account l dC dI adX cy F.J σ 8 _ (cq_a8 hC)) (cwV 1 F.S.2.2.2.2 gL_law_X6_account rfl rfl rfl dmX6_account ⟨Nat.le_of_ble_eq_true rfl, Nat.le_of_ble_eq_true rfl⟩) hw rfl rfl hl.1 (Nat.le_of_ble_eq_true rfl) ⟨cL (by omega), sL (by omega)⟩ dL_law_1151 (fun H locs hw => ?_)
  refine lv_iload hx hb dL_law_1154 (lv_at hl 8 rfl) ?_
  refine lv_icmp_ne (tgt := 1247) hx hb dL_law_1156 (by decide) (fun q9 => absurd (congrArg nI hal) q9) (fun _ => ?_)
  refine lv_aload_n hx hb dL_law_1159 rfl (lv_at hl 1 rfl) ?_
  refine lv_bipush (v := 9) hx hb dL_law_1160 (by decide) ?_
  refine lx_i (As := [.int 9]) (rest := []) F T kg (mX6_account l dC dI adX cy F.J σ 9 _ (cq_a9 hC)) (cwV 1 F.S.2.2.2.2 gL_law_X6_account rfl rfl rfl dmX6_account ⟨Nat.le_of_ble_eq_true rfl, Nat.le_of_ble_eq_true rfl⟩) hw rfl rfl hl.1 (Nat.le_of_ble_eq_true rfl) ⟨cL (by omega), sL (by omega)⟩ dL_law_1162 (fun H locs hw => ?_)
  refine lv_iload hx hb dL_law_1165 (lv_at hl 9 rfl) ?_
  refine lv_icmp_ne (tgt := 1247) hx hb dL_law_1167 (by decide) (fun q9 => absurd (rfl) q9) (fun _ => ?_)
  refine lv_aload_n hx hb dL_law_1170 rfl (lv_at hl 1 rfl) ?_
  refine lv_bipush (v := 12) hx hb dL_law_1171 (by decide) ?_
  refine lx_i (As := [.int 12]) (rest := []) F T kg (mX6_account l dC dI adX cy F.J σ 12 _ (cq_a12 hC)) (cwV 1 F.S.2.2.2.2 gL_law_X6_account rfl rfl rfl dmX6_account ⟨Nat.le_of_ble_eq_true rfl, Nat.le_of_ble_eq_true rfl⟩) hw rfl rfl hl.1 (Nat.le_of_ble_eq_true rfl) ⟨cL (by omega), sL (by omega)⟩ dL_law_1173 (fun H locs hw => ?_)
  refine lv_iload hx hb dL_law_1176 (lv_at hl 10 rfl) ?_
  refine lv_icmp_ne (tgt := 1247) hx hb dL_law_1178 (by decide) (fun q9 => absurd (rfl) q9) (fun _ => ?_)
  refine lv_aload_n hx hb dL_law_1181 rfl (lv_at hl 1 rfl) ?_
  refine lx_i (As := []) (rest := []) F T kg (mX6_isBalanced l dC dI adX cy F.J σ _ (cb1)) (cwV 0 F.S.2.2.2.2 gL_law_X6_isBalanced rfl rfl rfl dmX6_isBalanced ⟨Nat.le_of_ble_eq_true rfl, Nat.le_of_ble_eq_true rfl⟩) hw rfl rfl hl.1 (Nat.le_of_ble_eq_true rfl) ⟨cL (by omega), sL (by omega)⟩ dL_law_1182 (fun H locs hw => ?_)
  refine lv_iconst (v := 1) hx hb dL_law_1185 (by decide) ?_
  refine lv_icmp_ne (tgt := 1247) hx hb dL_law_1186 (by decide) (fun q9 => absurd (rfl) q9) (fun _ => ?_)
  refine lv_aload_n hx hb dL_law_1189 rfl (lv_at hl 1 rfl) ?_
  have F0_ := F.dr s.drawn
  show W p l e room_1 (s.setDrawn s.drawn) m #[Value.ref b] below meth c _ _ nc ns Q (F0 m 1190 _ (.ref (adX 0) :: []))
  refine xw_dd (As := []) (rest := []) (Drawn.sameBut.refl s.drawn lw_cs) F0_.S F.B (mX6_meanStretch l dC dI adX cy F.J σ1 _ (cq_mean hC1)) (cwV 0 F0_.S.2.2.2.2 gL_law_X6_meanStretch rfl rfl rfl dmX6_meanStretch ⟨Nat.le_of_ble_eq_true rfl, Nat.le_of_ble_eq_true rfl⟩) F0_.K hw.X hw.S rfl rfl hl.1 (Nat.le_of_ble_eq_true rfl) ⟨cL (by omega), sL (by omega)⟩ dL_law_1190 (fun v d1 hd1 hv H1 locs1 hP hS hz hk => ?_)
  have hw1 := hw.moved T kg hP hz hk hS
  have F1 := F.dr d1
  clear hP hS hz hk
  have K2 : ∀ ls : Array Slot, lv_has ls 31 [(0, .ref b), (1, .ref (adX 0)), (2, .int (nI turn)), (3, .int (nI (dP d))), (4, .int (nI (dB d))), (5, .int (nI (opS d (dP d)))), (6, .int (nI (offD d (dP d)))), (7, .int (nI (sumTo (dto d) (dB d)))), (8, .int (nI (lyD d (dB d)))), (9, .int (nI (rmS d (dP d)))), (10, .int (nI (htS d (dP d)))), (11, .int (nI (dT d))), (12, .ref (adT 0)), (13, .ref (adT 1)), (14, .ref (adT 2)), (15, .ref (adT 3)), (16, .ref (adT 4)), (17, .ref (adT 5)), (18, .ref (adT 6)), (19, .ref (adT 7)), (20, .ref aL)] → W p l e room_1 (s.setDrawn d1) m #[Value.ref b] below meth c H1 locs1 nc ns Q (F0 m 1213 ls []) := by
    intro ls hl
    obtain ⟨z, z0, z1, z2⟩ := cq_share hC1
    refine lv_aload_n hx hb dL_law_1213 rfl (lv_at hl 1 rfl) ?_
    refine xw_ff (As := []) (rest := []) hd1 F1.S F.B (mX6_takenShare l dC dI adX cy F.J σ1 z z0) (cwV 0 F1.S.2.2.2.2 gL_law_X6_takenShare rfl rfl rfl dmX6_takenShare ⟨Nat.le_of_ble_eq_true rfl, Nat.le_of_ble_eq_true rfl⟩) F1.K hw1.X hw1.S rfl rfl hl.1 (Nat.le_of_ble_eq_true rfl) ⟨cL (by omega), sL (by omega)⟩ dL_law_1214 (fun v2 d2 hd2 hv2 H locs hP hS hz hk => ?_)
    have hw2 : LWd (s.setDrawn d2) dC dI cy adX 8 adT zT (fun _ => True) σ1 τ H locs := hw1.moved T kg hP hz hk hS
    have F2 := F.dr d2
    clear hP hS hz hk
    have K3 : ∀ ls : Array Slot, lv_has ls 31 [(0, .ref b), (1, .ref (adX 0)), (2, .int (nI turn)), (3, .int (nI (dP d))), (4, .int (nI (dB d))), (5, .int (nI (opS d (dP d)))), (6, .int (nI (offD d (dP d)))), (7, .int (nI (sumTo (dto d) (dB d)))), (8, .int (nI (lyD d (dB d)))), (9, .int (nI (rmS d (dP d)))), (10, .int (nI (htS d (dP d)))), (11, .int (nI (dT d))), (12, .ref (adT 0)), (13, .ref (adT 1)), (14, .ref (adT 2)), (15, .ref (adT 3)), (16, .ref (adT 4)), (17, .ref (adT 5)), (18, .ref (adT 6)), (19, .ref (adT 7)), (20, .ref aL)] → W p l e room_1 (s.setDrawn d2) m #[Value.ref b] below meth c H locs nc ns Q (F0 m 1237 ls []) := by
      intro ls hl
      have F := F2
      have hw := hw2
      refine lv_aload_n hx hb dL_law_1237 rfl (lv_at hl 1 rfl) ?_
      refine lv_iload_n hx hb dL_law_1238 rfl (lv_at hl 3 rfl) ?_
      refine lx_i (As := [.int (nI (dP d))]) (rest := []) F T kg (mX6_hottest l dC dI adX cy F.J σ1 (nI (dP d)) _ (cq_hottest hC1 _)) (cwV 1 F.S.2.2.2.2 gL_law_X6_hottest rfl rfl rfl dmX6_hottest ⟨Nat.le_of_ble_eq_true rfl, Nat.le_of_ble_eq_true rfl⟩) hw rfl rfl hl.1 (Nat.le_of_ble_eq_true rfl) ⟨cL (by omega), sL (by omega)⟩ dL_law_1239 (fun H locs hw => ?_)
      refine lv_bipush (v := mI 11) hx hb dL_law_1242 (by decide) ?_
      refine lv_icmp_eq (tgt := 1249) hx hb dL_law_1244 (by decide) (fun _ => ?_) (fun q9 => absurd (hot_none hC.1) q9)
      exact kk d2 σ1 hd2 hI1 H locs hw ls (lv_sub hl [0, 1, 2, 3, 4, 5, 6, 7, 8, 9, 10, 11, 12, 13, 14, 15, 16, 17, 18, 19, 20] rfl)
    by_cases h0 : arD d = 0
    · have ev : v2 = 0 := hv2.1 (by rw [z1, h0]; rfl)
      refine lv_iload hx hb dL_law_1217 (lv_at hl 9 rfl) ?_
      refine lv_if_ne (tgt := 1226) hx hb dL_law_1219 (by decide) (fun q9 => absurd (by show nI (arD d) = 0; rw [h0]; rfl) q9) (fun _ => ?_)
      refine lv_fconst0 hx hb dL_law_1222 ?_
      refine lv_goto (tgt := 1233) hx hb dL_law_1223 (by decide) ?_
      refine lv_fcmp hx hb dL_law_1233 ?_
      rw [ev, show FP.fconst0 = (0 : UInt32) from rfl, fp_fself (by decide)]
      refine lv_if_ne (tgt := 1247) hx hb dL_law_1234 (by decide) (fun q9 => absurd rfl q9) (fun _ => ?_)
      exact K3 ls hl
    · have hne : ¬ nI (arD d) = 0 := nI_ne0 (by omega) (by omega)
      have hnn := fp_share (a := lyD d (dB d)) (r := arD d) (by omega) (by omega) (by omega)
      have ev : v2 = FP.fdiv (FP.i2f (nI (lyD d (dB d)))) (FP.i2f (nI (arD d))) := by
        refine alike32_eq ?_ hnn
        have h9 := hv2.2 (by rw [z1]; exact hne)
        rw [z1, z2 hne, hal] at h9
        exact h9
      refine lv_iload hx hb dL_law_1217 (lv_at hl 9 rfl) ?_
      refine lv_if_ne (tgt := 1226) hx hb dL_law_1219 (by decide) (fun _ => ?_) (fun q9 => absurd q9 hne)
      refine lv_iload hx hb dL_law_1226 (lv_at hl 8 rfl) ?_
      refine lv_i2f hx hb dL_law_1228 ?_
      refine lv_iload hx hb dL_law_1229 (lv_at hl 9 rfl) ?_
      refine lv_i2f hx hb dL_law_1231 ?_
      refine lv_fdiv hx hb dL_law_1232 (by
        have h9 := hnn
        unfold isNaN32 at h9
        unfold vf_n32
        have h10 := of_decide_eq_false h9
        exact UInt32.not_lt.mp h10) ?_
      refine lv_fcmp hx hb dL_law_1233 ?_
      rw [ev]
      show W p l e room_1 (s.setDrawn d2) m #[Value.ref b] below meth c H locs nc ns Q (F0 m 1234 ls [.int (Op.cmpValue (FP.fcmp (FP.fdiv (FP.i2f (nI (lyD d (dB d)))) (FP.i2f (nI (arD d)))) (FP.fdiv (FP.i2f (nI (lyD d (dB d)))) (FP.i2f (nI (arD d))))) _)])
      rw [fp_fself hnn]
      refine lv_if_ne (tgt := 1247) hx hb dL_law_1234 (by decide) (fun q9 => absurd rfl q9) (fun _ => ?_)
      exact K3 ls hl
  by_cases h0 : opD d = 0
  · have ev : v = 0 := hv.1 (by show nI (opD d) = 0; rw [h0]; rfl)
    refine lv_iload hx hb dL_law_1193 (lv_at hl 5 rfl) ?_
    refine lv_if_ne (tgt := 1202) hx hb dL_law_1195 (by decide) (fun q9 => absurd (by show nI (opD d) = 0; rw [h0]; rfl) q9) (fun _ => ?_)
    refine lv_dconst0 hx hb dL_law_1198 ?_
    refine lv_goto (tgt := 1209) hx hb dL_law_1199 (by decide) ?_
    refine lv_dcmp hx hb dL_law_1209 ?_
    rw [ev, show FP.dconst0 = (0 : UInt64) from rfl, fp_dself (by decide)]
    refine lv_if_ne (tgt := 1247) hx hb dL_law_1210 (by decide) (fun q9 => absurd rfl q9) (fun _ => ?_)
    exact K2 ls (lv_sub hl [0, 1, 2, 3, 4, 5, 6, 7, 8, 9, 10, 11, 12, 13, 14, 15, 16, 17, 18, 19, 20] rfl)
  · have hne : ¬ nI (opD d) = 0 := nI_ne0 (by omega) (by omega)
    have hnn := fp_mean (opD d) (by omega) (by omega)
    have ev : v = FP.ddiv 4645040803167600640 (FP.i2d (nI (opD d))) := alike64_eq (hv.2 hne) hnn
    refine lv_iload hx hb dL_law_1193 (lv_at hl 5 rfl) ?_
    refine lv_if_ne (tgt := 1202) hx hb dL_law_1195 (by decide) (fun _ => ?_) (fun q9 => absurd q9 hne)
    refine lv_ldc2d (v := 4645040803167600640) hx hb F1.S.2.2.2.1 (F1.S.2.2.2.2 _ jl_9) dL_law_1202 ?_
    refine lv_iload hx hb dL_law_1205 (lv_at hl 5 rfl) ?_
    refine lv_i2d hx hb dL_law_1207 ?_
    refine lv_ddiv hx hb dL_law_1208 (by
      have h9 := hnn
      unfold isNaN64 at h9
      unfold vf_n64
      have h10 := of_decide_eq_false h9
      exact UInt64.not_lt.mp h10) ?_
    refine lv_dcmp hx hb dL_law_1209 ?_
    rw [ev]
    show W p l e room_1 (s.setDrawn d1) m #[Value.ref b] below meth c H1 locs1 nc ns Q (F0 m 1210 ls [.int (Op.cmpValue (FP.dcmp (FP.ddiv 4645040803167600640 (FP.i2d (nI (opD d)))) (FP.ddiv 4645040803167600640 (FP.i2d (nI (opD d))))) _)])
    rw [fp_dself hnn]
    refine lv_if_ne (tgt := 1247) hx hb dL_law_1210 (by decide) (fun q9 => absurd rfl q9) (fun _ => ?_)
    exact K2 ls (lv_sub hl [0, 1, 2, 3, 4, 5, 6, 7, 8, 9, 10, 11, 12, 13, 14, 15, 16, 17, 18, 19, 20] rfl)
end LB
