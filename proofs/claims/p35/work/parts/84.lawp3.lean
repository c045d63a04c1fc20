/-! The law: the heads of the lines (180 to 253). -/
section LB
variable {p : Program} {l : Launch} {e : Env} {s : State} {m : MethodId} {below : List Frame} {meth : Method} {c : Code} {Q : State → Prop}
variable {dC : Nat → ClassId} {dI : Nat → Nat → Nat} {cy : Nat → ClassId} {tb : Nat × Nat} {aK aV : Nat → Nat} {b bL : Nat} {xs : Nat → Int32}
variable {adX adT : Nat → Nat} {σ : St} {zX zT : Nat} {G : Heap → Prop} {d : HD} {turn nc ns : Nat}
theorem GB.lt {zT0 B V mb : Nat} {a : Nat → Int32} {t : List Nat} {H H1 : Heap} (h : GB dC dI cy zT0 H B V mb a t H1) : B < H1.size ∧ V < H1.size := ⟨(h.2.2.2.2.2 0 _ rfl).lt, (h.2.2.2.2.2 1 _ rfl).lt⟩
theorem lb_made2 {τ : St} {H Hs : Heap} {locs : List Loc} {ls : Array Slot} {rest : List Value} {pc index B V mb cells slots : Nat} {a : Nat → Int32} {t : List Nat} {R : Room} {q v z hi : Nat} {w : List Nat} (F : LF p s m c dC dI cy tb adX aK aV zX b bL xs) (T : LT 8 adT zX zT) (hzs : zT ≤ Hs.size) (hw : LWd s dC dI cy adX 8 adT zT (GB dC dI cy zT Hs B V mb a t) σ τ H locs) (hA : StA q v w z hi s H) (hBV : B < z ∧ V < z) (ht9 : t.length + w.length ≤ 100) (cw : CallW R s #[Value.ref b] RL RJ4 index yJ4_append_15ec4 cJ4_append_15ec4 2 (some (.object "java/lang/StringBuilder")) wsJ4_append_15ec4 rmJ4_append_15ec4 1 200 1)
    (hsize : ls.size = 31) (hW : (rest.map fun v => v.category).sum ≤ 8) (hf : cells + 1 ≤ R.cells ∧ slots + 200 ≤ R.slots) (hdg : decode cL_law pc = .ok (.invokevirtual index, 3))
    (kk : ∀ (V1 m1 : Nat) (a1 : Nat → Int32) (H1 : Heap) (locs1 : List Loc), LWd s dC dI cy adX 8 adT zT (GB dC dI cy zT Hs B V1 m1 a1 (t ++ w)) σ τ H1 locs1 → W p l e R s m #[Value.ref b] below meth c H1 locs1 (cells + 1) (slots + 200) Q (F0 m (pc + 3) ls (.ref B :: rest))) : W p l e R s m #[Value.ref b] below meth c H locs cells slots Q (F0 m pc ls (.ref q :: .ref B :: rest)) := by
  obtain ⟨⟨g1, g2⟩, g3⟩ := hw.g
  have hlo := Nat.le_trans F.zz (Nat.le_trans T.zz hzs)
  have hlt := hA.2.2.1.lt
  have hna : ∀ x, z ≤ x → x < H.size → ¬ va_A (SB cy B V mb a t.length) H.size x := by
    intro x x1 x2 h
    rcases h with ⟨k, e0, h⟩ | h
    · match k, h with
      | 0, h => cases h; omega
      | 1, h => cases h; omega
      | k + 2, h => simp [SB] at h
    · omega
  refine xb_str F.S g3 g1 hlo ht9 (fun i _ => rfl) hA.2.2.2 (fun U hU hW => by rw [hU]; exact (hA.2.2.1.moved hW.alike).of (hna q hA.1.1 hlt.1) (hna v hA.2.1.1 hlt.2)) cw F.K F.E hw.S hsize hW hf hdg (fun V1 m1 a1 H1 locs1 hB hS hz hk => kk V1 m1 a1 H1 locs1 ?_)
  exact hw.above F T hzs hz (fun q h _ => hk q h) hS ⟨⟨Nat.le_trans g1 hz, fun q q1 q2 => (hk q q2).trans (g2 q q1 q2)⟩, hB⟩
set_option maxHeartbeats 8000000 in
theorem law_p3 (F : LF p s m c dC dI cy tb adX aK aV zX b bL xs) (T : LT 8 adT zX zT) (hC : CX σ d) {τ : St} {aL : Nat} (hnc : nc ≤ 700000) (hns : ns ≤ 6900000) (kk : ∀ (qs vs : Nat → Nat) (H : Heap) (locs : List Loc), LWd s dC dI cy adX 8 adT zT (GL dC dI cy s zT aL (dP d) qs vs (hdD d)) σ (τ) H locs → ∀ ls : Array Slot, lv_has ls 31 [(0, .ref b), (1, .ref (adX 0)), (2, .int (nI turn)), (3, .int (nI (dP d))), (4, .int (nI (dB d))), (5, .int 0), (6, .int 0), (7, .int 0), (8, .int 0), (9, .int 0), (10, .int 0), (11, .int (nI (dT d))), (12, .ref (adT 0)), (13, .ref (adT 1)), (14, .ref (adT 2)), (15, .ref (adT 3)), (16, .ref (adT 4)), (17, .ref (adT 5)), (18, .ref (adT 6)), (19, .ref (adT 7)), (20, .ref aL)] → W p l e room_1 s m #[Value.ref b] below meth c H locs (nc + 80) (ns + 10400) Q (F0 m 253 ls [])) : ∀ n p1, p1 + n = dP d → ∀ (qs vs : Nat → Nat) (H : Heap) (locs : List Loc), LWd s dC dI cy adX 8 adT zT (GL dC dI cy s zT aL p1 qs vs (hdD d)) σ (τ) H locs → ∀ ls : Array Slot, lv_has ls 31 [(0, .ref b), (1, .ref (adX 0)), (2, .int (nI turn)), (3, .int (nI (dP d))), (4, .int (nI (dB d))), (5, .int 0), (6, .int 0), (7, .int 0), (8, .int 0), (9, .int 0), (10, .int 0), (11, .int (nI (dT d))), (12, .ref (adT 0)), (13, .ref (adT 1)), (14, .ref (adT 2)), (15, .ref (adT 3)), (16, .ref (adT 4)), (17, .ref (adT 5)), (18, .ref (adT 6)), (19, .ref (adT 7)), (20, .ref aL), (21, .int (nI p1))] → W p l e room_1 s m #[Value.ref b] below meth c H locs (nc + 10 * p1) (ns + 1300 * p1) Q (F0 m 180 ls []) := by
  have hx := F.S.1
  have hb := F.S.2.1
  have h8 := hC.1.1
  have h24 := hC.1.2.1
  have h200 := hC.1.2.2.1
  have cL : ∀ {x : Nat}, x ≤ 723972 → x ≤ room_1.cells := fun h => h
  have sL : ∀ {x : Nat}, x ≤ 6930331 → x ≤ room_1.slots := fun h => h
  intro n
  induction n with
  | zero =>
    intro p1 hk qs vs H locs hw ls hl
    obtain rfl : p1 = dP d := by omega
    refine lx_mono (k := nc + 80) (n' := ns + 10400) (by omega) (by omega) ?_
    refine lv_iload hx hb dL_law_180 (lv_at hl 21 rfl) ?_
    refine lv_iload_n hx hb dL_law_182 rfl (lv_at hl 3 rfl) ?_
    refine lv_icmp_ge (tgt := 253) hx hb dL_law_183 (by decide) (fun _ => ?_) (fun q9 => absurd (nI_le (by omega) (by omega)) q9)
    exact kk qs vs H locs hw ls (lv_sub hl [0, 1, 2, 3, 4, 5, 6, 7, 8, 9, 10, 11, 12, 13, 14, 15, 16, 17, 18, 19, 20] rfl)
  | succ n ih =>
    intro p1 hk qs vs H locs hw ls hl
    have hp : p1 < dP d := by omega
    have hbe := hC.1.2.2.2.1 p1 hp
    have kg := KG.L (dC, dI) cy aL p1 qs vs (hdD d) zT s
    refine lv_iload hx hb dL_law_180 (lv_at hl 21 rfl) ?_
    refine lv_iload_n hx hb dL_law_182 rfl (lv_at hl 3 rfl) ?_
    refine lv_icmp_ge (tgt := 253) hx hb dL_law_183 (by decide) (fun q9 => absurd q9 (nI_ge (by omega) (by omega))) (fun _ => ?_)
    refine lv_aload hx hb dL_law_186 (lv_at hl 20 rfl) ?_
    refine lv_iload hx hb dL_law_188 (lv_at hl 21 rfl) ?_
    have hzs1 := hw.z
    refine lb_new F T jl_J4 gL_law_J4_init_da8c8 (F.S.2.2.2.2 _ jl_1) (F.S.2.2.2.2 _ jl_2) (F.S.2.2.2.2 _ jl_3) (F.S.2.2.2.2 _ jl_4) (F.S.2.2.2.2 _ jl_5) hw hl.1 (Nat.le_of_ble_eq_true rfl) ⟨Nat.le_of_ble_eq_true rfl, Nat.le_of_ble_eq_true rfl⟩ ⟨cL (by omega), sL (by omega)⟩ dL_law_190 dL_law_193 dL_law_194 (fun B1 V1 H1 locs1 hw1 => ?_)
    have ht1 : ([] : List Nat).length ≤ 0 := Nat.le_refl _
    have kgB1 : ∀ V mb a t, KG zT (GB dC dI cy zT H B1 V mb a t) := fun _ _ _ _ => KG.B hzs1
    refine lv_iload hx hb dL_law_197 (lv_at hl 21 rfl) ?_
    refine lb_int (v := p1) F T hzs1 hw1 (Nat.le_trans ht1 (by omega)) (by omega) (cwV 1 F.S.2.2.2.2 gL_law_J4_append_bf812 rfl rfl rfl dmJ4_append_bf812 ⟨Nat.le_of_ble_eq_true rfl, Nat.le_of_ble_eq_true rfl⟩) hl.1 (Nat.le_of_ble_eq_true rfl) ⟨cL (by omega), sL (by omega)⟩ dL_law_199 (fun V1 m1 a1 H1 locs1 hw1 => ?_)
    have ht1 := tl_int ht1 p1
    refine lk_ldc 0 (by decide) F dL_law_202 ?_
    refine lb_const 0 (by decide) F T hzs1 hw1 (Nat.le_trans ht1 (by omega)) (cwV 1 F.S.2.2.2.2 gL_law_J4_append_15ec4 rfl rfl rfl dmJ4_append_15ec4 ⟨Nat.le_of_ble_eq_true rfl, Nat.le_of_ble_eq_true rfl⟩) hl.1 (Nat.le_of_ble_eq_true rfl) ⟨cL (by omega), sL (by omega)⟩ dL_law_204 (fun V1 m1 a1 H1 locs1 hw1 => ?_)
    have ht1 := tl_const ht1 0 (by decide)
    refine lv_aload_n hx hb dL_law_207 rfl (lv_at hl 1 rfl) ?_
    refine lv_iload hx hb dL_law_208 (lv_at hl 21 rfl) ?_
    refine lv_iconst (v := 0) hx hb dL_law_210 (by decide) ?_
    refine lx_i (As := [.int (nI p1), .int 0]) (rest := [.ref B1, .int (nI p1), .ref aL]) F T (kgB1 _ _ _ _) (mX6_pierOf l dC dI adX cy F.J σ (nI p1) 0 _ (cq_p0 hC hp)) (cwV 2 F.S.2.2.2.2 gL_law_X6_pierOf rfl rfl rfl dmX6_pierOf ⟨Nat.le_of_ble_eq_true rfl, Nat.le_of_ble_eq_true rfl⟩) hw1 rfl rfl hl.1 (Nat.le_of_ble_eq_true rfl) ⟨cL (by omega), sL (by omega)⟩ dL_law_211 (fun H1 locs1 hw1 => ?_)
    refine lb_int (v := (dbe d p1)) F T hzs1 hw1 (Nat.le_trans ht1 (by omega)) (by omega) (cwV 1 F.S.2.2.2.2 gL_law_J4_append_bf812 rfl rfl rfl dmJ4_append_bf812 ⟨Nat.le_of_ble_eq_true rfl, Nat.le_of_ble_eq_true rfl⟩) hl.1 (Nat.le_of_ble_eq_true rfl) ⟨cL (by omega), sL (by omega)⟩ dL_law_214 (fun V1 m1 a1 H1 locs1 hw1 => ?_)
    have ht1 := tl_int ht1 (dbe d p1)
    refine lv_aload_n hx hb dL_law_217 rfl (lv_at hl 1 rfl) ?_
    refine lv_iload hx hb dL_law_218 (lv_at hl 21 rfl) ?_
    refine lv_iconst (v := 1) hx hb dL_law_220 (by decide) ?_
    refine lx_i (As := [.int (nI p1), .int 1]) (rest := [.ref B1, .int (nI p1), .ref aL]) F T (kgB1 _ _ _ _) (mX6_pierOf l dC dI adX cy F.J σ (nI p1) 1 _ (cq_p1 hC hp)) (cwV 2 F.S.2.2.2.2 gL_law_X6_pierOf rfl rfl rfl dmX6_pierOf ⟨Nat.le_of_ble_eq_true rfl, Nat.le_of_ble_eq_true rfl⟩) hw1 rfl rfl hl.1 (Nat.le_of_ble_eq_true rfl) ⟨cL (by omega), sL (by omega)⟩ dL_law_221 (fun H1 locs1 hw1 => ?_)
    refine lv_iconst (v := 1) hx hb dL_law_224 (by decide) ?_
    cases hop : dop d p1 with
    | false =>
      refine lv_icmp_ne (tgt := 233) hx hb dL_law_225 (by decide) (fun _ => ?_) (fun q9 => absurd q9 (by decide))
      refine lk_ldc 2 (by decide) F dL_law_233 ?_
      refine lb_const 2 (by decide) F T hzs1 hw1 (Nat.le_trans ht1 (by omega)) (cwV 1 F.S.2.2.2.2 gL_law_J4_append_15ec4 rfl rfl rfl dmJ4_append_15ec4 ⟨Nat.le_of_ble_eq_true rfl, Nat.le_of_ble_eq_true rfl⟩) hl.1 (Nat.le_of_ble_eq_true rfl) ⟨cL (by omega), sL (by omega)⟩ dL_law_235 (fun V1 m1 a1 H1 locs1 hw1 => ?_)
      have ht1 := tl_const ht1 2 (by decide)
      refine lk_ldc 3 (by decide) F dL_law_238 ?_
      refine lb_const 3 (by decide) F T hzs1 hw1 (Nat.le_trans ht1 (by omega)) (cwV 1 F.S.2.2.2.2 gL_law_J4_append_15ec4 rfl rfl rfl dmJ4_append_15ec4 ⟨Nat.le_of_ble_eq_true rfl, Nat.le_of_ble_eq_true rfl⟩) hl.1 (Nat.le_of_ble_eq_true rfl) ⟨cL (by omega), sL (by omega)⟩ dL_law_240 (fun V1 m1 a1 H1 locs1 hw1 => ?_)
      have ht1 := tl_const ht1 3 (by decide)
      refine lb_toS F T jl_J0 hzs1 (kg) hw.g hw1 (cwV 0 F.S.2.2.2.2 gL_law_J4_toString_0e30d rfl rfl rfl dmJ4_toString_0e30d ⟨Nat.le_of_ble_eq_true rfl, Nat.le_of_ble_eq_true rfl⟩) hl.1 (Nat.le_of_ble_eq_true rfl) ⟨cL (by omega), sL (by omega)⟩ dL_law_243 (fun q1 v1 H9 locs9 hw9 hA1 hP1 hz1 hk1 => ?_)
      refine lb_put (i := p1) (n := p1) F T hw.z hw.g (Nat.le_refl _) (by omega) hw9 hA1 hP1 hk1 dL_law_246 (fun qs vs H locs hw => ?_)
      have hw := LWd.gmap (G2 := GL dC dI cy s zT aL (p1 + 1) qs vs (hdD d)) hw (fun H h => by
        rw [if_pos rfl] at h
        refine h.congr (fun j hj => ?_)
        by_cases e : j = p1
        · rw [if_pos e, e]; unfold hdD; rw [hop]; simp [kch]
        · rw [if_neg e])
      refine lv_iinc (v := nI (p1 + 1)) (lv' := [(21, .int (nI (p1 + 1))), (0, .ref b), (1, .ref (adX 0)), (2, .int (nI turn)), (3, .int (nI (dP d))), (4, .int (nI (dB d))), (5, .int 0), (6, .int 0), (7, .int 0), (8, .int 0), (9, .int 0), (10, .int 0), (11, .int (nI (dT d))), (12, .ref (adT 0)), (13, .ref (adT 1)), (14, .ref (adT 2)), (15, .ref (adT 3)), (16, .ref (adT 4)), (17, .ref (adT 5)), (18, .ref (adT 6)), (19, .ref (adT 7)), (20, .ref aL)]) hx hb dL_law_247 hl (k := 21) rfl (nI_1 p1) (by decide) rfl (fun ls hl => ?_)
      refine lv_goto (tgt := 180) hx hb dL_law_250 (by decide) ?_
      refine lx_mono (k := nc + 10 * (p1 + 1)) (n' := ns + 1300 * (p1 + 1)) (by omega) (by omega) ?_
      exact ih (p1 + 1) (by omega) qs vs H locs hw ls (lv_sub hl [1, 2, 3, 4, 5, 6, 7, 8, 9, 10, 11, 12, 13, 14, 15, 16, 17, 18, 19, 20, 21, 0] rfl)
    | true =>
      refine lv_icmp_ne (tgt := 233) hx hb dL_law_225 (by decide) (fun q9 => absurd (by decide) q9) (fun _ => ?_)
      refine lk_ldc 1 (by decide) F dL_law_228 ?_
      refine lv_goto (tgt := 235) hx hb dL_law_230 (by decide) ?_
      refine lb_const 1 (by decide) F T hzs1 hw1 (Nat.le_trans ht1 (by omega)) (cwV 1 F.S.2.2.2.2 gL_law_J4_append_15ec4 rfl rfl rfl dmJ4_append_15ec4 ⟨Nat.le_of_ble_eq_true rfl, Nat.le_of_ble_eq_true rfl⟩) hl.1 (Nat.le_of_ble_eq_true rfl) ⟨cL (by omega), sL (by omega)⟩ dL_law_235 (fun V1 m1 a1 H1 locs1 hw1 => ?_)
      have ht1 := tl_const ht1 1 (by decide)
      refine lk_ldc 3 (by decide) F dL_law_238 ?_
      refine lb_const 3 (by decide) F T hzs1 hw1 (Nat.le_trans ht1 (by omega)) (cwV 1 F.S.2.2.2.2 gL_law_J4_append_15ec4 rfl rfl rfl dmJ4_append_15ec4 ⟨Nat.le_of_ble_eq_true rfl, Nat.le_of_ble_eq_true rfl⟩) hl.1 (Nat.le_of_ble_eq_true rfl) ⟨cL (by omega), sL (by omega)⟩ dL_law_240 (fun V1 m1 a1 H1 locs1 hw1 => ?_)
      have ht1 := tl_const ht1 3 (by decide)
      refine lb_toS F T jl_J0 hzs1 (kg) hw.g hw1 (cwV 0 F.S.2.2.2.2 gL_law_J4_toString_0e30d rfl rfl rfl dmJ4_toString_0e30d ⟨Nat.le_of_ble_eq_true rfl, Nat.le_of_ble_eq_true rfl⟩) hl.1 (Nat.le_of_ble_eq_true rfl) ⟨cL (by omega), sL (by omega)⟩ dL_law_243 (fun q1 v1 H9 locs9 hw9 hA1 hP1 hz1 hk1 => ?_)
      refine lb_put (i := p1) (n := p1) F T hw.z hw.g (Nat.le_refl _) (by omega) hw9 hA1 hP1 hk1 dL_law_246 (fun qs vs H locs hw => ?_)
      have hw := LWd.gmap (G2 := GL dC dI cy s zT aL (p1 + 1) qs vs (hdD d)) hw (fun H h => by
        rw [if_pos rfl] at h
        refine h.congr (fun j hj => ?_)
        by_cases e : j = p1
        · rw [if_pos e, e]; unfold hdD; rw [hop]; simp [kch]
        · rw [if_neg e])
      refine lv_iinc (v := nI (p1 + 1)) (lv' := [(21, .int (nI (p1 + 1))), (0, .ref b), (1, .ref (adX 0)), (2, .int (nI turn)), (3, .int (nI (dP d))), (4, .int (nI (dB d))), (5, .int 0), (6, .int 0), (7, .int 0), (8, .int 0), (9, .int 0), (10, .int 0), (11, .int (nI (dT d))), (12, .ref (adT 0)), (13, .ref (adT 1)), (14, .ref (adT 2)), (15, .ref (adT 3)), (16, .ref (adT 4)), (17, .ref (adT 5)), (18, .ref (adT 6)), (19, .ref (adT 7)), (20, .ref aL)]) hx hb dL_law_247 hl (k := 21) rfl (nI_1 p1) (by decide) rfl (fun ls hl => ?_)
      refine lv_goto (tgt := 180) hx hb dL_law_250 (by decide) ?_
      refine lx_mono (k := nc + 10 * (p1 + 1)) (n' := ns + 1300 * (p1 + 1)) (by omega) (by omega) ?_
      exact ih (p1 + 1) (by omega) qs vs H locs hw ls (lv_sub hl [1, 2, 3, 4, 5, 6, 7, 8, 9, 10, 11, 12, 13, 14, 15, 16, 17, 18, 19, 20, 21, 0] rfl)
end LB
