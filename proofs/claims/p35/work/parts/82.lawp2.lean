/-! The law: homes and stretches (110 to 170). -/
theorem row_up {r1 r : Nat → Int32} {g g' : Nat → Nat} {po w n : Nat} (h1 : ∀ i, r1 i = if i = po then nI (g po + w) else r i) (h : ∀ i, i < n → r i = nI (g i)) (hg : g' po = g po + w) (hg2 : ∀ i, i ≠ po → g' i = g i) : ∀ i, i < n → r1 i = nI (g' i) := by
  intro i hi
  rw [h1 i]
  by_cases e : i = po
  · rw [if_pos e, e, hg]
  · rw [if_neg e, h i hi, hg2 i e]
section LB
variable {p : Program} {l : Launch} {e : Env} {s : State} {m : MethodId} {below : List Frame} {meth : Method} {c : Code} {Q : State → Prop}
variable {dC : Nat → ClassId} {dI : Nat → Nat → Nat} {cy : Nat → ClassId} {tb : Nat × Nat} {aK aV : Nat → Nat} {b bL : Nat} {xs : Nat → Int32}
variable {adX adT : Nat → Nat} {σ : St} {zX zT : Nat} {G : Heap → Prop} {d : HD} {turn nc ns : Nat}
set_option maxHeartbeats 8000000 in
theorem law_p2 (F : LF p s m c dC dI cy tb adX aK aV zX b bL xs) (T : LT 8 adT zX zT) (hC : CX σ d) (kg : KG zT G) (hnc : nc ≤ 700000) (hns : ns ≤ 6900000) (kk : ∀ τ : St, (∀ i, i < 360 → τ 0 i = oA d i) → (∀ i, i < 8 → τ 1 i = nI (sumTo (fun q => if homeD d q = some i then 1 else 0) 360)) → (∀ j, 2 ≤ j → ∀ i, τ j i = 0) → ∀ (H : Heap) (locs : List Loc), LWd s dC dI cy adX 8 adT zT G σ (τ) H locs → ∀ ls : Array Slot, lv_has ls 31 [(0, .ref b), (1, .ref (adX 0)), (2, .int (nI turn)), (3, .int (nI (dP d))), (4, .int (nI (dB d))), (11, .int (nI (dT d))), (12, .ref (adT 0)), (13, .ref (adT 1)), (14, .ref (adT 2)), (15, .ref (adT 3)), (16, .ref (adT 4)), (17, .ref (adT 5)), (18, .ref (adT 6)), (19, .ref (adT 7)), (5, .int 0), (6, .int 0), (7, .int 0), (8, .int 0), (9, .int 0), (10, .int 0)] → W p l e room_1 s m #[Value.ref b] below meth c H locs nc ns Q (F0 m 170 ls [])) : ∀ n k, k + n = 360 → ∀ τ : St, (∀ i, i < 360 → τ 0 i = oA d i) → (∀ i, i < 8 → τ 1 i = nI (sumTo (fun q => if homeD d q = some i then 1 else 0) k)) → (∀ j, 2 ≤ j → ∀ i, τ j i = 0) → ∀ (H : Heap) (locs : List Loc), LWd s dC dI cy adX 8 adT zT G σ (τ) H locs → ∀ ls : Array Slot, lv_has ls 31 [(0, .ref b), (1, .ref (adX 0)), (2, .int (nI turn)), (3, .int (nI (dP d))), (4, .int (nI (dB d))), (11, .int (nI (dT d))), (12, .ref (adT 0)), (13, .ref (adT 1)), (14, .ref (adT 2)), (15, .ref (adT 3)), (16, .ref (adT 4)), (17, .ref (adT 5)), (18, .ref (adT 6)), (19, .ref (adT 7)), (5, .int 0), (6, .int 0), (7, .int 0), (8, .int 0), (9, .int 0), (10, .int 0), (20, .int (nI k))] → W p l e room_1 s m #[Value.ref b] below meth c H locs nc ns Q (F0 m 110 ls []) := by
  have hx := F.S.1
  have hb := F.S.2.1
  have h8 := hC.1.1
  have h24 := hC.1.2.1
  have h200 := hC.1.2.2.1
  have cL : ∀ {x : Nat}, x ≤ 723972 → x ≤ room_1.cells := fun h => h
  have sL : ∀ {x : Nat}, x ≤ 6930331 → x ≤ room_1.slots := fun h => h
  intro n
  induction n with
  | zero =>
    intro k hk τ tf0 tf1 tfz H locs hw ls hl
    refine lv_iload hx hb dL_law_110 (lv_at hl 20 rfl) ?_
    refine lv_sipush (v := nI 360) hx hb dL_law_112 (by decide) ?_
    refine lv_icmp_ge (tgt := 170) hx hb dL_law_115 (by decide) (fun _ => ?_) (fun q9 => absurd (nI_le (by omega) (by omega)) q9)
    obtain rfl : k = 360 := by omega
    exact kk τ tf0 tf1 tfz H locs hw ls (lv_sub hl [0, 1, 2, 3, 4, 5, 6, 7, 8, 9, 10, 11, 12, 13, 14, 15, 16, 17, 18, 19] rfl)
  | succ n ih =>
    intro k hk τ tf0 tf1 tfz H locs hw ls hl
    have hq : k < 360 := by omega
    refine lv_iload hx hb dL_law_110 (lv_at hl 20 rfl) ?_
    refine lv_sipush (v := nI 360) hx hb dL_law_112 (by decide) ?_
    refine lv_icmp_ge (tgt := 170) hx hb dL_law_115 (by decide) (fun q9 => absurd q9 (nI_ge (by omega) (by omega))) (fun _ => ?_)
    refine lv_aload hx hb dL_law_118 (lv_at hl 6 rfl) ?_
    refine lv_iload hx hb dL_law_120 (lv_at hl 20 rfl) ?_
    refine lx_home F kg (by decide) (q := k) hq tf0 (va_cwS 2 F.S.2.2.2.2 gL_law_L_home rfl rfl rfl dmL_home ⟨Nat.le_of_ble_eq_true rfl, Nat.le_of_ble_eq_true rfl⟩) hw rfl hl.1 (Nat.le_of_ble_eq_true rfl) ⟨cL (by omega), sL (by omega)⟩ dL_law_122 (fun H locs hw => ?_)
    cases hh : homeD d k with
    | none =>
      show W p l e room_1 s m #[Value.ref b] below meth c _ _ nc ns Q (F0 m 125 _ [.int (mI 1)])
      refine lv_istore (lv' := [(21, .int (mI 1)), (0, .ref b), (1, .ref (adX 0)), (2, .int (nI turn)), (3, .int (nI (dP d))), (4, .int (nI (dB d))), (11, .int (nI (dT d))), (12, .ref (adT 0)), (13, .ref (adT 1)), (14, .ref (adT 2)), (15, .ref (adT 3)), (16, .ref (adT 4)), (17, .ref (adT 5)), (18, .ref (adT 6)), (19, .ref (adT 7)), (5, .int 0), (6, .int 0), (7, .int 0), (8, .int 0), (9, .int 0), (10, .int 0), (20, .int (nI k))]) hx hb dL_law_125 hl (by decide) rfl (fun ls hl => ?_)
      refine lv_aload_n hx hb dL_law_127 rfl (lv_at hl 2 rfl) ?_
      refine lv_iload hx hb dL_law_128 (lv_at hl 21 rfl) ?_
      refine lx_i (As := [.int (nI k)]) (rest := []) F T kg (mX6_homeOf l dC dI adX cy F.J σ (nI k) _ (cq_homeOf hC hq)) (cwV 1 F.S.2.2.2.2 gL_law_X6_homeOf rfl rfl rfl dmX6_homeOf ⟨Nat.le_of_ble_eq_true rfl, Nat.le_of_ble_eq_true rfl⟩) hw rfl rfl hl.1 (Nat.le_of_ble_eq_true rfl) ⟨cL (by omega), sL (by omega)⟩ dL_law_130 (fun H locs hw => ?_)
      rw [show ((oX (homeD d k)) : Int32) = mI 15 from by rw [hh]; rfl]
      refine lv_iload hx hb dL_law_133 (lv_at hl 0 rfl) ?_
      refine lv_if_ge (tgt := 143) hx hb dL_law_135 (by decide) (fun q9 => absurd q9 (by decide)) (fun _ => ?_)
      refine lv_bipush (v := mI 15) hx hb dL_law_138 (by decide) ?_
      refine lv_goto (tgt := 145) hx hb dL_law_140 (by decide) ?_
      refine lv_icmp_eq (tgt := 150) hx hb dL_law_145 (by decide) (fun _ => ?_) (fun q9 => absurd (rfl) q9)
      refine lv_iload hx hb dL_law_150 (lv_at hl 0 rfl) ?_
      refine lv_if_lt (tgt := 164) hx hb dL_law_152 (by decide) (fun _ => ?_) (fun q9 => absurd (by decide) q9)
      refine lv_iinc (v := nI (k + 1)) (lv' := [(20, .int (nI (k + 1))), (21, .int (mI 1)), (0, .ref b), (1, .ref (adX 0)), (2, .int (nI turn)), (3, .int (nI (dP d))), (4, .int (nI (dB d))), (11, .int (nI (dT d))), (12, .ref (adT 0)), (13, .ref (adT 1)), (14, .ref (adT 2)), (15, .ref (adT 3)), (16, .ref (adT 4)), (17, .ref (adT 5)), (18, .ref (adT 6)), (19, .ref (adT 7)), (5, .int 0), (6, .int 0), (7, .int 0), (8, .int 0), (9, .int 0), (10, .int 0)]) hx hb dL_law_164 hl (k := 21) rfl (nI_1 k) (by decide) rfl (fun ls hl => ?_)
      refine lv_goto (tgt := 110) hx hb dL_law_167 (by decide) ?_
      exact ih (k + 1) (by omega) τ tf0 (fun i hi => by rw [tf1 i hi]; congr 1; show _ = sumTo _ k + (if homeD d k = some i then 1 else 0); rw [if_neg (fun z => by rw [hh] at z; cases z)]; omega) tfz H locs hw ls (lv_sub hl [2, 3, 4, 5, 6, 7, 8, 9, 10, 11, 12, 13, 14, 15, 16, 17, 18, 19, 20, 21, 0] rfl)
    | some po =>
      have hp : po < 8 := Nat.lt_of_lt_of_le (homeD_lt hh).1 h8
      show W p l e room_1 s m #[Value.ref b] below meth c _ _ nc ns Q (F0 m 125 _ [.int (nI po)])
      refine lv_istore (lv' := [(21, .int (nI po)), (0, .ref b), (1, .ref (adX 0)), (2, .int (nI turn)), (3, .int (nI (dP d))), (4, .int (nI (dB d))), (11, .int (nI (dT d))), (12, .ref (adT 0)), (13, .ref (adT 1)), (14, .ref (adT 2)), (15, .ref (adT 3)), (16, .ref (adT 4)), (17, .ref (adT 5)), (18, .ref (adT 6)), (19, .ref (adT 7)), (5, .int 0), (6, .int 0), (7, .int 0), (8, .int 0), (9, .int 0), (10, .int 0), (20, .int (nI k))]) hx hb dL_law_125 hl (by decide) rfl (fun ls hl => ?_)
      refine lv_aload_n hx hb dL_law_127 rfl (lv_at hl 2 rfl) ?_
      refine lv_iload hx hb dL_law_128 (lv_at hl 21 rfl) ?_
      refine lx_i (As := [.int (nI k)]) (rest := []) F T kg (mX6_homeOf l dC dI adX cy F.J σ (nI k) _ (cq_homeOf hC hq)) (cwV 1 F.S.2.2.2.2 gL_law_X6_homeOf rfl rfl rfl dmX6_homeOf ⟨Nat.le_of_ble_eq_true rfl, Nat.le_of_ble_eq_true rfl⟩) hw rfl rfl hl.1 (Nat.le_of_ble_eq_true rfl) ⟨cL (by omega), sL (by omega)⟩ dL_law_130 (fun H locs hw => ?_)
      rw [show ((oX (homeD d k)) : Int32) = nI po from by rw [hh]; rfl]
      refine lv_iload hx hb dL_law_133 (lv_at hl 0 rfl) ?_
      refine lv_if_ge (tgt := 143) hx hb dL_law_135 (by decide) (fun _ => ?_) (fun q9 => absurd (nI_pos' (by omega)) q9)
      refine lv_iload hx hb dL_law_143 (lv_at hl 0 rfl) ?_
      refine lv_icmp_eq (tgt := 150) hx hb dL_law_145 (by decide) (fun _ => ?_) (fun q9 => absurd (rfl) q9)
      refine lv_iload hx hb dL_law_150 (lv_at hl 0 rfl) ?_
      refine lv_if_lt (tgt := 164) hx hb dL_law_152 (by decide) (fun q9 => absurd q9 (nI_pos (by omega))) (fun _ => ?_)
      refine lv_aload hx hb dL_law_155 (lv_at hl 8 rfl) ?_
      refine lv_iload hx hb dL_law_157 (lv_at hl 0 rfl) ?_
      refine lv_dup2_11 hx hb dL_law_159 rfl rfl ?_
      refine lx_ald F T hw 1 (by decide) (i := po) (v := nI (sumTo (fun q => if homeD d q = some po then 1 else 0) k)) (by show po < 8; omega) (by omega) (tf1 po (by omega)) dL_law_160 ?_
      refine lv_iconst (v := 1) hx hb dL_law_161 (by decide) ?_
      refine lv_iadd hx hb dL_law_162 ?_
      rw [show (((nI (sumTo (fun q => if homeD d q = some po then 1 else 0) k)) + 1) : Int32) = nI ((sumTo (fun q => if homeD d q = some po then 1 else 0) k) + 1) from nI_add (sumTo (fun q => if homeD d q = some po then 1 else 0) k) 1]
      refine lx_ast F T kg hw 1 (by decide) (i := po) (x := (nI ((sumTo (fun q => if homeD d q = some po then 1 else 0) k) + 1))) (by show po < 8; omega) (by omega) dL_law_163 (fun H locs hw => ?_)
      obtain ⟨τ1, eτ1⟩ : ∃ z : St, z = su τ 1 po (nI ((sumTo (fun q => if homeD d q = some po then 1 else 0) k) + 1)) := ⟨_, rfl⟩
      rw [← eτ1] at hw
      have hs1 : ∀ j, j ≠ 1 → τ1 j = τ j := fun j hj => by rw [eτ1]; exact pz_su_r _ _ hj
      have hs1k : ∀ i, τ1 1 i = if i = po then (nI ((sumTo (fun q => if homeD d q = some po then 1 else 0) k) + 1)) else τ 1 i := fun i => by rw [eτ1, pz_su_w]; rfl
      have tfz : ∀ j, 2 ≤ j → ∀ i, τ1 j i = 0 := fun j hj i => (congrFun (hs1 j (by omega)) i).trans (tfz j hj i)
      have tf0 : ∀ i, i < 360 → τ1 0 i = oA d i := fun i hi => (congrFun (hs1 0 (by decide)) i).trans (tf0 i hi)
      have tf1 : ∀ i, i < 8 → τ1 1 i = nI (sumTo (fun q => if homeD d q = some i then 1 else 0) (k + 1)) := row_up (g := fun i => sumTo (fun q => if homeD d q = some i then 1 else 0) k) hs1k tf1 (by show sumTo _ k + (if homeD d k = some po then 1 else 0) = _; rw [if_pos hh]) (fun i hi => by show sumTo _ k + (if homeD d k = some i then 1 else 0) = _; rw [if_neg (fun z => by rw [hh] at z; exact hi (Option.some.inj z).symm)]; rfl)
      refine lv_iinc (v := nI (k + 1)) (lv' := [(20, .int (nI (k + 1))), (21, .int (nI po)), (0, .ref b), (1, .ref (adX 0)), (2, .int (nI turn)), (3, .int (nI (dP d))), (4, .int (nI (dB d))), (11, .int (nI (dT d))), (12, .ref (adT 0)), (13, .ref (adT 1)), (14, .ref (adT 2)), (15, .ref (adT 3)), (16, .ref (adT 4)), (17, .ref (adT 5)), (18, .ref (adT 6)), (19, .ref (adT 7)), (5, .int 0), (6, .int 0), (7, .int 0), (8, .int 0), (9, .int 0), (10, .int 0)]) hx hb dL_law_164 hl (k := 21) rfl (nI_1 k) (by decide) rfl (fun ls hl => ?_)
      refine lv_goto (tgt := 110) hx hb dL_law_167 (by decide) ?_
      exact ih (k + 1) (by omega) τ1 tf0 tf1 tfz H locs hw ls (lv_sub hl [2, 3, 4, 5, 6, 7, 8, 9, 10, 11, 12, 13, 14, 15, 16, 17, 18, 19, 20, 21, 0] rfl)
end LB
