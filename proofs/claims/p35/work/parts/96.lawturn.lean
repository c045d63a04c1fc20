/-! The law: one turn (15 to 15). -/
def ad8 (q0 q1 q2 q3 q4 q5 q6 q7 k : Nat) : Nat := [q0, q1, q2, q3, q4, q5, q6, q7].getD k 0
theorem hw_0 (d : HD) (i : Nat) : hwD d 0 i = 0 := by
  unfold hwD
  split
  · rfl
  · split
    · rfl
    · split <;> rfl
theorem arr8 {dC : Nat → ClassId} {dI : Nat → Nat → Nat} {cy : Nat → ClassId} {r : Nat → Int32} {q0 q1 q2 q3 q4 q5 q6 q7 : Nat} {H : Heap} (h0 : va_P (dC, dI) vwCl [(q0, .inl (cy 0, 360, .inl r))] H) (h : va_P (dC, dI) vwCl [(q1, .inl (cy 0, 8, .inl (fun _ => 0))), (q2, .inl (cy 0, 8, .inl (fun _ => 0))), (q3, .inl (cy 0, 8, .inl (fun _ => 0))), (q4, .inl (cy 0, 8, .inl (fun _ => 0))), (q5, .inl (cy 0, 8, .inl (fun _ => 0))), (q6, .inl (cy 0, 3, .inl (fun _ => 0))), (q7, .inl (cy 0, 24, .inl (fun _ => 0)))] H) :
    va_P (dC, dI) vwCl (wd 8 (ad8 q0 q1 q2 q3 q4 q5 q6 q7) (layT cy) (fun k => if k = 0 then r else fun _ => 0)) H := by
  intro k x hx
  have hk : k < 8 := by
    have := (List.getElem?_eq_some_iff.mp hx).1
    simpa [wd] using this
  rw [wd_at hk] at hx
  cases hx
  rcases (show k = 0 ∨ k = 1 ∨ k = 2 ∨ k = 3 ∨ k = 4 ∨ k = 5 ∨ k = 6 ∨ k = 7 by omega) with rfl | rfl | rfl | rfl | rfl | rfl | rfl | rfl
  · exact h0 0 _ rfl
  · exact h 0 _ rfl
  · exact h 1 _ rfl
  · exact h 2 _ rfl
  · exact h 3 _ rfl
  · exact h 4 _ rfl
  · exact h 5 _ rfl
  · exact h 6 _ rfl
theorem lt8 {q0 q1 q2 q3 q4 q5 q6 q7 zX z0 zT : Nat} {e1 e2 e3 e4 e5 e6 e7 : va_E} (hz : zX ≤ q0) (h0 : q0 < z0) (hD : va_D (fun q => z0 ≤ q) [(q1, e1), (q2, e2), (q3, e3), (q4, e4), (q5, e5), (q6, e6), (q7, e7)]) (hlt : ∀ k, k < 8 → ad8 q0 q1 q2 q3 q4 q5 q6 q7 k < zT) : LT 8 (ad8 q0 q1 q2 q3 q4 q5 q6 q7) zX zT := by
  have hge : ∀ k, 1 ≤ k → k < 8 → z0 ≤ ad8 q0 q1 q2 q3 q4 q5 q6 q7 k := by
    intro k k1 k2
    rcases (show k = 1 ∨ k = 2 ∨ k = 3 ∨ k = 4 ∨ k = 5 ∨ k = 6 ∨ k = 7 by omega) with rfl | rfl | rfl | rfl | rfl | rfl | rfl
    · exact hD.2 0 _ rfl
    · exact hD.2 1 _ rfl
    · exact hD.2 2 _ rfl
    · exact hD.2 3 _ rfl
    · exact hD.2 4 _ rfl
    · exact hD.2 5 _ rfl
    · exact hD.2 6 _ rfl
  have hL : ∀ k, 1 ≤ k → k < 8 → ∃ e, ([(q1, e1), (q2, e2), (q3, e3), (q4, e4), (q5, e5), (q6, e6), (q7, e7)] : va_W)[k - 1]? = some (ad8 q0 q1 q2 q3 q4 q5 q6 q7 k, e) := by
    intro k k1 k2
    rcases (show k = 1 ∨ k = 2 ∨ k = 3 ∨ k = 4 ∨ k = 5 ∨ k = 6 ∨ k = 7 by omega) with rfl | rfl | rfl | rfl | rfl | rfl | rfl <;> exact ⟨_, rfl⟩
  have hq0 : ad8 q0 q1 q2 q3 q4 q5 q6 q7 0 = q0 := rfl
  have hzT := hlt 0 (by decide)
  refine ⟨Nat.le_refl _, fun q hq => ?_, fun i j hi hj e => ?_, by omega⟩
  · obtain ⟨k, hk, rfl⟩ := hq
    refine ⟨?_, hlt k hk⟩
    by_cases e : k = 0
    · rw [e]; exact hz
    · have := hge k (by omega) hk
      omega
  · by_cases ei : i = 0
    · by_cases ej : j = 0
      · omega
      · have := hge j (by omega) hj
        rw [ei, hq0] at e
        omega
    · by_cases ej : j = 0
      · have := hge i (by omega) hi
        rw [ej, hq0] at e
        omega
      · obtain ⟨x, hx⟩ := hL i (by omega) hi
        obtain ⟨y, hy⟩ := hL j (by omega) hj
        have := hD.1 (i - 1) (j - 1) _ _ hx hy e
        omega
section LB
variable {p : Program} {l : Launch} {e : Env} {s : State} {m : MethodId} {below : List Frame} {meth : Method} {c : Code} {Q : State → Prop}
variable {dC : Nat → ClassId} {dI : Nat → Nat → Nat} {cy : Nat → ClassId} {tb : Nat × Nat} {aK aV : Nat → Nat} {b bL : Nat} {xs : Nat → Int32}
variable {adX adT : Nat → Nat} {σ : St} {zX zT : Nat} {G : Heap → Prop} {d : HD} {turn nc ns : Nat}
theorem lx_owners {H : Heap} {locs : List Loc} {ls : Array Slot} {rest : List Value} {pc cells slots : Nat} (F : LF p s m c dC dI cy tb adX aK aV zX b bL xs) (hC : CX σ d) (hw : LWd s dC dI cy adX 0 (fun _ => 0) zX (fun _ => True) σ (fun _ _ => 0) H locs) (cw : CallB room_1 s #[Value.ref b] RL 102 yL_owners cL_owners 5 (some (.array .int)) wsL_owners rmL_owners 1 360 2 ∧ (Cond.static yL_owners).before #[Value.ref b] s = true)
    (hsize : ls.size = 31) (hW : (rest.map fun v => v.category).sum ≤ 8) (hf : cells + 1 ≤ room_1.cells ∧ slots + 360 ≤ room_1.slots) (hdg : decode cL_law pc = .ok (.invokestatic 102, 3))
    (kk : ∀ (q0 : Nat) (r : Nat → Int32) (H1 : Heap) (locs1 : List Loc), (∀ i, i < 360 → r i = oA d i) → H.size ≤ q0 → va_P (dC, dI) vwCl [(q0, .inl (cy 0, 360, .inl r))] H1 → LWd s dC dI cy adX 0 (fun _ => 0) zX (fun _ => True) σ (fun _ _ => 0) H1 locs1 → W p l e room_1 s m #[Value.ref b] below meth c H1 locs1 (cells + 1) (slots + 360) Q (F0 m (pc + 3) ls (.ref q0 :: rest))) : W p l e room_1 s m #[Value.ref b] below meth c H locs cells slots Q (F0 m pc ls (.int (-1) :: .ref (adX 0) :: rest)) := by
  refine va_callr (va_runS (As := [.ref (adX 0), .int (-1)]) (rest := rest) F.S (mL_owners l dC dI cy adX F.J σ d hC H.size) cw ⟨PcO_blind, fun U hU hW => ⟨rfl, by rw [hU], by rw [hU]; exact hw.X, va_K.moved hW.alike F.K⟩⟩ rfl rfl hsize rfl (lv_room hW) hdg hf) hw.S (fun q _ h => ?_) (fun q h => ?_) (fun r q0 t H1 locs1 ht _ hr hB hz hk1 hS1 => ?_)
  · rcases h with h | h
    · exact (F.B q h).1
    · exact Nat.le_trans hw.S.1 h
  · rcases h with h | h
    · exact (F.B q h).1
    · exact Nat.le_trans hw.S.1 h
  · obtain ⟨b1, b2, b3⟩ := hB
    rw [ht] at b2 b3
    exact kk q0 r H1 locs1 hr b1 b3 ⟨b2, fun k x hx => by simp [wd] at hx, trivial, hS1, Nat.le_trans hw.z hz⟩

set_option maxHeartbeats 16000000 in
set_option maxRecDepth 100000 in
theorem law_turn (F : LF p s m c dC dI cy tb adX aK aV zX b bL xs) (hAO : va_AO RJ0 s) (hbl : bL < 2 ^ 31) (hI : CI σ d) (hp1 : 1 ≤ dP d) (ht4 : turn < 4) (hnc : nc ≤ 600000) (hns : ns ≤ 6000000) (kk : ∀ (d2 : Drawn) (σ : St) (d : HD), s.drawn.sameBut d2 lw_cs → CI σ d → 1 ≤ dP d → ∀ (H : Heap) (locs : List Loc), LWd (s.setDrawn d2) dC dI cy adX 0 (fun _ => 0) zX (fun _ => True) σ (fun _ _ => 0) H locs → ∀ ls : Array Slot, lv_has ls 31 [(0, .ref b), (1, .ref (adX 0)), (2, .int (nI (turn + 1)))] → W p l e room_1 (s.setDrawn d2) m #[Value.ref b] below meth c H locs (nc + 1000) (ns + 110000) Q (F0 m 15 ls [])) : ∀ (H : Heap) (locs : List Loc), LWd s dC dI cy adX 0 (fun _ => 0) zX (fun _ => True) σ (fun _ _ => 0) H locs → ∀ ls : Array Slot, lv_has ls 31 [(0, .ref b), (1, .ref (adX 0)), (2, .int (nI turn))] → W p l e room_1 s m #[Value.ref b] below meth c H locs nc ns Q (F0 m 15 ls []) := by
  intro H locs hw ls hl
  have hC := hI.1
  have T : LT 0 (fun _ => 0) zX zX := ⟨Nat.zero_le _, fun q h => by obtain ⟨k, hk, _⟩ := h; omega, fun i j hi => by omega, Nat.le_refl _⟩
  have kg := KG.T zX
  have hx := F.S.1
  have hb := F.S.2.1
  have h8 := hC.1.1
  have h24 := hC.1.2.1
  have h200 := hC.1.2.2.1
  have cL : ∀ {x : Nat}, x ≤ 723972 → x ≤ room_1.cells := fun h => h
  have sL : ∀ {x : Nat}, x ≤ 6930331 → x ≤ room_1.slots := fun h => h
  refine lv_iload_n hx hb dL_law_15 rfl (lv_at hl 2 rfl) ?_
  refine lv_iconst (v := nI 4) hx hb dL_law_16 (by decide) ?_
  refine lv_icmp_ge (tgt := 1701) hx hb dL_law_17 (by decide) (fun q9 => absurd q9 (nI_ge (by omega) (by omega))) (fun _ => ?_)
  refine lv_aload_n hx hb dL_law_20 rfl (lv_at hl 1 rfl) ?_
  refine lv_iconst (v := 0) hx hb dL_law_21 (by decide) ?_
  refine lx_i (As := [.int 0]) (rest := []) F T kg (mX6_account l dC dI adX cy F.J σ 0 _ (cq_a0 hC)) (cwV 1 F.S.2.2.2.2 gL_law_X6_account rfl rfl rfl dmX6_account ⟨Nat.le_of_ble_eq_true rfl, Nat.le_of_ble_eq_true rfl⟩) hw rfl rfl hl.1 (Nat.le_of_ble_eq_true rfl) ⟨cL (by omega), sL (by omega)⟩ dL_law_22 (fun H locs hw => ?_)
  refine lv_istore_n (lv' := [(3, .int (nI (dP d))), (0, .ref b), (1, .ref (adX 0)), (2, .int (nI turn))]) hx hb dL_law_25 rfl hl (by decide) rfl (fun ls hl => ?_)
  refine lv_aload_n hx hb dL_law_26 rfl (lv_at hl 2 rfl) ?_
  refine lv_iconst (v := 3) hx hb dL_law_27 (by decide) ?_
  refine lx_i (As := [.int 3]) (rest := []) F T kg (mX6_account l dC dI adX cy F.J σ 3 _ (cq_a3 hC)) (cwV 1 F.S.2.2.2.2 gL_law_X6_account rfl rfl rfl dmX6_account ⟨Nat.le_of_ble_eq_true rfl, Nat.le_of_ble_eq_true rfl⟩) hw rfl rfl hl.1 (Nat.le_of_ble_eq_true rfl) ⟨cL (by omega), sL (by omega)⟩ dL_law_28 (fun H locs hw => ?_)
  refine lv_istore (lv' := [(4, .int (nI (dB d))), (3, .int (nI (dP d))), (0, .ref b), (1, .ref (adX 0)), (2, .int (nI turn))]) hx hb dL_law_31 hl (by decide) rfl (fun ls hl => ?_)
  refine lv_iconst (v := 0) hx hb dL_law_33 (by decide) ?_
  refine lv_istore (lv' := [(5, .int 0), (4, .int (nI (dB d))), (3, .int (nI (dP d))), (0, .ref b), (1, .ref (adX 0)), (2, .int (nI turn))]) hx hb dL_law_34 hl (by decide) rfl (fun ls hl => ?_)
  refine lv_iconst (v := 0) hx hb dL_law_36 (by decide) ?_
  refine lv_istore (lv' := [(6, .int 0), (5, .int 0), (4, .int (nI (dB d))), (3, .int (nI (dP d))), (0, .ref b), (1, .ref (adX 0)), (2, .int (nI turn))]) hx hb dL_law_37 hl (by decide) rfl (fun ls hl => ?_)
  refine lv_iconst (v := 0) hx hb dL_law_39 (by decide) ?_
  refine lv_istore (lv' := [(7, .int 0), (6, .int 0), (5, .int 0), (4, .int (nI (dB d))), (3, .int (nI (dP d))), (0, .ref b), (1, .ref (adX 0)), (2, .int (nI turn))]) hx hb dL_law_40 hl (by decide) rfl (fun ls hl => ?_)
  refine lv_iconst (v := 0) hx hb dL_law_42 (by decide) ?_
  refine lv_istore (lv' := [(8, .int 0), (7, .int 0), (6, .int 0), (5, .int 0), (4, .int (nI (dB d))), (3, .int (nI (dP d))), (0, .ref b), (1, .ref (adX 0)), (2, .int (nI turn))]) hx hb dL_law_43 hl (by decide) rfl (fun ls hl => ?_)
  refine lv_iconst (v := 0) hx hb dL_law_45 (by decide) ?_
  refine lv_istore (lv' := [(9, .int 0), (8, .int 0), (7, .int 0), (6, .int 0), (5, .int 0), (4, .int (nI (dB d))), (3, .int (nI (dP d))), (0, .ref b), (1, .ref (adX 0)), (2, .int (nI turn))]) hx hb dL_law_46 hl (by decide) rfl (fun ls hl => ?_)
  refine lv_iconst (v := 0) hx hb dL_law_48 (by decide) ?_
  refine lv_istore (lv' := [(10, .int 0), (9, .int 0), (8, .int 0), (7, .int 0), (6, .int 0), (5, .int 0), (4, .int (nI (dB d))), (3, .int (nI (dP d))), (0, .ref b), (1, .ref (adX 0)), (2, .int (nI turn))]) hx hb dL_law_49 hl (by decide) rfl (fun ls hl => ?_)
  refine lv_aload_n hx hb dL_law_51 rfl (lv_at hl 9 rfl) ?_
  refine lv_bipush (v := 11) hx hb dL_law_52 (by decide) ?_
  refine lx_i (As := [.int 11]) (rest := []) F T kg (mX6_account l dC dI adX cy F.J σ 11 _ (cq_a11 hC)) (cwV 1 F.S.2.2.2.2 gL_law_X6_account rfl rfl rfl dmX6_account ⟨Nat.le_of_ble_eq_true rfl, Nat.le_of_ble_eq_true rfl⟩) hw rfl rfl hl.1 (Nat.le_of_ble_eq_true rfl) ⟨cL (by omega), sL (by omega)⟩ dL_law_54 (fun H locs hw => ?_)
  refine lv_istore (lv' := [(11, .int (nI (dT d))), (10, .int 0), (9, .int 0), (8, .int 0), (7, .int 0), (6, .int 0), (5, .int 0), (4, .int (nI (dB d))), (3, .int (nI (dP d))), (0, .ref b), (1, .ref (adX 0)), (2, .int (nI turn))]) hx hb dL_law_57 hl (by decide) rfl (fun ls hl => ?_)
  refine lv_aload_n hx hb dL_law_59 rfl (lv_at hl 10 rfl) ?_
  refine lv_iconst (v := (-1)) hx hb dL_law_60 (by decide) ?_
  refine lx_owners F hC hw (va_cwS 2 F.S.2.2.2.2 gL_law_L_owners rfl rfl rfl dmL_owners ⟨Nat.le_of_ble_eq_true rfl, Nat.le_of_ble_eq_true rfl⟩) hl.1 (Nat.le_of_ble_eq_true rfl) ⟨cL (by omega), sL (by omega)⟩ dL_law_61 (fun q0 r Hb locsb hr hq0 hP0 hwb => ?_)
  refine lv_astore (lv' := [(12, .ref q0), (11, .int (nI (dT d))), (10, .int 0), (9, .int 0), (8, .int 0), (7, .int 0), (6, .int 0), (5, .int 0), (4, .int (nI (dB d))), (3, .int (nI (dP d))), (0, .ref b), (1, .ref (adX 0)), (2, .int (nI turn))]) hx hb dL_law_64 hl (by decide) rfl (fun ls hl => ?_)
  have hzb : zX ≤ Hb.size := hwb.z
  have hq0z : zX ≤ q0 := Nat.le_trans hw.z hq0
  have hq0l : q0 < Hb.size := (hP0 0 _ rfl).lt
  refine va_forget hwb.S.2.2 ?_
  have hD : va_D (fun q => Hb.size ≤ q) [] := ⟨fun i j p q h => by simp at h, fun k q h => by simp at h⟩
  have hP : va_P (dC, dI) vwCl [] Hb := fun k q h => by simp at h
  have hS : va_S (fun q => Hb.size ≤ q) Hb Hb [] := va_S.rf
  refine lv_bipush (v := 8) hx hb dL_law_66 (by decide) ?_
  refine xt_newa (A := fun q => Hb.size ≤ q) (H0 := Hb) (atype := .int) (N' := 8) (ty := .int) hx hb (F.S.2.2.2.2 _ jl_8) rfl 0 rfl (fun _ h1 h2 => ra_i h1 h2) F.K hP hD hS (fun q h => h) rfl (by decide) (by decide) (Nat.le_of_ble_eq_true rfl) (cL (by omega)) (sL (by omega)) dL_law_68 (fun q1 H hP hD hS => ?_)
  refine lv_astore (lv' := [(13, .ref q1), (12, .ref q0), (11, .int (nI (dT d))), (10, .int 0), (9, .int 0), (8, .int 0), (7, .int 0), (6, .int 0), (5, .int 0), (4, .int (nI (dB d))), (3, .int (nI (dP d))), (0, .ref b), (1, .ref (adX 0)), (2, .int (nI turn))]) hx hb dL_law_70 hl (by decide) rfl (fun ls hl => ?_)
  refine lv_bipush (v := 8) hx hb dL_law_72 (by decide) ?_
  refine xt_newa (A := fun q => Hb.size ≤ q) (H0 := Hb) (atype := .int) (N' := 8) (ty := .int) hx hb (F.S.2.2.2.2 _ jl_8) rfl 0 rfl (fun _ h1 h2 => ra_i h1 h2) F.K hP hD hS (fun q h => h) rfl (by decide) (by decide) (Nat.le_of_ble_eq_true rfl) (cL (by omega)) (sL (by omega)) dL_law_74 (fun q2 H hP hD hS => ?_)
  refine lv_astore (lv' := [(14, .ref q2), (13, .ref q1), (12, .ref q0), (11, .int (nI (dT d))), (10, .int 0), (9, .int 0), (8, .int 0), (7, .int 0), (6, .int 0), (5, .int 0), (4, .int (nI (dB d))), (3, .int (nI (dP d))), (0, .ref b), (1, .ref (adX 0)), (2, .int (nI turn))]) hx hb dL_law_76 hl (by decide) rfl (fun ls hl => ?_)
  refine lv_bipush (v := 8) hx hb dL_law_78 (by decide) ?_
  refine xt_newa (A := fun q => Hb.size ≤ q) (H0 := Hb) (atype := .int) (N' := 8) (ty := .int) hx hb (F.S.2.2.2.2 _ jl_8) rfl 0 rfl (fun _ h1 h2 => ra_i h1 h2) F.K hP hD hS (fun q h => h) rfl (by decide) (by decide) (Nat.le_of_ble_eq_true rfl) (cL (by omega)) (sL (by omega)) dL_law_80 (fun q3 H hP hD hS => ?_)
  refine lv_astore (lv' := [(15, .ref q3), (14, .ref q2), (13, .ref q1), (12, .ref q0), (11, .int (nI (dT d))), (10, .int 0), (9, .int 0), (8, .int 0), (7, .int 0), (6, .int 0), (5, .int 0), (4, .int (nI (dB d))), (3, .int (nI (dP d))), (0, .ref b), (1, .ref (adX 0)), (2, .int (nI turn))]) hx hb dL_law_82 hl (by decide) rfl (fun ls hl => ?_)
  refine lv_bipush (v := 8) hx hb dL_law_84 (by decide) ?_
  refine xt_newa (A := fun q => Hb.size ≤ q) (H0 := Hb) (atype := .int) (N' := 8) (ty := .int) hx hb (F.S.2.2.2.2 _ jl_8) rfl 0 rfl (fun _ h1 h2 => ra_i h1 h2) F.K hP hD hS (fun q h => h) rfl (by decide) (by decide) (Nat.le_of_ble_eq_true rfl) (cL (by omega)) (sL (by omega)) dL_law_86 (fun q4 H hP hD hS => ?_)
  refine lv_astore (lv' := [(16, .ref q4), (15, .ref q3), (14, .ref q2), (13, .ref q1), (12, .ref q0), (11, .int (nI (dT d))), (10, .int 0), (9, .int 0), (8, .int 0), (7, .int 0), (6, .int 0), (5, .int 0), (4, .int (nI (dB d))), (3, .int (nI (dP d))), (0, .ref b), (1, .ref (adX 0)), (2, .int (nI turn))]) hx hb dL_law_88 hl (by decide) rfl (fun ls hl => ?_)
  refine lv_bipush (v := 8) hx hb dL_law_90 (by decide) ?_
  refine xt_newa (A := fun q => Hb.size ≤ q) (H0 := Hb) (atype := .int) (N' := 8) (ty := .int) hx hb (F.S.2.2.2.2 _ jl_8) rfl 0 rfl (fun _ h1 h2 => ra_i h1 h2) F.K hP hD hS (fun q h => h) rfl (by decide) (by decide) (Nat.le_of_ble_eq_true rfl) (cL (by omega)) (sL (by omega)) dL_law_92 (fun q5 H hP hD hS => ?_)
  refine lv_astore (lv' := [(17, .ref q5), (16, .ref q4), (15, .ref q3), (14, .ref q2), (13, .ref q1), (12, .ref q0), (11, .int (nI (dT d))), (10, .int 0), (9, .int 0), (8, .int 0), (7, .int 0), (6, .int 0), (5, .int 0), (4, .int (nI (dB d))), (3, .int (nI (dP d))), (0, .ref b), (1, .ref (adX 0)), (2, .int (nI turn))]) hx hb dL_law_94 hl (by decide) rfl (fun ls hl => ?_)
  refine lv_iconst (v := 3) hx hb dL_law_96 (by decide) ?_
  refine xt_newa (A := fun q => Hb.size ≤ q) (H0 := Hb) (atype := .int) (N' := 3) (ty := .int) hx hb (F.S.2.2.2.2 _ jl_8) rfl 0 rfl (fun _ h1 h2 => ra_i h1 h2) F.K hP hD hS (fun q h => h) rfl (by decide) (by decide) (Nat.le_of_ble_eq_true rfl) (cL (by omega)) (sL (by omega)) dL_law_97 (fun q6 H hP hD hS => ?_)
  refine lv_astore (lv' := [(18, .ref q6), (17, .ref q5), (16, .ref q4), (15, .ref q3), (14, .ref q2), (13, .ref q1), (12, .ref q0), (11, .int (nI (dT d))), (10, .int 0), (9, .int 0), (8, .int 0), (7, .int 0), (6, .int 0), (5, .int 0), (4, .int (nI (dB d))), (3, .int (nI (dP d))), (0, .ref b), (1, .ref (adX 0)), (2, .int (nI turn))]) hx hb dL_law_99 hl (by decide) rfl (fun ls hl => ?_)
  refine lv_bipush (v := 24) hx hb dL_law_101 (by decide) ?_
  refine xt_newa (A := fun q => Hb.size ≤ q) (H0 := Hb) (atype := .int) (N' := 24) (ty := .int) hx hb (F.S.2.2.2.2 _ jl_8) rfl 0 rfl (fun _ h1 h2 => ra_i h1 h2) F.K hP hD hS (fun q h => h) rfl (by decide) (by decide) (Nat.le_of_ble_eq_true rfl) (cL (by omega)) (sL (by omega)) dL_law_103 (fun q7 H hP hD hS => ?_)
  refine lv_astore (lv' := [(19, .ref q7), (18, .ref q6), (17, .ref q5), (16, .ref q4), (15, .ref q3), (14, .ref q2), (13, .ref q1), (12, .ref q0), (11, .int (nI (dT d))), (10, .int 0), (9, .int 0), (8, .int 0), (7, .int 0), (6, .int 0), (5, .int 0), (4, .int (nI (dB d))), (3, .int (nI (dP d))), (0, .ref b), (1, .ref (adX 0)), (2, .int (nI turn))]) hx hb dL_law_105 hl (by decide) rfl (fun ls hl => ?_)
  have hkb : ∀ q, q < Hb.size → H[q]? = Hb[q]? := fun q h => hS.2.1 q h (Nat.not_le.mpr h)
  have hP8 := arr8 (hP0.kept (fun k x hx => hkb x.1 (hP0 k x hx).lt)) hP
  have hlt8 : ∀ k, k < 8 → ad8 q0 q1 q2 q3 q4 q5 q6 q7 k < H.size := fun k hk => (hP8 k _ (wd_at hk)).lt
  have T : LT 8 (ad8 q0 q1 q2 q3 q4 q5 q6 q7) zX H.size := lt8 hq0z hq0l hD hlt8
  have hw : LWd s dC dI cy adX 8 (ad8 q0 q1 q2 q3 q4 q5 q6 q7) H.size (fun _ => True) σ (fun k => if k = 0 then r else fun _ => 0) H [] := ⟨hwb.X.kept (fun k x hx => hkb x.1 (hwb.X k x hx).lt), hP8, trivial, ⟨Nat.le_trans hwb.S.1 hS.1, fun q h1 h2 => (hkb q (Nat.lt_of_lt_of_le h1 hwb.S.1)).trans (hwb.S.2.1 q h1 h2), fun x hx => by cases hx⟩, Nat.le_refl _⟩
  have hown : ∀ i, i < 360 → (fun k => if k = 0 then r else fun _ => 0 : St) 0 i = oA d i := fun i hi => hr i hi
  generalize hzT : H.size = zT at T hw
  generalize had : ad8 q0 q1 q2 q3 q4 q5 q6 q7 = adT at T hw
  have ha : q0 = adT 0 ∧ q1 = adT 1 ∧ q2 = adT 2 ∧ q3 = adT 3 ∧ q4 = adT 4 ∧ q5 = adT 5 ∧ q6 = adT 6 ∧ q7 = adT 7 := by rw [← had]; exact ⟨rfl, rfl, rfl, rfl, rfl, rfl, rfl, rfl⟩
  obtain ⟨a0, a1, a2, a3, a4, a5, a6, a7⟩ := ha
  rw [a0, a1, a2, a3, a4, a5, a6, a7] at hl
  have kg := KG.T zT
  refine lv_iconst (v := nI 0) hx hb dL_law_107 (by decide) ?_
  refine lv_istore (lv' := [(20, .int (nI 0)), (19, .ref (adT 7)), (18, .ref (adT 6)), (17, .ref (adT 5)), (16, .ref (adT 4)), (15, .ref (adT 3)), (14, .ref (adT 2)), (13, .ref (adT 1)), (12, .ref (adT 0)), (11, .int (nI (dT d))), (10, .int 0), (9, .int 0), (8, .int 0), (7, .int 0), (6, .int 0), (5, .int 0), (4, .int (nI (dB d))), (3, .int (nI (dP d))), (0, .ref b), (1, .ref (adX 0)), (2, .int (nI turn))]) hx hb dL_law_108 hl (by decide) rfl (fun ls hl => ?_)
  refine law_p2 F T hC kg (turn := turn) (nc := nc + 8) (ns := ns + 427) (by omega) (by omega) (fun τ tf0 tf1 tfz H locs hw ls hl => ?_) 360 0 (by omega) _ hown (fun i _ => rfl) (fun j hj i => by show (if j = 0 then r else fun _ => 0 : Nat → Int32) i = 0; rw [if_neg (by omega)]) H [] hw ls (lv_sub hl [18, 19, 20, 17, 16, 9, 8, 7, 6, 5, 4, 3, 2, 1, 15, 14, 13, 12, 11, 10, 0] rfl)
  refine lv_bipush (v := 8) hx hb dL_law_170 (by decide) ?_
  refine lb_anew (Tx := hdD d) hAO F T hw ⟨cL (by omega), sL (by omega)⟩ dL_law_172 (fun aL H locs hw => ?_)
  refine lv_astore (lv' := [(20, .ref aL), (0, .ref b), (1, .ref (adX 0)), (2, .int (nI turn)), (3, .int (nI (dP d))), (4, .int (nI (dB d))), (11, .int (nI (dT d))), (12, .ref (adT 0)), (13, .ref (adT 1)), (14, .ref (adT 2)), (15, .ref (adT 3)), (16, .ref (adT 4)), (17, .ref (adT 5)), (18, .ref (adT 6)), (19, .ref (adT 7)), (5, .int 0), (6, .int 0), (7, .int 0), (8, .int 0), (9, .int 0), (10, .int 0)]) hx hb dL_law_175 hl (by decide) rfl (fun ls hl => ?_)
  refine lv_iconst (v := nI 0) hx hb dL_law_177 (by decide) ?_
  refine lv_istore (lv' := [(21, .int (nI 0)), (20, .ref aL), (0, .ref b), (1, .ref (adX 0)), (2, .int (nI turn)), (3, .int (nI (dP d))), (4, .int (nI (dB d))), (11, .int (nI (dT d))), (12, .ref (adT 0)), (13, .ref (adT 1)), (14, .ref (adT 2)), (15, .ref (adT 3)), (16, .ref (adT 4)), (17, .ref (adT 5)), (18, .ref (adT 6)), (19, .ref (adT 7)), (5, .int 0), (6, .int 0), (7, .int 0), (8, .int 0), (9, .int 0), (10, .int 0)]) hx hb dL_law_178 hl (by decide) rfl (fun ls hl => ?_)
  refine law_p3 F T hC (turn := turn) (nc := nc + 9) (ns := ns + 435) (by omega) (by omega) (fun qs vs H locs hw ls hl => ?_) (dP d) 0 (by omega) _ _ H locs hw ls (lv_sub hl [2, 3, 4, 5, 6, 16, 17, 18, 19, 20, 21, 7, 8, 9, 10, 11, 12, 13, 14, 15, 1, 0] rfl)
  have hw := LWd.gmap (G2 := GL dC dI cy s zT aL (dP d) qs vs (lnAt d 0)) hw (fun H h => h.congr (fun j _ => (List.append_nil _).symm))
  refine lv_iconst (v := nI 0) hx hb dL_law_253 (by decide) ?_
  refine lv_istore (lv' := [(21, .int (nI 0)), (0, .ref b), (1, .ref (adX 0)), (2, .int (nI turn)), (3, .int (nI (dP d))), (4, .int (nI (dB d))), (5, .int 0), (6, .int 0), (7, .int 0), (8, .int 0), (9, .int 0), (10, .int 0), (11, .int (nI (dT d))), (12, .ref (adT 0)), (13, .ref (adT 1)), (14, .ref (adT 2)), (15, .ref (adT 3)), (16, .ref (adT 4)), (17, .ref (adT 5)), (18, .ref (adT 6)), (19, .ref (adT 7)), (20, .ref aL)]) hx hb dL_law_254 hl (by decide) rfl (fun ls hl => ?_)
  refine law_p4 (turn := turn) (nc := nc + 9 + 80) (ns := ns + 435 + 10400) F T (by omega) (by omega) (fun σ τ qs vs hI tf0 tf1 tf2 tf3 tf4 tf5 tf6 H locs hw ls hl => ?_) (dB d) 0 (by omega) σ τ qs vs hI tf0 tf1 (fun i _ => tfz 2 (by decide) i) (fun i _ => tfz 3 (by decide) i) (fun i _ => tfz 4 (by decide) i) (fun i _ => tfz 5 (by decide) i) (fun i _ => by rw [hw_0]; exact tfz 6 (by decide) i) H locs hw ls (lv_sub hl [1, 2, 3, 4, 5, 6, 7, 8, 9, 10, 11, 12, 13, 14, 15, 16, 17, 18, 19, 20, 21, 0] rfl)
  refine lv_iconst (v := nI 0) hx hb dL_law_766 (by decide) ?_
  refine lv_istore (lv' := [(21, .int (nI 0)), (0, .ref b), (1, .ref (adX 0)), (2, .int (nI turn)), (3, .int (nI (dP d))), (4, .int (nI (dB d))), (5, .int 0), (6, .int 0), (7, .int (nI (sumTo (dto d) (dB d)))), (8, .int (nI (lyD d (dB d)))), (9, .int 0), (10, .int 0), (11, .int (nI (dT d))), (12, .ref (adT 0)), (13, .ref (adT 1)), (14, .ref (adT 2)), (15, .ref (adT 3)), (16, .ref (adT 4)), (17, .ref (adT 5)), (18, .ref (adT 6)), (19, .ref (adT 7)), (20, .ref aL)]) hx hb dL_law_767 hl (by decide) rfl (fun ls hl => ?_)
  refine law_p5 (turn := turn) (nc := nc + 9 + 80 + 720) (ns := ns + 435 + 10400 + 96000) F T (by omega) (by omega) (fun σ hI H locs hw ls hl => ?_) tf0 tf1 tf2 tf3 tf4 tf5 tf6 (dP d) 0 (by omega) σ hI H locs hw ls (lv_sub hl [1, 2, 3, 4, 5, 6, 7, 8, 9, 10, 11, 12, 13, 14, 15, 16, 17, 18, 19, 20, 21, 0] rfl)
  refine law_p6 (turn := turn) (nc := nc + 9 + 80 + 720) (ns := ns + 435 + 10400 + 96000) F T (by omega) (by omega) (fun d2 σ hd2 hI H locs hw ls hl => ?_) tf0 tf1 tf2 tf3 tf4 tf5 tf6 σ hI H locs hw ls hl
  have F := F.dr d2
  have hC := hI.1
  refine lv_iconst (v := nI 1) hx hb dL_law_1249 (by decide) ?_
  refine lv_istore (lv' := [(21, .int (nI 1)), (0, .ref b), (1, .ref (adX 0)), (2, .int (nI turn)), (3, .int (nI (dP d))), (4, .int (nI (dB d))), (5, .int (nI (opS d (dP d)))), (6, .int (nI (offD d (dP d)))), (7, .int (nI (sumTo (dto d) (dB d)))), (8, .int (nI (lyD d (dB d)))), (9, .int (nI (rmS d (dP d)))), (10, .int (nI (htS d (dP d)))), (11, .int (nI (dT d))), (12, .ref (adT 0)), (13, .ref (adT 1)), (14, .ref (adT 2)), (15, .ref (adT 3)), (16, .ref (adT 4)), (17, .ref (adT 5)), (18, .ref (adT 6)), (19, .ref (adT 7)), (20, .ref aL)]) hx hb dL_law_1250 hl (by decide) rfl (fun ls hl => ?_)
  refine law_p7 (turn := turn) (nc := nc + 9 + 80 + 720) (ns := ns + 435 + 10400 + 96000) F T hC kg (by omega) (by omega) tf3 (fun H locs hw ls hl => ?_) (dP d - 1) 1 (by omega) (by omega) H locs hw ls (lv_sub hl [1, 2, 3, 4, 5, 7, 13, 14, 15, 16, 17, 18, 19, 20, 0] rfl)
  refine lv_iconst (v := nI 0) hx hb dL_law_1359 (by decide) ?_
  refine lv_istore (lv' := [(21, .int (nI 0)), (0, .ref b), (1, .ref (adX 0)), (2, .int (nI turn)), (3, .int (nI (dP d))), (4, .int (nI (dB d))), (6, .int (nI (cntD d))), (12, .ref (adT 0)), (13, .ref (adT 1)), (14, .ref (adT 2)), (15, .ref (adT 3)), (16, .ref (adT 4)), (17, .ref (adT 5)), (18, .ref (adT 6)), (19, .ref (adT 7))]) hx hb dL_law_1360 hl (by decide) rfl (fun ls hl => ?_)
  refine lv_iconst (v := nI 0) hx hb dL_law_1362 (by decide) ?_
  refine lv_istore (lv' := [(22, .int (nI 0)), (21, .int (nI 0)), (0, .ref b), (1, .ref (adX 0)), (2, .int (nI turn)), (3, .int (nI (dP d))), (4, .int (nI (dB d))), (6, .int (nI (cntD d))), (12, .ref (adT 0)), (13, .ref (adT 1)), (14, .ref (adT 2)), (15, .ref (adT 3)), (16, .ref (adT 4)), (17, .ref (adT 5)), (18, .ref (adT 6)), (19, .ref (adT 7))]) hx hb dL_law_1363 hl (by decide) rfl (fun ls hl => ?_)
  refine lv_iconst (v := nI 0) hx hb dL_law_1365 (by decide) ?_
  refine lv_istore (lv' := [(23, .int (nI 0)), (22, .int (nI 0)), (21, .int (nI 0)), (0, .ref b), (1, .ref (adX 0)), (2, .int (nI turn)), (3, .int (nI (dP d))), (4, .int (nI (dB d))), (6, .int (nI (cntD d))), (12, .ref (adT 0)), (13, .ref (adT 1)), (14, .ref (adT 2)), (15, .ref (adT 3)), (16, .ref (adT 4)), (17, .ref (adT 5)), (18, .ref (adT 6)), (19, .ref (adT 7))]) hx hb dL_law_1366 hl (by decide) rfl (fun ls hl => ?_)
  refine law_p8 (turn := turn) (nc := nc + 9 + 80 + 720) (ns := ns + 435 + 10400 + 96000) F T hC kg (by omega) (by omega) tf0 (fun H locs hw ls hl => ?_) 360 0 (by omega) H locs hw ls (lv_sub hl [3, 4, 5, 6, 7, 8, 9, 10, 11, 12, 13, 14, 15, 16, 2, 1, 0] rfl)
  refine lv_iconst (v := nI 0) hx hb dL_law_1509 (by decide) ?_
  refine lv_istore (lv' := [(23, .int (nI 0)), (0, .ref b), (1, .ref (adX 0)), (2, .int (nI turn)), (3, .int (nI (dP d))), (4, .int (nI (dB d))), (6, .int (nI (cntD d))), (12, .ref (adT 0)), (13, .ref (adT 1)), (14, .ref (adT 2)), (15, .ref (adT 3)), (16, .ref (adT 4)), (17, .ref (adT 5)), (18, .ref (adT 6)), (19, .ref (adT 7))]) hx hb dL_law_1510 hl (by decide) rfl (fun ls hl => ?_)
  refine law_p10 (turn := turn) (nc := nc + 9 + 80 + 720) (ns := ns + 435 + 10400 + 96000) F T hC kg hbl (by omega) (by omega) (fun H locs hw ls hl => ?_) 3 0 (by omega) H locs hw ls (lv_sub hl [1, 2, 3, 4, 5, 6, 7, 8, 9, 10, 11, 12, 13, 14, 0] rfl)
  obtain ⟨-, σM, hall⟩ := id hI
  obtain ⟨σ2, σM2, d3, x1, x2, x3⟩ := sd_acts hbl xs hall hp1 (k := 70 + 4 * turn) (by omega)
  refine lv_aload_n hx hb dL_law_1684 rfl (lv_at hl 1 rfl) ?_
  refine lv_aload_n hx hb dL_law_1685 rfl (lv_at hl 0 rfl) ?_
  refine lv_bipush (v := 70) hx hb dL_law_1686 (by decide) ?_
  refine lv_iconst (v := 4) hx hb dL_law_1688 (by decide) ?_
  refine lv_iload_n hx hb dL_law_1689 rfl (lv_at hl 2 rfl) ?_
  refine lv_imul hx hb dL_law_1690 ?_
  rw [show (((4 : Int32) * (nI turn)) : Int32) = nI (4 * turn) from pk_mul 4 turn]
  refine lv_iadd hx hb dL_law_1691 ?_
  rw [show (((70 : Int32) + (nI (4 * turn))) : Int32) = nI (70 + (4 * turn)) from nI_add 70 (4 * turn)]
  refine lx_vx (As := [.ref (adX 0), .ref b, .int (nI (70 + 4 * turn))]) (rest := []) F T kg (mL_acts l dC dI adX cy F.J b bL xs σ (nI (70 + 4 * turn)) σ2 x1) (va_cwS 3 F.S.2.2.2.2 gL_law_L_acts rfl rfl rfl dmL_acts ⟨Nat.le_of_ble_eq_true rfl, Nat.le_of_ble_eq_true rfl⟩) hw rfl rfl hl.1 (Nat.le_of_ble_eq_true rfl) ⟨cL (by omega), sL (by omega)⟩ dL_law_1692 (fun H locs hw => ?_)
  refine lv_iinc (v := nI (turn + 1)) (lv' := [(2, .int (nI (turn + 1))), (0, .ref b), (1, .ref (adX 0)), (3, .int (nI (dP d))), (4, .int (nI (dB d))), (6, .int (nI (cntD d))), (12, .ref (adT 0)), (13, .ref (adT 1)), (14, .ref (adT 2)), (15, .ref (adT 3)), (16, .ref (adT 4)), (17, .ref (adT 5)), (18, .ref (adT 6)), (19, .ref (adT 7))]) hx hb dL_law_1695 hl (k := 2) rfl (nI_1 turn) (by decide) rfl (fun ls hl => ?_)
  refine lv_goto (tgt := 15) hx hb dL_law_1698 (by decide) ?_
  refine lx_mono (k := nc + 1000) (n' := ns + 110000) (by omega) (by omega) ?_
  exact kk d2 σ2 d3 hd2 (CI.of x2) x3 H locs ⟨hw.X, fun k x hx => by simp [wd] at hx, trivial, hw.S, Nat.le_trans T.zz hw.z⟩ ls (lv_sub hl [1, 2, 0] rfl)
end LB
