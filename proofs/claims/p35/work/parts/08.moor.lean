def fX4_settleHome (σ : St) (a1 : Int32) (a2 : Int32) (a3 : Int32) : Option St :=
  gd (okI a1 24) <| nm (su σ 8 a1.toNatClampNeg a2) fun σ2 => if a2 = (-15 : Int32) then (some σ2) else (gd (okI a2 8) <| gd (okI a2 8) <| nm (su σ2 11 a2.toNatClampNeg ((σ2 11 a2.toNatClampNeg) + 1)) fun σ6 => gd (okI a2 8) <| gd (okI a2 8) <| nm (su σ6 12 a2.toNatClampNeg ((σ6 12 a2.toNatClampNeg) + a3)) fun σ9 => some σ9)
abbrev rmX4_settleHome : Room := { frames := 0, cells := 0, slots := 0, locals := 0 }
theorem dmX4_settleHome : yX4_settleHome.cls = RX4 ∧ yX4_settleHome.cls ≠ "java/lang/invoke/MethodHandle" ∧ yX4_settleHome.cls ≠ "java/lang/invoke/VarHandle" ∧ (parseMethodDescriptor yX4_settleHome.desc).map (fun d => d.parameters.length) = some 3 := by decide +kernel
theorem iX4_settleHome_X4 : ∀ w ∈ wsX40, w ∈ wsX4_settleHome := fun w h => List.mem_cons_of_mem _ (List.mem_append_right _ (h))
set_option maxHeartbeats 8000000 in
set_option maxRecDepth 100000 in
theorem mX4_settleHome (l : Launch) (dC : Nat → ClassId) (dI : Nat → Nat → Nat) (ad : Nat → Nat) (cy : Nat → ClassId) (hJ : WJ 93 ad) (σ : St) (a1 : Int32) (a2 : Int32) (a3 : Int32) (res : St) (hf : fX4_settleHome σ a1 a2 a3 = some res) : CMv l yX4_settleHome wsX4_settleHome rmX4_settleHome (dC, dI) (tysX cy) 93 ad (layX ad cy) [.ref (ad 7), .int a1, .int a2, .int a3] σ res := by
  refine Met.ofW (cc := cX4_settleHome) (maxL := 4) (ret := none) (by decide) rfl ?_
  intro p e s m args below meth c s₁ B hml hv
  obtain ⟨hargs, hP, hK⟩ := hv
  have hx := B.exec
  have hb := B.bytes
  have hr := B.returns
  have hts := atoms_spec (ws := wsX4_settleHome) B.pre
  have hown : s.vm.findClass RX4 = some m.cls := findClass_of_methodNamed B.named
  have hlocks := B.notSynchronized
  have w1 := hts (.fieldLink RX4 9 "PierRings$Moorings" "homes" "[I") (List.mem_of_getElem? (i := 1) rfl)
  have w2 := hts (.fieldLink RX4 21 "PierRings$Moorings" "homeBarges" "[I") (List.mem_of_getElem? (i := 2) rfl)
  have w3 := hts (.fieldLink RX4 24 "PierRings$Moorings" "homeTons" "[I") (List.mem_of_getElem? (i := 3) rfl)
  have hS : va_S (WA 93 ad) s.heap s.heap [] := va_S.rf
  have hfr : entryFrame m args 4 = F0 m 0 ((lg_sl [.ref (ad 7), .int a1, .int a2, .int a3] ++ List.replicate (4 - (lg_sl [.ref (ad 7), .int a1, .int a2, .int a3]).length) Slot.unset).toArray) [] := by rw [hargs]; exact lg_entry_eq _ _ _
  rw [hfr]
  have hl := lv_entry ([.ref (ad 7), .int a1, .int a2, .int a3]) (n := 4) (Nat.le_of_ble_eq_true rfl)
  generalize (lg_sl [.ref (ad 7), .int a1, .int a2, .int a3] ++ List.replicate (4 - (lg_sl [.ref (ad 7), .int a1, .int a2, .int a3]).length) Slot.unset).toArray = ls at hl ⊢
  have hl : lv_has ls 4 [(0, .ref (ad 7)), (1, .int a1), (2, .int a2), (3, .int a3)] := hl
  clear hfr hargs B
  show W p l e rmX4_settleHome s m args below meth c s.heap [] 0 0 (MQ below (Qvw (dC, dI) 93 ad (layX ad cy) res) args s 0 0 (WA 93 ad)) (F0 m 0 ls [])
  unfold fX4_settleHome at hf
  obtain ⟨H, eH⟩ : ∃ H : Heap, H = s.heap := ⟨_, rfl⟩
  rw [← eH] at hP
  have hS : va_S (WA 93 ad) s.heap H [] := by rw [eH]; exact hS
  suffices K : W p l e rmX4_settleHome s m args below meth c H [] 0 0 (MQ below (Qvw (dC, dI) 93 ad (layX ad cy) res) args s 0 0 (WA 93 ad)) (F0 m 0 ls []) by rw [eH] at K; exact K
  clear eH
  obtain ⟨locs, elocs⟩ : ∃ z : List Loc, z = [] := ⟨_, rfl⟩
  rw [← elocs] at hS ⊢
  refine lv_aload_n hx hb dX4_settleHome_0 rfl (lv_at hl 0 rfl) ?_
  refine xt_get (ci := 4) (C := RX4) (T := TX4) (n := 9) (v := .ref (ad 8)) hx hb hts iX4_settleHome_X4 hown hK hP 7 (by decide) (LX4_obj ad cy _) rfl 0 (by decide) w1 rfl dX4_settleHome_1 ?_
  refine lv_iload_n hx hb dX4_settleHome_4 rfl (lv_at hl 1 rfl) ?_
  refine lv_iload_n hx hb dX4_settleHome_5 rfl (lv_at hl 2 rfl) ?_
  obtain ⟨g1, hf⟩ := gd_some hf
  refine xt_iast hx hb hK hP hJ hS 8 (by decide) 0 (LX4_homes ad cy) rfl g1 dX4_settleHome_6 (fun H locs hP hS => ?_)
  obtain ⟨σ2, eσ2⟩ : ∃ z : St, z = su σ 8 a1.toNatClampNeg a2 := ⟨_, rfl⟩
  rw [← eσ2] at hP
  have hf := nm_to hf eσ2
  refine lv_iload_n hx hb dX4_settleHome_7 rfl (lv_at hl 2 rfl) ?_
  refine lv_bipush (v := (-15)) hx hb dX4_settleHome_8 (by decide) ?_
  refine lv_icmp_eq (tgt := 33) hx hb dX4_settleHome_10 (by decide) (fun c3 => ?_) (fun c3 => ?_)
  · have hf := (if_pos c3).symm.trans hf
    exact xt_vret hx hb hr hP hS (Option.some.inj hf) dX4_settleHome_33 hlocks
  · have hf := (if_neg c3).symm.trans hf
    refine lv_aload_n hx hb dX4_settleHome_13 rfl (lv_at hl 0 rfl) ?_
    refine xt_get (ci := 4) (C := RX4) (T := TX4) (n := 9) (v := .ref (ad 11)) hx hb hts iX4_settleHome_X4 hown hK hP 7 (by decide) (LX4_obj ad cy _) rfl 3 (by decide) w2 rfl dX4_settleHome_14 ?_
    refine lv_iload_n hx hb dX4_settleHome_17 rfl (lv_at hl 2 rfl) ?_
    refine lv_dup2_11 hx hb dX4_settleHome_18 rfl rfl ?_
    obtain ⟨g4, hf⟩ := gd_some hf
    refine xt_iald hx hb hK hP 11 (by decide) 0 (LX4_homeBarges ad cy _) rfl g4 dX4_settleHome_19 ?_
    refine lv_iconst (v := 1) hx hb dX4_settleHome_20 (by decide) ?_
    refine lv_iadd hx hb dX4_settleHome_21 ?_
    obtain ⟨g5, hf⟩ := gd_some hf
    refine xt_iast hx hb hK hP hJ hS 11 (by decide) 0 (LX4_homeBarges ad cy) rfl g5 dX4_settleHome_22 (fun H locs hP hS => ?_)
    obtain ⟨σ6, eσ6⟩ : ∃ z : St, z = su σ2 11 a2.toNatClampNeg ((σ2 11 a2.toNatClampNeg) + 1) := ⟨_, rfl⟩
    rw [← eσ6] at hP
    have hf := nm_to hf eσ6
    refine lv_aload_n hx hb dX4_settleHome_23 rfl (lv_at hl 0 rfl) ?_
    refine xt_get (ci := 4) (C := RX4) (T := TX4) (n := 9) (v := .ref (ad 12)) hx hb hts iX4_settleHome_X4 hown hK hP 7 (by decide) (LX4_obj ad cy _) rfl 4 (by decide) w3 rfl dX4_settleHome_24 ?_
    refine lv_iload_n hx hb dX4_settleHome_27 rfl (lv_at hl 2 rfl) ?_
    refine lv_dup2_11 hx hb dX4_settleHome_28 rfl rfl ?_
    obtain ⟨g7, hf⟩ := gd_some hf
    refine xt_iald hx hb hK hP 12 (by decide) 0 (LX4_homeTons ad cy _) rfl g7 dX4_settleHome_29 ?_
    refine lv_iload_n hx hb dX4_settleHome_30 rfl (lv_at hl 3 rfl) ?_
    refine lv_iadd hx hb dX4_settleHome_31 ?_
    obtain ⟨g8, hf⟩ := gd_some hf
    refine xt_iast hx hb hK hP hJ hS 12 (by decide) 0 (LX4_homeTons ad cy) rfl g8 dX4_settleHome_32 (fun H locs hP hS => ?_)
    obtain ⟨σ9, eσ9⟩ : ∃ z : St, z = su σ6 12 a2.toNatClampNeg ((σ6 12 a2.toNatClampNeg) + a3) := ⟨_, rfl⟩
    rw [← eσ9] at hP
    have hf := nm_to hf eσ9
    exact xt_vret hx hb hr hP hS (Option.some.inj hf) dX4_settleHome_33 hlocks
def fX4_findRoom_B109 (h : Nat) (cx : Nat) (σ : St) : Option St :=
  some σ
def fX4_findRoom_L32 (h : Nat) (cx : Nat) (x1 : Int32) (x4 : Int32) (K32_109 : St → Option St) : Nat → St → Int32 → Option St
  | 0, _, _ => none
  | n32 + 1, σ, x5 => if (σ (15 + 9 * cx) 5) ≤ x5 then (K32_109 σ) else (gd (okZ (σ (15 + 9 * cx) 5)) <| gd (okI (jrem (x4 + x5) (σ (15 + 9 * cx) 5)) 80) <| gd (okI (σ ((15 + 9 * cx) + 1) (jrem (x4 + x5) (σ (15 + 9 * cx) 5)).toNatClampNeg) 80) <| nm (σ ((15 + 9 * cx) + 3) (σ ((15 + 9 * cx) + 1) (jrem (x4 + x5) (σ (15 + 9 * cx) 5)).toNatClampNeg).toNatClampNeg) fun v5 => gd (okI v5 8) <| gd (okI x1 24) <| bd (fX1_roomOf h σ v5) fun r8 => if r8 < ((σ 14 v5.toNatClampNeg) + (σ ((33 + 5 * h) + 4) x1.toNatClampNeg)) then (nm (x5 + 1) fun v10 => (fX4_findRoom_L32 h cx x1 x4 K32_109 n32) σ v10) else (gd (okI x1 24) <| nm (su σ 9 x1.toNatClampNeg v5) fun σ12 => gd (okI x1 24) <| nm (su σ12 10 x1.toNatClampNeg x5) fun σ14 => some σ14))
def fX4_findRoom (h : Nat) (cx : Nat) (σ : St) (a1 : Int32) : Option St :=
  bd (fX1_pointOf h σ a1) fun r15 => bd (fX0_placeFrom cx σ r15) fun r16 => gd (okI a1 24) <| nm (su σ 9 a1.toNatClampNeg (-15)) fun σ18 => gd (okI a1 24) <| nm (su σ18 10 a1.toNatClampNeg (σ18 (15 + 9 * cx) 5)) fun σ20 => fX4_findRoom_L32 h cx a1 r16 (fun σ => fX4_findRoom_B109 h cx σ) 1000 σ20 0
abbrev rmX4_findRoom : Room := { frames := 1, cells := 0, slots := 0, locals := 22 }
theorem dmX4_findRoom : yX4_findRoom.cls = RX4 ∧ yX4_findRoom.cls ≠ "java/lang/invoke/MethodHandle" ∧ yX4_findRoom.cls ≠ "java/lang/invoke/VarHandle" ∧ (parseMethodDescriptor yX4_findRoom.desc).map (fun d => d.parameters.length) = some 3 := by decide +kernel
theorem iX4_findRoom_X0 : ∀ w ∈ wsX00, w ∈ wsX4_findRoom := fun w h => List.mem_cons_of_mem _ (List.mem_append_left _ (List.mem_append_right _ (h)))
theorem iX4_findRoom_X1 : ∀ w ∈ wsX10, w ∈ wsX4_findRoom := fun w h => List.mem_cons_of_mem _ (List.mem_append_right _ (h))
theorem iX4_findRoom_X4 : ∀ w ∈ wsX40, w ∈ wsX4_findRoom := fun w h => List.mem_cons_of_mem _ (List.mem_append_left _ (List.mem_append_left _ (List.mem_append_right _ (h))))
set_option maxHeartbeats 8000000 in
set_option maxRecDepth 100000 in
theorem mX4_findRoom (l : Launch) (dC : Nat → ClassId) (dI : Nat → Nat → Nat) (ad : Nat → Nat) (cy : Nat → ClassId) (hJ : WJ 93 ad) (h : Nat) (hh : h < 12) (cx : Nat) (hcx : cx < 2) (σ : St) (a1 : Int32) (res : St) (hf : fX4_findRoom h cx σ a1 = some res) : CMv l yX4_findRoom wsX4_findRoom rmX4_findRoom (dC, dI) (tysX cy) 93 ad (layX ad cy) [.ref (ad 7), .int a1, .ref (ad (33 + 5 * h)), .ref (ad (15 + 9 * cx))] σ res := by
  refine Met.ofW (cc := cX4_findRoom) (maxL := 7) (ret := none) (by decide) rfl ?_
  intro p e s m args below meth c s₁ B hml hv
  obtain ⟨hargs, hP, hK⟩ := hv
  have hx := B.exec
  have hb := B.bytes
  have hr := B.returns
  have hts := atoms_spec (ws := wsX4_findRoom) B.pre
  have hown : s.vm.findClass RX4 = some m.cls := findClass_of_methodNamed B.named
  have hlocks := B.notSynchronized
  have w1 := hts (.fieldLink RX4 15 "PierRings$Moorings" "liesAt" "[I") (List.mem_of_getElem? (i := 1) rfl)
  have w2 := hts (.fieldLink RX4 18 "PierRings$Moorings" "passed" "[I") (List.mem_of_getElem? (i := 2) rfl)
  have w3 := hts (.fieldLink RX4 78 "PierRings$Circle" "count" "I") (List.mem_of_getElem? (i := 3) rfl)
  have w4 := hts (.fieldLink RX4 81 "PierRings$Circle" "owner" "[I") (List.mem_of_getElem? (i := 4) rfl)
  have w5 := hts (.fieldLink RX4 84 "PierRings$Circle" "nodeByPlace" "[I") (List.mem_of_getElem? (i := 5) rfl)
  have w6 := hts (.fieldLink RX4 30 "PierRings$Moorings" "lyingTons" "[I") (List.mem_of_getElem? (i := 6) rfl)
  have w7 := hts (.fieldLink RX4 60 "PierRings$Harbour" "tons" "[I") (List.mem_of_getElem? (i := 7) rfl)
  have hS : va_S (WA 93 ad) s.heap s.heap [] := va_S.rf
  have hfr : entryFrame m args 7 = F0 m 0 ((lg_sl [.ref (ad 7), .int a1, .ref (ad (33 + 5 * h)), .ref (ad (15 + 9 * cx))] ++ List.replicate (7 - (lg_sl [.ref (ad 7), .int a1, .ref (ad (33 + 5 * h)), .ref (ad (15 + 9 * cx))]).length) Slot.unset).toArray) [] := by rw [hargs]; exact lg_entry_eq _ _ _
  rw [hfr]
  have hl := lv_entry ([.ref (ad 7), .int a1, .ref (ad (33 + 5 * h)), .ref (ad (15 + 9 * cx))]) (n := 7) (Nat.le_of_ble_eq_true rfl)
  generalize (lg_sl [.ref (ad 7), .int a1, .ref (ad (33 + 5 * h)), .ref (ad (15 + 9 * cx))] ++ List.replicate (7 - (lg_sl [.ref (ad 7), .int a1, .ref (ad (33 + 5 * h)), .ref (ad (15 + 9 * cx))]).length) Slot.unset).toArray = ls at hl ⊢
  have hl : lv_has ls 7 [(0, .ref (ad 7)), (1, .int a1), (2, .ref (ad (33 + 5 * h))), (3, .ref (ad (15 + 9 * cx)))] := hl
  clear hfr hargs B
  show W p l e rmX4_findRoom s m args below meth c s.heap [] 0 0 (MQ below (Qvw (dC, dI) 93 ad (layX ad cy) res) args s 0 0 (WA 93 ad)) (F0 m 0 ls [])
  have kB109 : ∀ (σ : St), fX4_findRoom_B109 h cx σ = some res → ∀ (H : Heap) (locs : List Loc), va_P (dC, dI) vwCl (wd 93 ad (layX ad cy) σ) H → va_S (WA 93 ad) s.heap H locs → ∀ (ls : Array Slot), lv_has ls 7 [] → W p l e rmX4_findRoom s m args below meth c H locs 0 0 (MQ below (Qvw (dC, dI) 93 ad (layX ad cy) res) args s 0 0 (WA 93 ad)) (F0 m 109 ls []) := by
    intro σ hf H locs hP hS ls hl
    unfold fX4_findRoom_B109 at hf
    exact xt_vret hx hb hr hP hS (Option.some.inj hf) dX4_findRoom_109 hlocks
  have loop32 : ∀ (x1 : Int32) (x4 : Int32) (n32 : Nat) (σ : St) (x5 : Int32), fX4_findRoom_L32 h cx x1 x4 (fun σ => fX4_findRoom_B109 h cx σ) n32 σ x5 = some res → ∀ (H : Heap) (locs : List Loc), va_P (dC, dI) vwCl (wd 93 ad (layX ad cy) σ) H → va_S (WA 93 ad) s.heap H locs → ∀ (ls : Array Slot), lv_has ls 7 [(0, .ref (ad 7)), (1, .int x1), (2, .ref (ad (33 + 5 * h))), (3, .ref (ad (15 + 9 * cx))), (4, .int x4), (5, .int x5)] → W p l e rmX4_findRoom s m args below meth c H locs 0 0 (MQ below (Qvw (dC, dI) 93 ad (layX ad cy) res) args s 0 0 (WA 93 ad)) (F0 m 32 ls []) := by
    intro x1 x4 n32
    induction n32 with
    | zero => intro σ x5 hf; simp [fX4_findRoom_L32] at hf
    | succ n32 ih32 =>
      intro σ x5 hf H locs hP hS ls hl
      rw [fX4_findRoom_L32] at hf
      refine lv_iload hx hb dX4_findRoom_32 (lv_at hl 5 rfl) ?_
      refine lv_aload_n hx hb dX4_findRoom_34 rfl (lv_at hl 3 rfl) ?_
      refine xt_get (ci := 0) (C := RX0) (T := TX0) (n := 10) (v := .int (σ (15 + 9 * cx) 5)) hx hb hts iX4_findRoom_X0 hown hK hP (15 + 9 * cx) (by omega) (LX0_obj ad cy cx hcx _) rfl 5 (by decide) w3 rfl dX4_findRoom_35 ?_
      refine lv_icmp_ge (tgt := 109) hx hb dX4_findRoom_38 (by decide) (fun c1 => ?_) (fun c1 => ?_)
      · have hf := (if_pos c1).symm.trans hf
        exact kB109 σ hf H locs hP hS ls (lv_sub hl [] rfl)
      · have hf := (if_neg c1).symm.trans hf
        refine lv_aload_n hx hb dX4_findRoom_41 rfl (lv_at hl 3 rfl) ?_
        refine xt_get (ci := 0) (C := RX0) (T := TX0) (n := 10) (v := .ref (ad ((15 + 9 * cx) + 3))) hx hb hts iX4_findRoom_X0 hown hK hP (15 + 9 * cx) (by omega) (LX0_obj ad cy cx hcx _) rfl 2 (by decide) w4 rfl dX4_findRoom_42 ?_
        refine lv_aload_n hx hb dX4_findRoom_45 rfl (lv_at hl 3 rfl) ?_
        refine xt_get (ci := 0) (C := RX0) (T := TX0) (n := 10) (v := .ref (ad ((15 + 9 * cx) + 1))) hx hb hts iX4_findRoom_X0 hown hK hP (15 + 9 * cx) (by omega) (LX0_obj ad cy cx hcx _) rfl 0 (by decide) w5 rfl dX4_findRoom_46 ?_
        refine lv_iload hx hb dX4_findRoom_49 (lv_at hl 4 rfl) ?_
        refine lv_iload hx hb dX4_findRoom_51 (lv_at hl 5 rfl) ?_
        refine lv_iadd hx hb dX4_findRoom_53 ?_
        refine lv_aload_n hx hb dX4_findRoom_54 rfl (lv_at hl 3 rfl) ?_
        refine xt_get (ci := 0) (C := RX0) (T := TX0) (n := 10) (v := .int (σ (15 + 9 * cx) 5)) hx hb hts iX4_findRoom_X0 hown hK hP (15 + 9 * cx) (by omega) (LX0_obj ad cy cx hcx _) rfl 5 (by decide) w3 rfl dX4_findRoom_55 ?_
        obtain ⟨g2, hf⟩ := gd_some hf
        refine xt_irem hx hb dX4_findRoom_58 (okZ_ne g2) ?_
        obtain ⟨g3, hf⟩ := gd_some hf
        refine xt_iald hx hb hK hP ((15 + 9 * cx) + 1) (by omega) 0 (LX0_nodeByPlace ad cy cx hcx _) rfl g3 dX4_findRoom_59 ?_
        obtain ⟨g4, hf⟩ := gd_some hf
        refine xt_iald hx hb hK hP ((15 + 9 * cx) + 3) (by omega) 0 (LX0_owner ad cy cx hcx _) rfl g4 dX4_findRoom_60 ?_
        refine lv_topi (fun v5 ev5 => ?_)
        have hf := nm_to hf ev5
        refine lv_istore (lv' := [(6, .int v5), (0, .ref (ad 7)), (1, .int x1), (2, .ref (ad (33 + 5 * h))), (3, .ref (ad (15 + 9 * cx))), (4, .int x4), (5, .int x5)]) hx hb dX4_findRoom_61 hl (by decide) rfl (fun ls hl => ?_)
        refine lv_aload_n hx hb dX4_findRoom_63 rfl (lv_at hl 1 rfl) ?_
        refine xt_get (ci := 4) (C := RX4) (T := TX4) (n := 9) (v := .ref (ad 14)) hx hb hts iX4_findRoom_X4 hown hK hP 7 (by decide) (LX4_obj ad cy _) rfl 6 (by decide) w6 rfl dX4_findRoom_64 ?_
        refine lv_iload hx hb dX4_findRoom_67 (lv_at hl 0 rfl) ?_
        obtain ⟨g6, hf⟩ := gd_some hf
        refine xt_iald hx hb hK hP 14 (by decide) 0 (LX4_lyingTons ad cy _) rfl g6 dX4_findRoom_69 ?_
        refine lv_aload_n hx hb dX4_findRoom_70 rfl (lv_at hl 3 rfl) ?_
        refine xt_get (ci := 1) (C := RX1) (T := TX1) (n := 8) (v := .ref (ad ((33 + 5 * h) + 4))) hx hb hts iX4_findRoom_X1 hown hK hP (33 + 5 * h) (by omega) (LX1_obj ad cy h hh _) rfl 3 (by decide) w7 rfl dX4_findRoom_71 ?_
        refine lv_iload_n hx hb dX4_findRoom_74 rfl (lv_at hl 2 rfl) ?_
        obtain ⟨g7, hf⟩ := gd_some hf
        refine xt_iald hx hb hK hP ((33 + 5 * h) + 4) (by omega) 0 (LX1_tons ad cy h hh _) rfl g7 dX4_findRoom_75 ?_
        refine lv_iadd hx hb dX4_findRoom_76 ?_
        refine lv_aload_n hx hb dX4_findRoom_77 rfl (lv_at hl 3 rfl) ?_
        refine lv_iload hx hb dX4_findRoom_78 (lv_at hl 0 rfl) ?_
        obtain ⟨r8, qr8, hf⟩ := bd_some hf
        refine xt_callVi (As := [.int v5]) (rest := [.int ((σ 14 v5.toNatClampNeg) + (σ ((33 + 5 * h) + 4) x1.toNatClampNeg))]) (C := RX1) (ci := 1) ⟨hx, hb, hml, hown, hts⟩ (33 + 5 * h) (mX1_roomOf l dC dI ad cy hJ h hh σ v5 r8 qr8) (cwV 1 hts gX4_findRoom_X1_roomOf rfl rfl rfl dmX1_roomOf ⟨Nat.le_of_ble_eq_true rfl, Nat.le_of_ble_eq_true rfl⟩) hK hP hS (by omega) (LX1_obj ad cy h hh _) rfl rfl rfl hl.1 (Nat.le_of_ble_eq_true rfl) ⟨Nat.zero_le _, Nat.zero_le _⟩ dX4_findRoom_80 (fun H locs hP hS => ?_)
        refine lv_icmp_gt (tgt := 103) hx hb dX4_findRoom_83 (by decide) (fun c9 => ?_) (fun c9 => ?_)
        · have hf := (if_pos c9).symm.trans hf
          obtain ⟨v10, ev10⟩ : ∃ y : Int32, y = x5 + 1 := ⟨_, rfl⟩
          have hf := nm_to hf ev10
          refine lv_iinc (v := v10) (lv' := [(5, .int v10), (6, .int v5), (0, .ref (ad 7)), (1, .int x1), (2, .ref (ad (33 + 5 * h))), (3, .ref (ad (15 + 9 * cx))), (4, .int x4)]) hx hb dX4_findRoom_103 hl (k := 6) rfl (by rw [ev10]; rfl) (by decide) rfl (fun ls hl => ?_)
          refine lv_goto (tgt := 32) hx hb dX4_findRoom_106 (by decide) ?_
          exact ih32 σ v10 hf H locs hP hS ls (lv_sub hl [2, 3, 4, 5, 6, 0] rfl)
        · have hf := (if_neg c9).symm.trans hf
          refine lv_aload_n hx hb dX4_findRoom_86 rfl (lv_at hl 1 rfl) ?_
          refine xt_get (ci := 4) (C := RX4) (T := TX4) (n := 9) (v := .ref (ad 9)) hx hb hts iX4_findRoom_X4 hown hK hP 7 (by decide) (LX4_obj ad cy _) rfl 1 (by decide) w1 rfl dX4_findRoom_87 ?_
          refine lv_iload_n hx hb dX4_findRoom_90 rfl (lv_at hl 2 rfl) ?_
          refine lv_iload hx hb dX4_findRoom_91 (lv_at hl 0 rfl) ?_
          obtain ⟨g11, hf⟩ := gd_some hf
          refine xt_iast hx hb hK hP hJ hS 9 (by decide) 0 (LX4_liesAt ad cy) rfl g11 dX4_findRoom_93 (fun H locs hP hS => ?_)
          obtain ⟨σ12, eσ12⟩ : ∃ z : St, z = su σ 9 x1.toNatClampNeg v5 := ⟨_, rfl⟩
          rw [← eσ12] at hP
          have hf := nm_to hf eσ12
          refine lv_aload_n hx hb dX4_findRoom_94 rfl (lv_at hl 1 rfl) ?_
          refine xt_get (ci := 4) (C := RX4) (T := TX4) (n := 9) (v := .ref (ad 10)) hx hb hts iX4_findRoom_X4 hown hK hP 7 (by decide) (LX4_obj ad cy _) rfl 2 (by decide) w2 rfl dX4_findRoom_95 ?_
          refine lv_iload_n hx hb dX4_findRoom_98 rfl (lv_at hl 2 rfl) ?_
          refine lv_iload hx hb dX4_findRoom_99 (lv_at hl 6 rfl) ?_
          obtain ⟨g13, hf⟩ := gd_some hf
          refine xt_iast hx hb hK hP hJ hS 10 (by decide) 0 (LX4_passed ad cy) rfl g13 dX4_findRoom_101 (fun H locs hP hS => ?_)
          obtain ⟨σ14, eσ14⟩ : ∃ z : St, z = su σ12 10 x1.toNatClampNeg x5 := ⟨_, rfl⟩
          rw [← eσ14] at hP
          have hf := nm_to hf eσ14
          exact xt_vret hx hb hr hP hS (Option.some.inj hf) dX4_findRoom_102 hlocks
  unfold fX4_findRoom at hf
  obtain ⟨H, eH⟩ : ∃ H : Heap, H = s.heap := ⟨_, rfl⟩
  rw [← eH] at hP
  have hS : va_S (WA 93 ad) s.heap H [] := by rw [eH]; exact hS
  suffices K : W p l e rmX4_findRoom s m args below meth c H [] 0 0 (MQ below (Qvw (dC, dI) 93 ad (layX ad cy) res) args s 0 0 (WA 93 ad)) (F0 m 0 ls []) by rw [eH] at K; exact K
  clear eH
  obtain ⟨locs, elocs⟩ : ∃ z : List Loc, z = [] := ⟨_, rfl⟩
  rw [← elocs] at hS ⊢
  refine lv_aload_n hx hb dX4_findRoom_0 rfl (lv_at hl 3 rfl) ?_
  refine lv_aload_n hx hb dX4_findRoom_1 rfl (lv_at hl 2 rfl) ?_
  refine lv_iload_n hx hb dX4_findRoom_2 rfl (lv_at hl 1 rfl) ?_
  obtain ⟨r15, qr15, hf⟩ := bd_some hf
  refine xt_callVi (As := [.int a1]) (rest := [.ref (ad (15 + 9 * cx))]) (C := RX1) (ci := 1) ⟨hx, hb, hml, hown, hts⟩ (33 + 5 * h) (mX1_pointOf l dC dI ad cy hJ h hh σ a1 r15 qr15) (cwV 1 hts gX4_findRoom_X1_pointOf rfl rfl rfl dmX1_pointOf ⟨Nat.le_of_ble_eq_true rfl, Nat.le_of_ble_eq_true rfl⟩) hK hP hS (by omega) (LX1_obj ad cy h hh _) rfl rfl rfl hl.1 (Nat.le_of_ble_eq_true rfl) ⟨Nat.zero_le _, Nat.zero_le _⟩ dX4_findRoom_3 (fun H locs hP hS => ?_)
  obtain ⟨r16, qr16, hf⟩ := bd_some hf
  refine xt_callVi (As := [.int r15]) (rest := []) (C := RX0) (ci := 0) ⟨hx, hb, hml, hown, hts⟩ (15 + 9 * cx) (mX0_placeFrom l dC dI ad cy hJ cx hcx σ r15 r16 qr16) (cwV 1 hts gX4_findRoom_X0_placeFrom rfl rfl rfl dmX0_placeFrom ⟨Nat.le_of_ble_eq_true rfl, Nat.le_of_ble_eq_true rfl⟩) hK hP hS (by omega) (LX0_obj ad cy cx hcx _) rfl rfl rfl hl.1 (Nat.le_of_ble_eq_true rfl) ⟨Nat.zero_le _, Nat.zero_le _⟩ dX4_findRoom_6 (fun H locs hP hS => ?_)
  refine lv_istore (lv' := [(4, .int r16), (0, .ref (ad 7)), (1, .int a1), (2, .ref (ad (33 + 5 * h))), (3, .ref (ad (15 + 9 * cx)))]) hx hb dX4_findRoom_9 hl (by decide) rfl (fun ls hl => ?_)
  refine lv_aload_n hx hb dX4_findRoom_11 rfl (lv_at hl 1 rfl) ?_
  refine xt_get (ci := 4) (C := RX4) (T := TX4) (n := 9) (v := .ref (ad 9)) hx hb hts iX4_findRoom_X4 hown hK hP 7 (by decide) (LX4_obj ad cy _) rfl 1 (by decide) w1 rfl dX4_findRoom_12 ?_
  refine lv_iload_n hx hb dX4_findRoom_15 rfl (lv_at hl 2 rfl) ?_
  refine lv_bipush (v := (-15)) hx hb dX4_findRoom_16 (by decide) ?_
  obtain ⟨g17, hf⟩ := gd_some hf
  refine xt_iast hx hb hK hP hJ hS 9 (by decide) 0 (LX4_liesAt ad cy) rfl g17 dX4_findRoom_18 (fun H locs hP hS => ?_)
  obtain ⟨σ18, eσ18⟩ : ∃ z : St, z = su σ 9 a1.toNatClampNeg (-15) := ⟨_, rfl⟩
  rw [← eσ18] at hP
  have hf := nm_to hf eσ18
  refine lv_aload_n hx hb dX4_findRoom_19 rfl (lv_at hl 1 rfl) ?_
  refine xt_get (ci := 4) (C := RX4) (T := TX4) (n := 9) (v := .ref (ad 10)) hx hb hts iX4_findRoom_X4 hown hK hP 7 (by decide) (LX4_obj ad cy _) rfl 2 (by decide) w2 rfl dX4_findRoom_20 ?_
  refine lv_iload_n hx hb dX4_findRoom_23 rfl (lv_at hl 2 rfl) ?_
  refine lv_aload_n hx hb dX4_findRoom_24 rfl (lv_at hl 4 rfl) ?_
  refine xt_get (ci := 0) (C := RX0) (T := TX0) (n := 10) (v := .int (σ18 (15 + 9 * cx) 5)) hx hb hts iX4_findRoom_X0 hown hK hP (15 + 9 * cx) (by omega) (LX0_obj ad cy cx hcx _) rfl 5 (by decide) w3 rfl dX4_findRoom_25 ?_
  obtain ⟨g19, hf⟩ := gd_some hf
  refine xt_iast hx hb hK hP hJ hS 10 (by decide) 0 (LX4_passed ad cy) rfl g19 dX4_findRoom_28 (fun H locs hP hS => ?_)
  obtain ⟨σ20, eσ20⟩ : ∃ z : St, z = su σ18 10 a1.toNatClampNeg (σ18 (15 + 9 * cx) 5) := ⟨_, rfl⟩
  rw [← eσ20] at hP
  have hf := nm_to hf eσ20
  refine lv_iconst (v := 0) hx hb dX4_findRoom_29 (by decide) ?_
  refine lv_istore (lv' := [(5, .int 0), (4, .int r16), (0, .ref (ad 7)), (1, .int a1), (2, .ref (ad (33 + 5 * h))), (3, .ref (ad (15 + 9 * cx)))]) hx hb dX4_findRoom_30 hl (by decide) rfl (fun ls hl => ?_)
  exact loop32 a1 r16 1000 σ20 0 hf H locs hP hS ls (lv_sub hl [2, 3, 4, 5, 1, 0] rfl)
def fX4_settleWhereItLies (σ : St) (a1 : Int32) (a2 : Int32) : Option St :=
  gd (okI a1 24) <| nm (σ 9 a1.toNatClampNeg) fun v2 => gd (okI v2 8) <| gd (okI v2 8) <| nm (su σ 13 v2.toNatClampNeg ((σ 13 v2.toNatClampNeg) + 1)) fun σ5 => gd (okI v2 8) <| gd (okI v2 8) <| nm (su σ5 14 v2.toNatClampNeg ((σ5 14 v2.toNatClampNeg) + a2)) fun σ8 => gd (okI a1 24) <| if v2 = (σ8 8 a1.toNatClampNeg) then (nm (su σ8 7 7 ((σ8 7 7) + 1)) fun σ12 => some σ12) else (nm (su σ8 7 8 ((σ8 7 8) + 1)) fun σ11 => some σ11)
abbrev rmX4_settleWhereItLies : Room := { frames := 0, cells := 0, slots := 0, locals := 0 }
theorem dmX4_settleWhereItLies : yX4_settleWhereItLies.cls = RX4 ∧ yX4_settleWhereItLies.cls ≠ "java/lang/invoke/MethodHandle" ∧ yX4_settleWhereItLies.cls ≠ "java/lang/invoke/VarHandle" ∧ (parseMethodDescriptor yX4_settleWhereItLies.desc).map (fun d => d.parameters.length) = some 2 := by decide +kernel
theorem iX4_settleWhereItLies_X4 : ∀ w ∈ wsX40, w ∈ wsX4_settleWhereItLies := fun w h => List.mem_cons_of_mem _ (List.mem_append_right _ (h))
set_option maxHeartbeats 8000000 in
set_option maxRecDepth 100000 in
theorem mX4_settleWhereItLies (l : Launch) (dC : Nat → ClassId) (dI : Nat → Nat → Nat) (ad : Nat → Nat) (cy : Nat → ClassId) (hJ : WJ 93 ad) (σ : St) (a1 : Int32) (a2 : Int32) (res : St) (hf : fX4_settleWhereItLies σ a1 a2 = some res) : CMv l yX4_settleWhereItLies wsX4_settleWhereItLies rmX4_settleWhereItLies (dC, dI) (tysX cy) 93 ad (layX ad cy) [.ref (ad 7), .int a1, .int a2] σ res := by
  refine Met.ofW (cc := cX4_settleWhereItLies) (maxL := 4) (ret := none) (by decide) rfl ?_
  intro p e s m args below meth c s₁ B hml hv
  obtain ⟨hargs, hP, hK⟩ := hv
  have hx := B.exec
  have hb := B.bytes
  have hr := B.returns
  have hts := atoms_spec (ws := wsX4_settleWhereItLies) B.pre
  have hown : s.vm.findClass RX4 = some m.cls := findClass_of_methodNamed B.named
  have hlocks := B.notSynchronized
  have w1 := hts (.fieldLink RX4 15 "PierRings$Moorings" "liesAt" "[I") (List.mem_of_getElem? (i := 1) rfl)
  have w2 := hts (.fieldLink RX4 27 "PierRings$Moorings" "lyingBarges" "[I") (List.mem_of_getElem? (i := 2) rfl)
  have w3 := hts (.fieldLink RX4 30 "PierRings$Moorings" "lyingTons" "[I") (List.mem_of_getElem? (i := 3) rfl)
  have w4 := hts (.fieldLink RX4 9 "PierRings$Moorings" "homes" "[I") (List.mem_of_getElem? (i := 4) rfl)
  have w5 := hts (.fieldLink RX4 33 "PierRings$Moorings" "atHome" "I") (List.mem_of_getElem? (i := 5) rfl)
  have w6 := hts (.fieldLink RX4 37 "PierRings$Moorings" "elsewhere" "I") (List.mem_of_getElem? (i := 6) rfl)
  have hS : va_S (WA 93 ad) s.heap s.heap [] := va_S.rf
  have hfr : entryFrame m args 4 = F0 m 0 ((lg_sl [.ref (ad 7), .int a1, .int a2] ++ List.replicate (4 - (lg_sl [.ref (ad 7), .int a1, .int a2]).length) Slot.unset).toArray) [] := by rw [hargs]; exact lg_entry_eq _ _ _
  rw [hfr]
  have hl := lv_entry ([.ref (ad 7), .int a1, .int a2]) (n := 4) (Nat.le_of_ble_eq_true rfl)
  generalize (lg_sl [.ref (ad 7), .int a1, .int a2] ++ List.replicate (4 - (lg_sl [.ref (ad 7), .int a1, .int a2]).length) Slot.unset).toArray = ls at hl ⊢
  have hl : lv_has ls 4 [(0, .ref (ad 7)), (1, .int a1), (2, .int a2)] := hl
  clear hfr hargs B
  show W p l e rmX4_settleWhereItLies s m args below meth c s.heap [] 0 0 (MQ below (Qvw (dC, dI) 93 ad (layX ad cy) res) args s 0 0 (WA 93 ad)) (F0 m 0 ls [])
  unfold fX4_settleWhereItLies at hf
  obtain ⟨H, eH⟩ : ∃ H : Heap, H = s.heap := ⟨_, rfl⟩
  rw [← eH] at hP
  have hS : va_S (WA 93 ad) s.heap H [] := by rw [eH]; exact hS
  suffices K : W p l e rmX4_settleWhereItLies s m args below meth c H [] 0 0 (MQ below (Qvw (dC, dI) 93 ad (layX ad cy) res) args s 0 0 (WA 93 ad)) (F0 m 0 ls []) by rw [eH] at K; exact K
  clear eH
  obtain ⟨locs, elocs⟩ : ∃ z : List Loc, z = [] := ⟨_, rfl⟩
  rw [← elocs] at hS ⊢
  refine lv_aload_n hx hb dX4_settleWhereItLies_0 rfl (lv_at hl 0 rfl) ?_
  refine xt_get (ci := 4) (C := RX4) (T := TX4) (n := 9) (v := .ref (ad 9)) hx hb hts iX4_settleWhereItLies_X4 hown hK hP 7 (by decide) (LX4_obj ad cy _) rfl 1 (by decide) w1 rfl dX4_settleWhereItLies_1 ?_
  refine lv_iload_n hx hb dX4_settleWhereItLies_4 rfl (lv_at hl 1 rfl) ?_
  obtain ⟨g1, hf⟩ := gd_some hf
  refine xt_iald hx hb hK hP 9 (by decide) 0 (LX4_liesAt ad cy _) rfl g1 dX4_settleWhereItLies_5 ?_
  refine lv_topi (fun v2 ev2 => ?_)
  have hf := nm_to hf ev2
  refine lv_istore_n (lv' := [(3, .int v2), (0, .ref (ad 7)), (1, .int a1), (2, .int a2)]) hx hb dX4_settleWhereItLies_6 rfl hl (by decide) rfl (fun ls hl => ?_)
  refine lv_aload_n hx hb dX4_settleWhereItLies_7 rfl (lv_at hl 1 rfl) ?_
  refine xt_get (ci := 4) (C := RX4) (T := TX4) (n := 9) (v := .ref (ad 13)) hx hb hts iX4_settleWhereItLies_X4 hown hK hP 7 (by decide) (LX4_obj ad cy _) rfl 5 (by decide) w2 rfl dX4_settleWhereItLies_8 ?_
  refine lv_iload_n hx hb dX4_settleWhereItLies_11 rfl (lv_at hl 0 rfl) ?_
  refine lv_dup2_11 hx hb dX4_settleWhereItLies_12 rfl rfl ?_
  obtain ⟨g3, hf⟩ := gd_some hf
  refine xt_iald hx hb hK hP 13 (by decide) 0 (LX4_lyingBarges ad cy _) rfl g3 dX4_settleWhereItLies_13 ?_
  refine lv_iconst (v := 1) hx hb dX4_settleWhereItLies_14 (by decide) ?_
  refine lv_iadd hx hb dX4_settleWhereItLies_15 ?_
  obtain ⟨g4, hf⟩ := gd_some hf
  refine xt_iast hx hb hK hP hJ hS 13 (by decide) 0 (LX4_lyingBarges ad cy) rfl g4 dX4_settleWhereItLies_16 (fun H locs hP hS => ?_)
  obtain ⟨σ5, eσ5⟩ : ∃ z : St, z = su σ 13 v2.toNatClampNeg ((σ 13 v2.toNatClampNeg) + 1) := ⟨_, rfl⟩
  rw [← eσ5] at hP
  have hf := nm_to hf eσ5
  refine lv_aload_n hx hb dX4_settleWhereItLies_17 rfl (lv_at hl 1 rfl) ?_
  refine xt_get (ci := 4) (C := RX4) (T := TX4) (n := 9) (v := .ref (ad 14)) hx hb hts iX4_settleWhereItLies_X4 hown hK hP 7 (by decide) (LX4_obj ad cy _) rfl 6 (by decide) w3 rfl dX4_settleWhereItLies_18 ?_
  refine lv_iload_n hx hb dX4_settleWhereItLies_21 rfl (lv_at hl 0 rfl) ?_
  refine lv_dup2_11 hx hb dX4_settleWhereItLies_22 rfl rfl ?_
  obtain ⟨g6, hf⟩ := gd_some hf
  refine xt_iald hx hb hK hP 14 (by decide) 0 (LX4_lyingTons ad cy _) rfl g6 dX4_settleWhereItLies_23 ?_
  refine lv_iload_n hx hb dX4_settleWhereItLies_24 rfl (lv_at hl 3 rfl) ?_
  refine lv_iadd hx hb dX4_settleWhereItLies_25 ?_
  obtain ⟨g7, hf⟩ := gd_some hf
  refine xt_iast hx hb hK hP hJ hS 14 (by decide) 0 (LX4_lyingTons ad cy) rfl g7 dX4_settleWhereItLies_26 (fun H locs hP hS => ?_)
  obtain ⟨σ8, eσ8⟩ : ∃ z : St, z = su σ5 14 v2.toNatClampNeg ((σ5 14 v2.toNatClampNeg) + a2) := ⟨_, rfl⟩
  rw [← eσ8] at hP
  have hf := nm_to hf eσ8
  refine lv_iload_n hx hb dX4_settleWhereItLies_27 rfl (lv_at hl 0 rfl) ?_
  refine lv_aload_n hx hb dX4_settleWhereItLies_28 rfl (lv_at hl 1 rfl) ?_
  refine xt_get (ci := 4) (C := RX4) (T := TX4) (n := 9) (v := .ref (ad 8)) hx hb hts iX4_settleWhereItLies_X4 hown hK hP 7 (by decide) (LX4_obj ad cy _) rfl 0 (by decide) w4 rfl dX4_settleWhereItLies_29 ?_
  refine lv_iload_n hx hb dX4_settleWhereItLies_32 rfl (lv_at hl 2 rfl) ?_
  obtain ⟨g9, hf⟩ := gd_some hf
  refine xt_iald hx hb hK hP 8 (by decide) 0 (LX4_homes ad cy _) rfl g9 dX4_settleWhereItLies_33 ?_
  refine lv_icmp_ne (tgt := 50) hx hb dX4_settleWhereItLies_34 (by decide) (fun c10 => ?_) (fun c10 => ?_)
  · have hf := (if_neg c10).symm.trans hf
    refine lv_aload_n hx hb dX4_settleWhereItLies_50 rfl (lv_at hl 1 rfl) ?_
    refine lv_dup hx hb dX4_settleWhereItLies_51 rfl ?_
    refine xt_get (ci := 4) (C := RX4) (T := TX4) (n := 9) (v := .int (σ8 7 8)) hx hb hts iX4_settleWhereItLies_X4 hown hK hP 7 (by decide) (LX4_obj ad cy _) rfl 8 (by decide) w6 rfl dX4_settleWhereItLies_52 ?_
    refine lv_iconst (v := 1) hx hb dX4_settleWhereItLies_55 (by decide) ?_
    refine lv_iadd hx hb dX4_settleWhereItLies_56 ?_
    refine xt_put (ci := 4) (C := RX4) (T := TX4) (n := 9) hx hb hts iX4_settleWhereItLies_X4 tyX4 tyX4_ok nmX4 hown hK hP hJ hS 7 (by decide) (LX4_obj ad cy _) rfl 8 (by decide) w6 rfl (v := ((σ8 7 8) + 1)) rfl rfl (Nat.le_of_ble_eq_true rfl) (LX4_obj ad cy _) dX4_settleWhereItLies_57 (fun H locs hP hS => ?_)
    obtain ⟨σ11, eσ11⟩ : ∃ z : St, z = su σ8 7 8 ((σ8 7 8) + 1) := ⟨_, rfl⟩
    rw [← eσ11] at hP
    have hf := nm_to hf eσ11
    exact xt_vret hx hb hr hP hS (Option.some.inj hf) dX4_settleWhereItLies_60 hlocks
  · have hf := (if_pos c10).symm.trans hf
    refine lv_aload_n hx hb dX4_settleWhereItLies_37 rfl (lv_at hl 1 rfl) ?_
    refine lv_dup hx hb dX4_settleWhereItLies_38 rfl ?_
    refine xt_get (ci := 4) (C := RX4) (T := TX4) (n := 9) (v := .int (σ8 7 7)) hx hb hts iX4_settleWhereItLies_X4 hown hK hP 7 (by decide) (LX4_obj ad cy _) rfl 7 (by decide) w5 rfl dX4_settleWhereItLies_39 ?_
    refine lv_iconst (v := 1) hx hb dX4_settleWhereItLies_42 (by decide) ?_
    refine lv_iadd hx hb dX4_settleWhereItLies_43 ?_
    refine xt_put (ci := 4) (C := RX4) (T := TX4) (n := 9) hx hb hts iX4_settleWhereItLies_X4 tyX4 tyX4_ok nmX4 hown hK hP hJ hS 7 (by decide) (LX4_obj ad cy _) rfl 7 (by decide) w5 rfl (v := ((σ8 7 7) + 1)) rfl rfl (Nat.le_of_ble_eq_true rfl) (LX4_obj ad cy _) dX4_settleWhereItLies_44 (fun H locs hP hS => ?_)
    obtain ⟨σ12, eσ12⟩ : ∃ z : St, z = su σ8 7 7 ((σ8 7 7) + 1) := ⟨_, rfl⟩
    rw [← eσ12] at hP
    have hf := nm_to hf eσ12
    refine lv_goto (tgt := 60) hx hb dX4_settleWhereItLies_47 (by decide) ?_
    exact xt_vret hx hb hr hP hS (Option.some.inj hf) dX4_settleWhereItLies_60 hlocks
def fX4_settle_B107 (h : Nat) (cx : Nat) (σ : St) : Option St :=
  some σ
def fX4_settle_L44 (h : Nat) (cx : Nat) (K44_107 : St → Option St) : Nat → St → Int32 → Option St
  | 0, _, _ => none
  | n44 + 1, σ, x3 => if (σ (33 + 5 * h) 5) ≤ x3 then (K44_107 σ) else (bd (fX1_pointOf h σ x3) fun r2 => bd (fX0_homeByTree cx σ r2) fun r3 => gd (okI x3 24) <| bd (fX4_settleHome σ x3 r3 (σ ((33 + 5 * h) + 4) x3.toNatClampNeg)) fun r5 => bd (fX4_findRoom h cx r5 x3) fun r6 => gd (okI x3 24) <| if (r6 9 x3.toNatClampNeg) = (-15 : Int32) then (nm (x3 + 1) fun v9 => (fX4_settle_L44 h cx K44_107 n44) r6 v9) else (gd (okI x3 24) <| bd (fX4_settleWhereItLies r6 x3 (r6 ((33 + 5 * h) + 4) x3.toNatClampNeg)) fun r11 => nm (x3 + 1) fun v12 => (fX4_settle_L44 h cx K44_107 n44) r11 v12))
def fX4_settle (h : Nat) (cx : Nat) (σ : St) : Option St :=
  nm (sr σ 11 (fl 8 0 (σ 11))) fun σ13 => nm (sr σ13 12 (fl 8 0 (σ13 12))) fun σ14 => nm (sr σ14 13 (fl 8 0 (σ14 13))) fun σ15 => nm (sr σ15 14 (fl 8 0 (σ15 14))) fun σ16 => nm (su σ16 7 7 0) fun σ17 => nm (su σ17 7 8 0) fun σ18 => fX4_settle_L44 h cx (fun σ => fX4_settle_B107 h cx σ) 1000 σ18 0
abbrev rmX4_settle : Room := { frames := 2, cells := 0, slots := 0, locals := 48 }
theorem dmX4_settle : yX4_settle.cls = RX4 ∧ yX4_settle.cls ≠ "java/lang/invoke/MethodHandle" ∧ yX4_settle.cls ≠ "java/lang/invoke/VarHandle" ∧ (parseMethodDescriptor yX4_settle.desc).map (fun d => d.parameters.length) = some 2 := by decide +kernel
theorem iX4_settle_X1 : ∀ w ∈ wsX10, w ∈ wsX4_settle := fun w h => List.mem_cons_of_mem _ (List.mem_append_left _ (List.mem_append_right _ (h)))
theorem iX4_settle_X4 : ∀ w ∈ wsX40, w ∈ wsX4_settle := fun w h => List.mem_cons_of_mem _ (List.mem_append_left _ (List.mem_append_left _ (List.mem_append_right _ (h))))
set_option maxHeartbeats 8000000 in
set_option maxRecDepth 100000 in
theorem mX4_settle (l : Launch) (dC : Nat → ClassId) (dI : Nat → Nat → Nat) (ad : Nat → Nat) (cy : Nat → ClassId) (hJ : WJ 93 ad) (h : Nat) (hh : h < 12) (cx : Nat) (hcx : cx < 2) (σ : St) (res : St) (hf : fX4_settle h cx σ = some res) : CMv l yX4_settle wsX4_settle rmX4_settle (dC, dI) (tysX cy) 93 ad (layX ad cy) [.ref (ad 7), .ref (ad (33 + 5 * h)), .ref (ad (15 + 9 * cx))] σ res := by
  refine Met.ofW (cc := cX4_settle) (maxL := 4) (ret := none) (by decide) rfl ?_
  intro p e s m args below meth c s₁ B hml hv
  obtain ⟨hargs, hP, hK⟩ := hv
  have hx := B.exec
  have hb := B.bytes
  have hr := B.returns
  have hts := atoms_spec (ws := wsX4_settle) B.pre
  have hown : s.vm.findClass RX4 = some m.cls := findClass_of_methodNamed B.named
  have hlocks := B.notSynchronized
  have w1 := hts (.fieldLink RX4 21 "PierRings$Moorings" "homeBarges" "[I") (List.mem_of_getElem? (i := 1) rfl)
  have w2 := hts (.fieldLink RX4 24 "PierRings$Moorings" "homeTons" "[I") (List.mem_of_getElem? (i := 2) rfl)
  have w3 := hts (.fieldLink RX4 27 "PierRings$Moorings" "lyingBarges" "[I") (List.mem_of_getElem? (i := 3) rfl)
  have w4 := hts (.fieldLink RX4 30 "PierRings$Moorings" "lyingTons" "[I") (List.mem_of_getElem? (i := 4) rfl)
  have w5 := hts (.fieldLink RX4 33 "PierRings$Moorings" "atHome" "I") (List.mem_of_getElem? (i := 5) rfl)
  have w6 := hts (.fieldLink RX4 37 "PierRings$Moorings" "elsewhere" "I") (List.mem_of_getElem? (i := 6) rfl)
  have w7 := hts (.fieldLink RX4 46 "PierRings$Harbour" "barges" "I") (List.mem_of_getElem? (i := 7) rfl)
  have w8 := hts (.fieldLink RX4 60 "PierRings$Harbour" "tons" "[I") (List.mem_of_getElem? (i := 8) rfl)
  have w9 := hts (.fieldLink RX4 15 "PierRings$Moorings" "liesAt" "[I") (List.mem_of_getElem? (i := 9) rfl)
  have hS : va_S (WA 93 ad) s.heap s.heap [] := va_S.rf
  have hfr : entryFrame m args 4 = F0 m 0 ((lg_sl [.ref (ad 7), .ref (ad (33 + 5 * h)), .ref (ad (15 + 9 * cx))] ++ List.replicate (4 - (lg_sl [.ref (ad 7), .ref (ad (33 + 5 * h)), .ref (ad (15 + 9 * cx))]).length) Slot.unset).toArray) [] := by rw [hargs]; exact lg_entry_eq _ _ _
  rw [hfr]
  have hl := lv_entry ([.ref (ad 7), .ref (ad (33 + 5 * h)), .ref (ad (15 + 9 * cx))]) (n := 4) (Nat.le_of_ble_eq_true rfl)
  generalize (lg_sl [.ref (ad 7), .ref (ad (33 + 5 * h)), .ref (ad (15 + 9 * cx))] ++ List.replicate (4 - (lg_sl [.ref (ad 7), .ref (ad (33 + 5 * h)), .ref (ad (15 + 9 * cx))]).length) Slot.unset).toArray = ls at hl ⊢
  have hl : lv_has ls 4 [(0, .ref (ad 7)), (1, .ref (ad (33 + 5 * h))), (2, .ref (ad (15 + 9 * cx)))] := hl
  clear hfr hargs B
  show W p l e rmX4_settle s m args below meth c s.heap [] 0 0 (MQ below (Qvw (dC, dI) 93 ad (layX ad cy) res) args s 0 0 (WA 93 ad)) (F0 m 0 ls [])
  have kB107 : ∀ (σ : St), fX4_settle_B107 h cx σ = some res → ∀ (H : Heap) (locs : List Loc), va_P (dC, dI) vwCl (wd 93 ad (layX ad cy) σ) H → va_S (WA 93 ad) s.heap H locs → ∀ (ls : Array Slot), lv_has ls 4 [] → W p l e rmX4_settle s m args below meth c H locs 0 0 (MQ below (Qvw (dC, dI) 93 ad (layX ad cy) res) args s 0 0 (WA 93 ad)) (F0 m 107 ls []) := by
    intro σ hf H locs hP hS ls hl
    unfold fX4_settle_B107 at hf
    exact xt_vret hx hb hr hP hS (Option.some.inj hf) dX4_settle_107 hlocks
  have loop44 : ∀ (n44 : Nat) (σ : St) (x3 : Int32), fX4_settle_L44 h cx (fun σ => fX4_settle_B107 h cx σ) n44 σ x3 = some res → ∀ (H : Heap) (locs : List Loc), va_P (dC, dI) vwCl (wd 93 ad (layX ad cy) σ) H → va_S (WA 93 ad) s.heap H locs → ∀ (ls : Array Slot), lv_has ls 4 [(0, .ref (ad 7)), (1, .ref (ad (33 + 5 * h))), (2, .ref (ad (15 + 9 * cx))), (3, .int x3)] → W p l e rmX4_settle s m args below meth c H locs 0 0 (MQ below (Qvw (dC, dI) 93 ad (layX ad cy) res) args s 0 0 (WA 93 ad)) (F0 m 44 ls []) := by
    intro n44
    induction n44 with
    | zero => intro σ x3 hf; simp [fX4_settle_L44] at hf
    | succ n44 ih44 =>
      intro σ x3 hf H locs hP hS ls hl
      rw [fX4_settle_L44] at hf
      refine lv_iload_n hx hb dX4_settle_44 rfl (lv_at hl 3 rfl) ?_
      refine lv_aload_n hx hb dX4_settle_45 rfl (lv_at hl 1 rfl) ?_
      refine xt_get (ci := 1) (C := RX1) (T := TX1) (n := 8) (v := .int (σ (33 + 5 * h) 5)) hx hb hts iX4_settle_X1 hown hK hP (33 + 5 * h) (by omega) (LX1_obj ad cy h hh _) rfl 5 (by decide) w7 rfl dX4_settle_46 ?_
      refine lv_icmp_ge (tgt := 107) hx hb dX4_settle_49 (by decide) (fun c1 => ?_) (fun c1 => ?_)
      · have hf := (if_pos c1).symm.trans hf
        exact kB107 σ hf H locs hP hS ls (lv_sub hl [] rfl)
      · have hf := (if_neg c1).symm.trans hf
        refine lv_aload_n hx hb dX4_settle_52 rfl (lv_at hl 0 rfl) ?_
        refine lv_iload_n hx hb dX4_settle_53 rfl (lv_at hl 3 rfl) ?_
        refine lv_aload_n hx hb dX4_settle_54 rfl (lv_at hl 2 rfl) ?_
        refine lv_aload_n hx hb dX4_settle_55 rfl (lv_at hl 1 rfl) ?_
        refine lv_iload_n hx hb dX4_settle_56 rfl (lv_at hl 3 rfl) ?_
        obtain ⟨r2, qr2, hf⟩ := bd_some hf
        refine xt_callVi (As := [.int x3]) (rest := [.ref (ad (15 + 9 * cx)), .int x3, .ref (ad 7)]) (C := RX1) (ci := 1) ⟨hx, hb, hml, hown, hts⟩ (33 + 5 * h) (mX1_pointOf l dC dI ad cy hJ h hh σ x3 r2 qr2) (cwV 1 hts gX4_settle_X1_pointOf rfl rfl rfl dmX1_pointOf ⟨Nat.le_of_ble_eq_true rfl, Nat.le_of_ble_eq_true rfl⟩) hK hP hS (by omega) (LX1_obj ad cy h hh _) rfl rfl rfl hl.1 (Nat.le_of_ble_eq_true rfl) ⟨Nat.zero_le _, Nat.zero_le _⟩ dX4_settle_57 (fun H locs hP hS => ?_)
        obtain ⟨r3, qr3, hf⟩ := bd_some hf
        refine xt_callVi (As := [.int r2]) (rest := [.int x3, .ref (ad 7)]) (C := RX0) (ci := 0) ⟨hx, hb, hml, hown, hts⟩ (15 + 9 * cx) (mX0_homeByTree l dC dI ad cy hJ cx hcx σ r2 r3 qr3) (cwV 1 hts gX4_settle_X0_homeByTree rfl rfl rfl dmX0_homeByTree ⟨Nat.le_of_ble_eq_true rfl, Nat.le_of_ble_eq_true rfl⟩) hK hP hS (by omega) (LX0_obj ad cy cx hcx _) rfl rfl rfl hl.1 (Nat.le_of_ble_eq_true rfl) ⟨Nat.zero_le _, Nat.zero_le _⟩ dX4_settle_60 (fun H locs hP hS => ?_)
        refine lv_aload_n hx hb dX4_settle_63 rfl (lv_at hl 1 rfl) ?_
        refine xt_get (ci := 1) (C := RX1) (T := TX1) (n := 8) (v := .ref (ad ((33 + 5 * h) + 4))) hx hb hts iX4_settle_X1 hown hK hP (33 + 5 * h) (by omega) (LX1_obj ad cy h hh _) rfl 3 (by decide) w8 rfl dX4_settle_64 ?_
        refine lv_iload_n hx hb dX4_settle_67 rfl (lv_at hl 3 rfl) ?_
        obtain ⟨g4, hf⟩ := gd_some hf
        refine xt_iald hx hb hK hP ((33 + 5 * h) + 4) (by omega) 0 (LX1_tons ad cy h hh _) rfl g4 dX4_settle_68 ?_
        obtain ⟨r5, qr5, hf⟩ := bd_some hf
        refine xt_callVv (As := [.int x3, .int r3, .int (σ ((33 + 5 * h) + 4) x3.toNatClampNeg)]) (rest := []) (C := RX4) (ci := 4) ⟨hx, hb, hml, hown, hts⟩ 7 (mX4_settleHome l dC dI ad cy hJ σ x3 r3 (σ ((33 + 5 * h) + 4) x3.toNatClampNeg) r5 qr5) (cwV 3 hts gX4_settle_X4_settleHome rfl rfl rfl dmX4_settleHome ⟨Nat.le_of_ble_eq_true rfl, Nat.le_of_ble_eq_true rfl⟩) hK hP hS (by decide) (LX4_obj ad cy _) rfl rfl rfl hl.1 (Nat.le_of_ble_eq_true rfl) ⟨Nat.zero_le _, Nat.zero_le _⟩ dX4_settle_69 (fun H locs hP hS => ?_)
        refine lv_aload_n hx hb dX4_settle_72 rfl (lv_at hl 0 rfl) ?_
        refine lv_iload_n hx hb dX4_settle_73 rfl (lv_at hl 3 rfl) ?_
        refine lv_aload_n hx hb dX4_settle_74 rfl (lv_at hl 1 rfl) ?_
        refine lv_aload_n hx hb dX4_settle_75 rfl (lv_at hl 2 rfl) ?_
        obtain ⟨r6, qr6, hf⟩ := bd_some hf
        refine xt_callVv (As := [.int x3, .ref (ad (33 + 5 * h)), .ref (ad (15 + 9 * cx))]) (rest := []) (C := RX4) (ci := 4) ⟨hx, hb, hml, hown, hts⟩ 7 (mX4_findRoom l dC dI ad cy hJ h hh cx hcx r5 x3 r6 qr6) (cwV 3 hts gX4_settle_X4_findRoom rfl rfl rfl dmX4_findRoom ⟨Nat.le_of_ble_eq_true rfl, Nat.le_of_ble_eq_true rfl⟩) hK hP hS (by decide) (LX4_obj ad cy _) rfl rfl rfl hl.1 (Nat.le_of_ble_eq_true rfl) ⟨Nat.zero_le _, Nat.zero_le _⟩ dX4_settle_76 (fun H locs hP hS => ?_)
        refine lv_aload_n hx hb dX4_settle_79 rfl (lv_at hl 0 rfl) ?_
        refine xt_get (ci := 4) (C := RX4) (T := TX4) (n := 9) (v := .ref (ad 9)) hx hb hts iX4_settle_X4 hown hK hP 7 (by decide) (LX4_obj ad cy _) rfl 1 (by decide) w9 rfl dX4_settle_80 ?_
        refine lv_iload_n hx hb dX4_settle_83 rfl (lv_at hl 3 rfl) ?_
        obtain ⟨g7, hf⟩ := gd_some hf
        refine xt_iald hx hb hK hP 9 (by decide) 0 (LX4_liesAt ad cy _) rfl g7 dX4_settle_84 ?_
        refine lv_bipush (v := (-15)) hx hb dX4_settle_85 (by decide) ?_
        refine lv_icmp_eq (tgt := 101) hx hb dX4_settle_87 (by decide) (fun c8 => ?_) (fun c8 => ?_)
        · have hf := (if_pos c8).symm.trans hf
          obtain ⟨v9, ev9⟩ : ∃ y : Int32, y = x3 + 1 := ⟨_, rfl⟩
          have hf := nm_to hf ev9
          refine lv_iinc (v := v9) (lv' := [(3, .int v9), (0, .ref (ad 7)), (1, .ref (ad (33 + 5 * h))), (2, .ref (ad (15 + 9 * cx)))]) hx hb dX4_settle_101 hl (k := 3) rfl (by rw [ev9]; rfl) (by decide) rfl (fun ls hl => ?_)
          refine lv_goto (tgt := 44) hx hb dX4_settle_104 (by decide) ?_
          exact ih44 r6 v9 hf H locs hP hS ls (lv_sub hl [1, 2, 3, 0] rfl)
        · have hf := (if_neg c8).symm.trans hf
          refine lv_aload_n hx hb dX4_settle_90 rfl (lv_at hl 0 rfl) ?_
          refine lv_iload_n hx hb dX4_settle_91 rfl (lv_at hl 3 rfl) ?_
          refine lv_aload_n hx hb dX4_settle_92 rfl (lv_at hl 1 rfl) ?_
          refine xt_get (ci := 1) (C := RX1) (T := TX1) (n := 8) (v := .ref (ad ((33 + 5 * h) + 4))) hx hb hts iX4_settle_X1 hown hK hP (33 + 5 * h) (by omega) (LX1_obj ad cy h hh _) rfl 3 (by decide) w8 rfl dX4_settle_93 ?_
          refine lv_iload_n hx hb dX4_settle_96 rfl (lv_at hl 3 rfl) ?_
          obtain ⟨g10, hf⟩ := gd_some hf
          refine xt_iald hx hb hK hP ((33 + 5 * h) + 4) (by omega) 0 (LX1_tons ad cy h hh _) rfl g10 dX4_settle_97 ?_
          obtain ⟨r11, qr11, hf⟩ := bd_some hf
          refine xt_callVv (As := [.int x3, .int (r6 ((33 + 5 * h) + 4) x3.toNatClampNeg)]) (rest := []) (C := RX4) (ci := 4) ⟨hx, hb, hml, hown, hts⟩ 7 (mX4_settleWhereItLies l dC dI ad cy hJ r6 x3 (r6 ((33 + 5 * h) + 4) x3.toNatClampNeg) r11 qr11) (cwV 2 hts gX4_settle_X4_settleWhereItLies rfl rfl rfl dmX4_settleWhereItLies ⟨Nat.le_of_ble_eq_true rfl, Nat.le_of_ble_eq_true rfl⟩) hK hP hS (by decide) (LX4_obj ad cy _) rfl rfl rfl hl.1 (Nat.le_of_ble_eq_true rfl) ⟨Nat.zero_le _, Nat.zero_le _⟩ dX4_settle_98 (fun H locs hP hS => ?_)
          obtain ⟨v12, ev12⟩ : ∃ y : Int32, y = x3 + 1 := ⟨_, rfl⟩
          have hf := nm_to hf ev12
          refine lv_iinc (v := v12) (lv' := [(3, .int v12), (0, .ref (ad 7)), (1, .ref (ad (33 + 5 * h))), (2, .ref (ad (15 + 9 * cx)))]) hx hb dX4_settle_101 hl (k := 3) rfl (by rw [ev12]; rfl) (by decide) rfl (fun ls hl => ?_)
          refine lv_goto (tgt := 44) hx hb dX4_settle_104 (by decide) ?_
          exact ih44 r11 v12 hf H locs hP hS ls (lv_sub hl [1, 2, 3, 0] rfl)
  unfold fX4_settle at hf
  obtain ⟨H, eH⟩ : ∃ H : Heap, H = s.heap := ⟨_, rfl⟩
  rw [← eH] at hP
  have hS : va_S (WA 93 ad) s.heap H [] := by rw [eH]; exact hS
  suffices K : W p l e rmX4_settle s m args below meth c H [] 0 0 (MQ below (Qvw (dC, dI) 93 ad (layX ad cy) res) args s 0 0 (WA 93 ad)) (F0 m 0 ls []) by rw [eH] at K; exact K
  clear eH
  obtain ⟨locs, elocs⟩ : ∃ z : List Loc, z = [] := ⟨_, rfl⟩
  rw [← elocs] at hS ⊢
  refine lv_aload_n hx hb dX4_settle_0 rfl (lv_at hl 0 rfl) ?_
  refine xt_get (ci := 4) (C := RX4) (T := TX4) (n := 9) (v := .ref (ad 11)) hx hb hts iX4_settle_X4 hown hK hP 7 (by decide) (LX4_obj ad cy _) rfl 3 (by decide) w1 rfl dX4_settle_1 ?_
  refine lv_iconst (v := 0) hx hb dX4_settle_4 (by decide) ?_
  refine xt_callSv (As := [.ref (ad 11), .int 0]) (rest := []) ⟨hx, hb, hml, hown, hts⟩ (mJ7_fill_53178 l dC dI 93 ad (layX ad cy) cy hJ 11 (by decide) 8 (LX4_homeBarges ad cy) (by decide) σ 0) (va_cwS 2 hts gX4_settle_J7_fill_53178 rfl rfl rfl dmJ7_fill_53178 ⟨Nat.le_of_ble_eq_true rfl, Nat.le_of_ble_eq_true rfl⟩) hK hP hS rfl rfl hl.1 (Nat.le_of_ble_eq_true rfl) ⟨Nat.zero_le _, Nat.zero_le _⟩ dX4_settle_5 (fun H locs hP hS => ?_)
  obtain ⟨σ13, eσ13⟩ : ∃ z : St, z = sr σ 11 (fl 8 0 (σ 11)) := ⟨_, rfl⟩
  rw [← eσ13] at hP
  have hf := nm_to hf eσ13
  refine lv_aload_n hx hb dX4_settle_8 rfl (lv_at hl 0 rfl) ?_
  refine xt_get (ci := 4) (C := RX4) (T := TX4) (n := 9) (v := .ref (ad 12)) hx hb hts iX4_settle_X4 hown hK hP 7 (by decide) (LX4_obj ad cy _) rfl 4 (by decide) w2 rfl dX4_settle_9 ?_
  refine lv_iconst (v := 0) hx hb dX4_settle_12 (by decide) ?_
  refine xt_callSv (As := [.ref (ad 12), .int 0]) (rest := []) ⟨hx, hb, hml, hown, hts⟩ (mJ7_fill_53178 l dC dI 93 ad (layX ad cy) cy hJ 12 (by decide) 8 (LX4_homeTons ad cy) (by decide) σ13 0) (va_cwS 2 hts gX4_settle_J7_fill_53178 rfl rfl rfl dmJ7_fill_53178 ⟨Nat.le_of_ble_eq_true rfl, Nat.le_of_ble_eq_true rfl⟩) hK hP hS rfl rfl hl.1 (Nat.le_of_ble_eq_true rfl) ⟨Nat.zero_le _, Nat.zero_le _⟩ dX4_settle_13 (fun H locs hP hS => ?_)
  obtain ⟨σ14, eσ14⟩ : ∃ z : St, z = sr σ13 12 (fl 8 0 (σ13 12)) := ⟨_, rfl⟩
  rw [← eσ14] at hP
  have hf := nm_to hf eσ14
  refine lv_aload_n hx hb dX4_settle_16 rfl (lv_at hl 0 rfl) ?_
  refine xt_get (ci := 4) (C := RX4) (T := TX4) (n := 9) (v := .ref (ad 13)) hx hb hts iX4_settle_X4 hown hK hP 7 (by decide) (LX4_obj ad cy _) rfl 5 (by decide) w3 rfl dX4_settle_17 ?_
  refine lv_iconst (v := 0) hx hb dX4_settle_20 (by decide) ?_
  refine xt_callSv (As := [.ref (ad 13), .int 0]) (rest := []) ⟨hx, hb, hml, hown, hts⟩ (mJ7_fill_53178 l dC dI 93 ad (layX ad cy) cy hJ 13 (by decide) 8 (LX4_lyingBarges ad cy) (by decide) σ14 0) (va_cwS 2 hts gX4_settle_J7_fill_53178 rfl rfl rfl dmJ7_fill_53178 ⟨Nat.le_of_ble_eq_true rfl, Nat.le_of_ble_eq_true rfl⟩) hK hP hS rfl rfl hl.1 (Nat.le_of_ble_eq_true rfl) ⟨Nat.zero_le _, Nat.zero_le _⟩ dX4_settle_21 (fun H locs hP hS => ?_)
  obtain ⟨σ15, eσ15⟩ : ∃ z : St, z = sr σ14 13 (fl 8 0 (σ14 13)) := ⟨_, rfl⟩
  rw [← eσ15] at hP
  have hf := nm_to hf eσ15
  refine lv_aload_n hx hb dX4_settle_24 rfl (lv_at hl 0 rfl) ?_
  refine xt_get (ci := 4) (C := RX4) (T := TX4) (n := 9) (v := .ref (ad 14)) hx hb hts iX4_settle_X4 hown hK hP 7 (by decide) (LX4_obj ad cy _) rfl 6 (by decide) w4 rfl dX4_settle_25 ?_
  refine lv_iconst (v := 0) hx hb dX4_settle_28 (by decide) ?_
  refine xt_callSv (As := [.ref (ad 14), .int 0]) (rest := []) ⟨hx, hb, hml, hown, hts⟩ (mJ7_fill_53178 l dC dI 93 ad (layX ad cy) cy hJ 14 (by decide) 8 (LX4_lyingTons ad cy) (by decide) σ15 0) (va_cwS 2 hts gX4_settle_J7_fill_53178 rfl rfl rfl dmJ7_fill_53178 ⟨Nat.le_of_ble_eq_true rfl, Nat.le_of_ble_eq_true rfl⟩) hK hP hS rfl rfl hl.1 (Nat.le_of_ble_eq_true rfl) ⟨Nat.zero_le _, Nat.zero_le _⟩ dX4_settle_29 (fun H locs hP hS => ?_)
  obtain ⟨σ16, eσ16⟩ : ∃ z : St, z = sr σ15 14 (fl 8 0 (σ15 14)) := ⟨_, rfl⟩
  rw [← eσ16] at hP
  have hf := nm_to hf eσ16
  refine lv_aload_n hx hb dX4_settle_32 rfl (lv_at hl 0 rfl) ?_
  refine lv_iconst (v := 0) hx hb dX4_settle_33 (by decide) ?_
  refine xt_put (ci := 4) (C := RX4) (T := TX4) (n := 9) hx hb hts iX4_settle_X4 tyX4 tyX4_ok nmX4 hown hK hP hJ hS 7 (by decide) (LX4_obj ad cy _) rfl 7 (by decide) w5 rfl (v := 0) rfl rfl (Nat.le_of_ble_eq_true rfl) (LX4_obj ad cy _) dX4_settle_34 (fun H locs hP hS => ?_)
  obtain ⟨σ17, eσ17⟩ : ∃ z : St, z = su σ16 7 7 0 := ⟨_, rfl⟩
  rw [← eσ17] at hP
  have hf := nm_to hf eσ17
  refine lv_aload_n hx hb dX4_settle_37 rfl (lv_at hl 0 rfl) ?_
  refine lv_iconst (v := 0) hx hb dX4_settle_38 (by decide) ?_
  refine xt_put (ci := 4) (C := RX4) (T := TX4) (n := 9) hx hb hts iX4_settle_X4 tyX4 tyX4_ok nmX4 hown hK hP hJ hS 7 (by decide) (LX4_obj ad cy _) rfl 8 (by decide) w6 rfl (v := 0) rfl rfl (Nat.le_of_ble_eq_true rfl) (LX4_obj ad cy _) dX4_settle_39 (fun H locs hP hS => ?_)
  obtain ⟨σ18, eσ18⟩ : ∃ z : St, z = su σ17 7 8 0 := ⟨_, rfl⟩
  rw [← eσ18] at hP
  have hf := nm_to hf eσ18
  refine lv_iconst (v := 0) hx hb dX4_settle_42 (by decide) ?_
  refine lv_istore_n (lv' := [(3, .int 0), (0, .ref (ad 7)), (1, .ref (ad (33 + 5 * h))), (2, .ref (ad (15 + 9 * cx)))]) hx hb dX4_settle_43 rfl hl (by decide) rfl (fun ls hl => ?_)
  exact loop44 1000 σ18 0 hf H locs hP hS ls (lv_sub hl [1, 2, 3, 0] rfl)
def fX4_homesUnlike_B43 (h : Nat) (cx : Nat) (σ : St) (x3 : Int32) : Option Int32 :=
  some x3
def fX4_homesUnlike_L5 (h : Nat) (cx : Nat) (σ : St) (K5_43 : Int32 → Option Int32) : Nat → Int32 → Int32 → Option Int32
  | 0, _, _ => none
  | n5 + 1, x3, x4 => if (σ (33 + 5 * h) 5) ≤ x4 then (K5_43 x3) else (bd (fX1_pointOf h σ x4) fun r2 => bd (fX0_homeByTree cx σ r2) fun r3 => gd (okI x4 24) <| if r3 = (σ 8 x4.toNatClampNeg) then (nm (x4 + 1) fun v6 => (fX4_homesUnlike_L5 h cx σ K5_43 n5) x3 v6) else (nm (x3 + 1) fun v7 => nm (x4 + 1) fun v8 => (fX4_homesUnlike_L5 h cx σ K5_43 n5) v7 v8))
def fX4_homesUnlike (h : Nat) (cx : Nat) (σ : St) : Option Int32 :=
  fX4_homesUnlike_L5 h cx σ (fun y3 => fX4_homesUnlike_B43 h cx σ y3) 1000 0 0
abbrev rmX4_homesUnlike : Room := { frames := 2, cells := 0, slots := 0, locals := 46 }
theorem dmX4_homesUnlike : yX4_homesUnlike.cls = RX4 ∧ yX4_homesUnlike.cls ≠ "java/lang/invoke/MethodHandle" ∧ yX4_homesUnlike.cls ≠ "java/lang/invoke/VarHandle" ∧ (parseMethodDescriptor yX4_homesUnlike.desc).map (fun d => d.parameters.length) = some 2 := by decide +kernel
theorem iX4_homesUnlike_X1 : ∀ w ∈ wsX10, w ∈ wsX4_homesUnlike := fun w h => List.mem_cons_of_mem _ (List.mem_append_left _ (List.mem_append_left _ (List.mem_append_right _ (h))))
theorem iX4_homesUnlike_X4 : ∀ w ∈ wsX40, w ∈ wsX4_homesUnlike := fun w h => List.mem_cons_of_mem _ (List.mem_append_left _ (List.mem_append_right _ (h)))
set_option maxHeartbeats 8000000 in
set_option maxRecDepth 100000 in
theorem mX4_homesUnlike (l : Launch) (dC : Nat → ClassId) (dI : Nat → Nat → Nat) (ad : Nat → Nat) (cy : Nat → ClassId) (hJ : WJ 93 ad) (h : Nat) (hh : h < 12) (cx : Nat) (hcx : cx < 2) (σ : St) (res : Int32) (hf : fX4_homesUnlike h cx σ = some res) : CMi l yX4_homesUnlike wsX4_homesUnlike rmX4_homesUnlike (dC, dI) (tysX cy) 93 ad (layX ad cy) [.ref (ad 7), .ref (ad (33 + 5 * h)), .ref (ad (15 + 9 * cx))] σ res σ := by
  refine Met.ofW (cc := cX4_homesUnlike) (maxL := 5) (ret := (some .int)) (by decide) rfl ?_
  intro p e s m args below meth c s₁ B hml hv
  obtain ⟨hargs, hP, hK⟩ := hv
  have hx := B.exec
  have hb := B.bytes
  have hr := B.returns
  have hts := atoms_spec (ws := wsX4_homesUnlike) B.pre
  have hown : s.vm.findClass RX4 = some m.cls := findClass_of_methodNamed B.named
  have hlocks := B.notSynchronized
  have w1 := hts (.fieldLink RX4 46 "PierRings$Harbour" "barges" "I") (List.mem_of_getElem? (i := 1) rfl)
  have w2 := hts (.fieldLink RX4 9 "PierRings$Moorings" "homes" "[I") (List.mem_of_getElem? (i := 2) rfl)
  have hS : va_S (WA 93 ad) s.heap s.heap [] := va_S.rf
  have hfr : entryFrame m args 5 = F0 m 0 ((lg_sl [.ref (ad 7), .ref (ad (33 + 5 * h)), .ref (ad (15 + 9 * cx))] ++ List.replicate (5 - (lg_sl [.ref (ad 7), .ref (ad (33 + 5 * h)), .ref (ad (15 + 9 * cx))]).length) Slot.unset).toArray) [] := by rw [hargs]; exact lg_entry_eq _ _ _
  rw [hfr]
  have hl := lv_entry ([.ref (ad 7), .ref (ad (33 + 5 * h)), .ref (ad (15 + 9 * cx))]) (n := 5) (Nat.le_of_ble_eq_true rfl)
  generalize (lg_sl [.ref (ad 7), .ref (ad (33 + 5 * h)), .ref (ad (15 + 9 * cx))] ++ List.replicate (5 - (lg_sl [.ref (ad 7), .ref (ad (33 + 5 * h)), .ref (ad (15 + 9 * cx))]).length) Slot.unset).toArray = ls at hl ⊢
  have hl : lv_has ls 5 [(0, .ref (ad 7)), (1, .ref (ad (33 + 5 * h))), (2, .ref (ad (15 + 9 * cx)))] := hl
  clear hfr hargs B
  show W p l e rmX4_homesUnlike s m args below meth c s.heap [] 0 0 (MQ below (Qiw (dC, dI) 93 ad (layX ad cy) res σ) args s 0 0 (WA 93 ad)) (F0 m 0 ls [])
  have kB43 : ∀ (x3 : Int32), fX4_homesUnlike_B43 h cx σ x3 = some res → ∀ (H : Heap) (locs : List Loc), va_P (dC, dI) vwCl (wd 93 ad (layX ad cy) σ) H → va_S (WA 93 ad) s.heap H locs → ∀ (ls : Array Slot), lv_has ls 5 [(3, .int x3)] → W p l e rmX4_homesUnlike s m args below meth c H locs 0 0 (MQ below (Qiw (dC, dI) 93 ad (layX ad cy) res σ) args s 0 0 (WA 93 ad)) (F0 m 43 ls []) := by
    intro x3 hf H locs hP hS ls hl
    unfold fX4_homesUnlike_B43 at hf
    refine lv_iload_n hx hb dX4_homesUnlike_43 rfl (lv_at hl 0 rfl) ?_
    exact xt_iret hx hb hr hP hS (Option.some.inj hf) rfl dX4_homesUnlike_44 hlocks
  have loop5 : ∀ (n5 : Nat) (x3 : Int32) (x4 : Int32), fX4_homesUnlike_L5 h cx σ (fun y3 => fX4_homesUnlike_B43 h cx σ y3) n5 x3 x4 = some res → ∀ (H : Heap) (locs : List Loc), va_P (dC, dI) vwCl (wd 93 ad (layX ad cy) σ) H → va_S (WA 93 ad) s.heap H locs → ∀ (ls : Array Slot), lv_has ls 5 [(0, .ref (ad 7)), (1, .ref (ad (33 + 5 * h))), (2, .ref (ad (15 + 9 * cx))), (3, .int x3), (4, .int x4)] → W p l e rmX4_homesUnlike s m args below meth c H locs 0 0 (MQ below (Qiw (dC, dI) 93 ad (layX ad cy) res σ) args s 0 0 (WA 93 ad)) (F0 m 5 ls []) := by
    intro n5
    induction n5 with
    | zero => intro x3 x4 hf; simp [fX4_homesUnlike_L5] at hf
    | succ n5 ih5 =>
      intro x3 x4 hf H locs hP hS ls hl
      rw [fX4_homesUnlike_L5] at hf
      refine lv_iload hx hb dX4_homesUnlike_5 (lv_at hl 4 rfl) ?_
      refine lv_aload_n hx hb dX4_homesUnlike_7 rfl (lv_at hl 1 rfl) ?_
      refine xt_get (ci := 1) (C := RX1) (T := TX1) (n := 8) (v := .int (σ (33 + 5 * h) 5)) hx hb hts iX4_homesUnlike_X1 hown hK hP (33 + 5 * h) (by omega) (LX1_obj ad cy h hh _) rfl 5 (by decide) w1 rfl dX4_homesUnlike_8 ?_
      refine lv_icmp_ge (tgt := 43) hx hb dX4_homesUnlike_11 (by decide) (fun c1 => ?_) (fun c1 => ?_)
      · have hf := (if_pos c1).symm.trans hf
        exact kB43 x3 hf H locs hP hS ls (lv_sub hl [3] rfl)
      · have hf := (if_neg c1).symm.trans hf
        refine lv_aload_n hx hb dX4_homesUnlike_14 rfl (lv_at hl 2 rfl) ?_
        refine lv_aload_n hx hb dX4_homesUnlike_15 rfl (lv_at hl 1 rfl) ?_
        refine lv_iload hx hb dX4_homesUnlike_16 (lv_at hl 4 rfl) ?_
        obtain ⟨r2, qr2, hf⟩ := bd_some hf
        refine xt_callVi (As := [.int x4]) (rest := [.ref (ad (15 + 9 * cx))]) (C := RX1) (ci := 1) ⟨hx, hb, hml, hown, hts⟩ (33 + 5 * h) (mX1_pointOf l dC dI ad cy hJ h hh σ x4 r2 qr2) (cwV 1 hts gX4_homesUnlike_X1_pointOf rfl rfl rfl dmX1_pointOf ⟨Nat.le_of_ble_eq_true rfl, Nat.le_of_ble_eq_true rfl⟩) hK hP hS (by omega) (LX1_obj ad cy h hh _) rfl rfl rfl hl.1 (Nat.le_of_ble_eq_true rfl) ⟨Nat.zero_le _, Nat.zero_le _⟩ dX4_homesUnlike_18 (fun H locs hP hS => ?_)
        obtain ⟨r3, qr3, hf⟩ := bd_some hf
        refine xt_callVi (As := [.int r2]) (rest := []) (C := RX0) (ci := 0) ⟨hx, hb, hml, hown, hts⟩ (15 + 9 * cx) (mX0_homeByTree l dC dI ad cy hJ cx hcx σ r2 r3 qr3) (cwV 1 hts gX4_homesUnlike_X0_homeByTree rfl rfl rfl dmX0_homeByTree ⟨Nat.le_of_ble_eq_true rfl, Nat.le_of_ble_eq_true rfl⟩) hK hP hS (by omega) (LX0_obj ad cy cx hcx _) rfl rfl rfl hl.1 (Nat.le_of_ble_eq_true rfl) ⟨Nat.zero_le _, Nat.zero_le _⟩ dX4_homesUnlike_21 (fun H locs hP hS => ?_)
        refine lv_aload_n hx hb dX4_homesUnlike_24 rfl (lv_at hl 0 rfl) ?_
        refine xt_get (ci := 4) (C := RX4) (T := TX4) (n := 9) (v := .ref (ad 8)) hx hb hts iX4_homesUnlike_X4 hown hK hP 7 (by decide) (LX4_obj ad cy _) rfl 0 (by decide) w2 rfl dX4_homesUnlike_25 ?_
        refine lv_iload hx hb dX4_homesUnlike_28 (lv_at hl 4 rfl) ?_
        obtain ⟨g4, hf⟩ := gd_some hf
        refine xt_iald hx hb hK hP 8 (by decide) 0 (LX4_homes ad cy _) rfl g4 dX4_homesUnlike_30 ?_
        refine lv_icmp_eq (tgt := 37) hx hb dX4_homesUnlike_31 (by decide) (fun c5 => ?_) (fun c5 => ?_)
        · have hf := (if_pos c5).symm.trans hf
          obtain ⟨v6, ev6⟩ : ∃ y : Int32, y = x4 + 1 := ⟨_, rfl⟩
          have hf := nm_to hf ev6
          refine lv_iinc (v := v6) (lv' := [(4, .int v6), (0, .ref (ad 7)), (1, .ref (ad (33 + 5 * h))), (2, .ref (ad (15 + 9 * cx))), (3, .int x3)]) hx hb dX4_homesUnlike_37 hl (k := 4) rfl (by rw [ev6]; rfl) (by decide) rfl (fun ls hl => ?_)
          refine lv_goto (tgt := 5) hx hb dX4_homesUnlike_40 (by decide) ?_
          exact ih5 x3 v6 hf H locs hP hS ls (lv_sub hl [1, 2, 3, 4, 0] rfl)
        · have hf := (if_neg c5).symm.trans hf
          obtain ⟨v7, ev7⟩ : ∃ y : Int32, y = x3 + 1 := ⟨_, rfl⟩
          have hf := nm_to hf ev7
          refine lv_iinc (v := v7) (lv' := [(3, .int v7), (0, .ref (ad 7)), (1, .ref (ad (33 + 5 * h))), (2, .ref (ad (15 + 9 * cx))), (4, .int x4)]) hx hb dX4_homesUnlike_34 hl (k := 3) rfl (by rw [ev7]; rfl) (by decide) rfl (fun ls hl => ?_)
          obtain ⟨v8, ev8⟩ : ∃ y : Int32, y = x4 + 1 := ⟨_, rfl⟩
          have hf := nm_to hf ev8
          refine lv_iinc (v := v8) (lv' := [(4, .int v8), (3, .int v7), (0, .ref (ad 7)), (1, .ref (ad (33 + 5 * h))), (2, .ref (ad (15 + 9 * cx)))]) hx hb dX4_homesUnlike_37 hl (k := 4) rfl (by rw [ev8]; rfl) (by decide) rfl (fun ls hl => ?_)
          refine lv_goto (tgt := 5) hx hb dX4_homesUnlike_40 (by decide) ?_
          exact ih5 v7 v8 hf H locs hP hS ls (lv_sub hl [2, 3, 4, 1, 0] rfl)
  unfold fX4_homesUnlike at hf
  obtain ⟨H, eH⟩ : ∃ H : Heap, H = s.heap := ⟨_, rfl⟩
  rw [← eH] at hP
  have hS : va_S (WA 93 ad) s.heap H [] := by rw [eH]; exact hS
  suffices K : W p l e rmX4_homesUnlike s m args below meth c H [] 0 0 (MQ below (Qiw (dC, dI) 93 ad (layX ad cy) res σ) args s 0 0 (WA 93 ad)) (F0 m 0 ls []) by rw [eH] at K; exact K
  clear eH
  obtain ⟨locs, elocs⟩ : ∃ z : List Loc, z = [] := ⟨_, rfl⟩
  rw [← elocs] at hS ⊢
  refine lv_iconst (v := 0) hx hb dX4_homesUnlike_0 (by decide) ?_
  refine lv_istore_n (lv' := [(3, .int 0), (0, .ref (ad 7)), (1, .ref (ad (33 + 5 * h))), (2, .ref (ad (15 + 9 * cx)))]) hx hb dX4_homesUnlike_1 rfl hl (by decide) rfl (fun ls hl => ?_)
  refine lv_iconst (v := 0) hx hb dX4_homesUnlike_2 (by decide) ?_
  refine lv_istore (lv' := [(4, .int 0), (3, .int 0), (0, .ref (ad 7)), (1, .ref (ad (33 + 5 * h))), (2, .ref (ad (15 + 9 * cx)))]) hx hb dX4_homesUnlike_3 hl (by decide) rfl (fun ls hl => ?_)
  exact loop5 1000 0 0 hf H locs hP hS ls (lv_sub hl [2, 3, 4, 1, 0] rfl)
def fX4_allLyingTons_B25 (σ : St) (x1 : Int32) : Option Int32 :=
  some x1
def fX4_allLyingTons_L4 (σ : St) (K4_25 : Int32 → Option Int32) : Nat → Int32 → Int32 → Option Int32
  | 0, _, _ => none
  | n4 + 1, x1, x2 => if (8 : Int32) ≤ x2 then (K4_25 x1) else (gd (okI x2 8) <| nm (x1 + (σ 14 x2.toNatClampNeg)) fun v3 => nm (x2 + 1) fun v4 => (fX4_allLyingTons_L4 σ K4_25 n4) v3 v4)
def fX4_allLyingTons (σ : St) : Option Int32 :=
  fX4_allLyingTons_L4 σ (fun y1 => fX4_allLyingTons_B25 σ y1) 1000 0 0
abbrev rmX4_allLyingTons : Room := { frames := 0, cells := 0, slots := 0, locals := 0 }
theorem dmX4_allLyingTons : yX4_allLyingTons.cls = RX4 ∧ yX4_allLyingTons.cls ≠ "java/lang/invoke/MethodHandle" ∧ yX4_allLyingTons.cls ≠ "java/lang/invoke/VarHandle" ∧ (parseMethodDescriptor yX4_allLyingTons.desc).map (fun d => d.parameters.length) = some 0 := by decide +kernel
theorem iX4_allLyingTons_X4 : ∀ w ∈ wsX40, w ∈ wsX4_allLyingTons := fun w h => List.mem_cons_of_mem _ (List.mem_append_right _ (h))
set_option maxHeartbeats 8000000 in
set_option maxRecDepth 100000 in
theorem mX4_allLyingTons (l : Launch) (dC : Nat → ClassId) (dI : Nat → Nat → Nat) (ad : Nat → Nat) (cy : Nat → ClassId) (hJ : WJ 93 ad) (σ : St) (res : Int32) (hf : fX4_allLyingTons σ = some res) : CMi l yX4_allLyingTons wsX4_allLyingTons rmX4_allLyingTons (dC, dI) (tysX cy) 93 ad (layX ad cy) [.ref (ad 7)] σ res σ := by
  refine Met.ofW (cc := cX4_allLyingTons) (maxL := 3) (ret := (some .int)) (by decide) rfl ?_
  intro p e s m args below meth c s₁ B hml hv
  obtain ⟨hargs, hP, hK⟩ := hv
  have hx := B.exec
  have hb := B.bytes
  have hr := B.returns
  have hts := atoms_spec (ws := wsX4_allLyingTons) B.pre
  have hown : s.vm.findClass RX4 = some m.cls := findClass_of_methodNamed B.named
  have hlocks := B.notSynchronized
  have w1 := hts (.fieldLink RX4 30 "PierRings$Moorings" "lyingTons" "[I") (List.mem_of_getElem? (i := 1) rfl)
  have hS : va_S (WA 93 ad) s.heap s.heap [] := va_S.rf
  have hfr : entryFrame m args 3 = F0 m 0 ((lg_sl [.ref (ad 7)] ++ List.replicate (3 - (lg_sl [.ref (ad 7)]).length) Slot.unset).toArray) [] := by rw [hargs]; exact lg_entry_eq _ _ _
  rw [hfr]
  have hl := lv_entry ([.ref (ad 7)]) (n := 3) (Nat.le_of_ble_eq_true rfl)
  generalize (lg_sl [.ref (ad 7)] ++ List.replicate (3 - (lg_sl [.ref (ad 7)]).length) Slot.unset).toArray = ls at hl ⊢
  have hl : lv_has ls 3 [(0, .ref (ad 7))] := hl
  clear hfr hargs B
  show W p l e rmX4_allLyingTons s m args below meth c s.heap [] 0 0 (MQ below (Qiw (dC, dI) 93 ad (layX ad cy) res σ) args s 0 0 (WA 93 ad)) (F0 m 0 ls [])
  have kB25 : ∀ (x1 : Int32), fX4_allLyingTons_B25 σ x1 = some res → ∀ (H : Heap) (locs : List Loc), va_P (dC, dI) vwCl (wd 93 ad (layX ad cy) σ) H → va_S (WA 93 ad) s.heap H locs → ∀ (ls : Array Slot), lv_has ls 3 [(1, .int x1)] → W p l e rmX4_allLyingTons s m args below meth c H locs 0 0 (MQ below (Qiw (dC, dI) 93 ad (layX ad cy) res σ) args s 0 0 (WA 93 ad)) (F0 m 25 ls []) := by
    intro x1 hf H locs hP hS ls hl
    unfold fX4_allLyingTons_B25 at hf
    refine lv_iload_n hx hb dX4_allLyingTons_25 rfl (lv_at hl 0 rfl) ?_
    exact xt_iret hx hb hr hP hS (Option.some.inj hf) rfl dX4_allLyingTons_26 hlocks
  have loop4 : ∀ (n4 : Nat) (x1 : Int32) (x2 : Int32), fX4_allLyingTons_L4 σ (fun y1 => fX4_allLyingTons_B25 σ y1) n4 x1 x2 = some res → ∀ (H : Heap) (locs : List Loc), va_P (dC, dI) vwCl (wd 93 ad (layX ad cy) σ) H → va_S (WA 93 ad) s.heap H locs → ∀ (ls : Array Slot), lv_has ls 3 [(0, .ref (ad 7)), (1, .int x1), (2, .int x2)] → W p l e rmX4_allLyingTons s m args below meth c H locs 0 0 (MQ below (Qiw (dC, dI) 93 ad (layX ad cy) res σ) args s 0 0 (WA 93 ad)) (F0 m 4 ls []) := by
    intro n4
    induction n4 with
    | zero => intro x1 x2 hf; simp [fX4_allLyingTons_L4] at hf
    | succ n4 ih4 =>
      intro x1 x2 hf H locs hP hS ls hl
      rw [fX4_allLyingTons_L4] at hf
      refine lv_iload_n hx hb dX4_allLyingTons_4 rfl (lv_at hl 2 rfl) ?_
      refine lv_bipush (v := 8) hx hb dX4_allLyingTons_5 (by decide) ?_
      refine lv_icmp_ge (tgt := 25) hx hb dX4_allLyingTons_7 (by decide) (fun c1 => ?_) (fun c1 => ?_)
      · have hf := (if_pos c1).symm.trans hf
        exact kB25 x1 hf H locs hP hS ls (lv_sub hl [1] rfl)
      · have hf := (if_neg c1).symm.trans hf
        refine lv_iload_n hx hb dX4_allLyingTons_10 rfl (lv_at hl 1 rfl) ?_
        refine lv_aload_n hx hb dX4_allLyingTons_11 rfl (lv_at hl 0 rfl) ?_
        refine xt_get (ci := 4) (C := RX4) (T := TX4) (n := 9) (v := .ref (ad 14)) hx hb hts iX4_allLyingTons_X4 hown hK hP 7 (by decide) (LX4_obj ad cy _) rfl 6 (by decide) w1 rfl dX4_allLyingTons_12 ?_
        refine lv_iload_n hx hb dX4_allLyingTons_15 rfl (lv_at hl 2 rfl) ?_
        obtain ⟨g2, hf⟩ := gd_some hf
        refine xt_iald hx hb hK hP 14 (by decide) 0 (LX4_lyingTons ad cy _) rfl g2 dX4_allLyingTons_16 ?_
        refine lv_iadd hx hb dX4_allLyingTons_17 ?_
        refine lv_topi (fun v3 ev3 => ?_)
        have hf := nm_to hf ev3
        refine lv_istore_n (lv' := [(1, .int v3), (0, .ref (ad 7)), (2, .int x2)]) hx hb dX4_allLyingTons_18 rfl hl (by decide) rfl (fun ls hl => ?_)
        obtain ⟨v4, ev4⟩ : ∃ y : Int32, y = x2 + 1 := ⟨_, rfl⟩
        have hf := nm_to hf ev4
        refine lv_iinc (v := v4) (lv' := [(2, .int v4), (1, .int v3), (0, .ref (ad 7))]) hx hb dX4_allLyingTons_19 hl (k := 2) rfl (by rw [ev4]; rfl) (by decide) rfl (fun ls hl => ?_)
        refine lv_goto (tgt := 4) hx hb dX4_allLyingTons_22 (by decide) ?_
        exact ih4 v3 v4 hf H locs hP hS ls (lv_sub hl [2, 1, 0] rfl)
  unfold fX4_allLyingTons at hf
  obtain ⟨H, eH⟩ : ∃ H : Heap, H = s.heap := ⟨_, rfl⟩
  rw [← eH] at hP
  have hS : va_S (WA 93 ad) s.heap H [] := by rw [eH]; exact hS
  suffices K : W p l e rmX4_allLyingTons s m args below meth c H [] 0 0 (MQ below (Qiw (dC, dI) 93 ad (layX ad cy) res σ) args s 0 0 (WA 93 ad)) (F0 m 0 ls []) by rw [eH] at K; exact K
  clear eH
  obtain ⟨locs, elocs⟩ : ∃ z : List Loc, z = [] := ⟨_, rfl⟩
  rw [← elocs] at hS ⊢
  refine lv_iconst (v := 0) hx hb dX4_allLyingTons_0 (by decide) ?_
  refine lv_istore_n (lv' := [(1, .int 0), (0, .ref (ad 7))]) hx hb dX4_allLyingTons_1 rfl hl (by decide) rfl (fun ls hl => ?_)
  refine lv_iconst (v := 0) hx hb dX4_allLyingTons_2 (by decide) ?_
  refine lv_istore_n (lv' := [(2, .int 0), (1, .int 0), (0, .ref (ad 7))]) hx hb dX4_allLyingTons_3 rfl hl (by decide) rfl (fun ls hl => ?_)
  exact loop4 1000 0 0 hf H locs hP hS ls (lv_sub hl [2, 1, 0] rfl)
def fX2_draft (h : Nat) (σ : St) : Option St :=
  gd (okI (σ 1 2) 9) <| bd (fX1_takeFrom (3 + (σ 1 2).toNatClampNeg) h σ) fun r3 => some r3
abbrev rmX2_draft : Room := { frames := 2, cells := 0, slots := 0, locals := 85 }
theorem dmX2_draft : yX2_draft.cls = RX2 ∧ yX2_draft.cls ≠ "java/lang/invoke/MethodHandle" ∧ yX2_draft.cls ≠ "java/lang/invoke/VarHandle" ∧ (parseMethodDescriptor yX2_draft.desc).map (fun d => d.parameters.length) = some 1 := by decide +kernel
theorem iX2_draft_X2 : ∀ w ∈ wsX20, w ∈ wsX2_draft := fun w h => List.mem_cons_of_mem _ (List.mem_append_left _ (List.mem_append_right _ (h)))
set_option maxHeartbeats 8000000 in
set_option maxRecDepth 100000 in
theorem mX2_draft (l : Launch) (dC : Nat → ClassId) (dI : Nat → Nat → Nat) (ad : Nat → Nat) (cy : Nat → ClassId) (hJ : WJ 93 ad) (h : Nat) (hh : h < 12) (σ : St) (res : St) (hf : fX2_draft h σ = some res) : CMv l yX2_draft wsX2_draft rmX2_draft (dC, dI) (tysX cy) 93 ad (layX ad cy) [.ref (ad 1), .ref (ad (33 + 5 * h))] σ res := by
  refine Met.ofW (cc := cX2_draft) (maxL := 2) (ret := none) (by decide) rfl ?_
  intro p e s m args below meth c s₁ B hml hv
  obtain ⟨hargs, hP, hK⟩ := hv
  have hx := B.exec
  have hb := B.bytes
  have hr := B.returns
  have hts := atoms_spec (ws := wsX2_draft) B.pre
  have hown : s.vm.findClass RX2 = some m.cls := findClass_of_methodNamed B.named
  have hlocks := B.notSynchronized
  have w1 := hts (.fieldLink RX2 17 "PierRings$History" "rows" "[LPierRings$Harbour;") (List.mem_of_getElem? (i := 1) rfl)
  have w2 := hts (.fieldLink RX2 21 "PierRings$History" "next" "I") (List.mem_of_getElem? (i := 2) rfl)
  have hS : va_S (WA 93 ad) s.heap s.heap [] := va_S.rf
  have hfr : entryFrame m args 2 = F0 m 0 ((lg_sl [.ref (ad 1), .ref (ad (33 + 5 * h))] ++ List.replicate (2 - (lg_sl [.ref (ad 1), .ref (ad (33 + 5 * h))]).length) Slot.unset).toArray) [] := by rw [hargs]; exact lg_entry_eq _ _ _
  rw [hfr]
  have hl := lv_entry ([.ref (ad 1), .ref (ad (33 + 5 * h))]) (n := 2) (Nat.le_of_ble_eq_true rfl)
  generalize (lg_sl [.ref (ad 1), .ref (ad (33 + 5 * h))] ++ List.replicate (2 - (lg_sl [.ref (ad 1), .ref (ad (33 + 5 * h))]).length) Slot.unset).toArray = ls at hl ⊢
  have hl : lv_has ls 2 [(0, .ref (ad 1)), (1, .ref (ad (33 + 5 * h)))] := hl
  clear hfr hargs B
  show W p l e rmX2_draft s m args below meth c s.heap [] 0 0 (MQ below (Qvw (dC, dI) 93 ad (layX ad cy) res) args s 0 0 (WA 93 ad)) (F0 m 0 ls [])
  unfold fX2_draft at hf
  obtain ⟨H, eH⟩ : ∃ H : Heap, H = s.heap := ⟨_, rfl⟩
  rw [← eH] at hP
  have hS : va_S (WA 93 ad) s.heap H [] := by rw [eH]; exact hS
  suffices K : W p l e rmX2_draft s m args below meth c H [] 0 0 (MQ below (Qvw (dC, dI) 93 ad (layX ad cy) res) args s 0 0 (WA 93 ad)) (F0 m 0 ls []) by rw [eH] at K; exact K
  clear eH
  obtain ⟨locs, elocs⟩ : ∃ z : List Loc, z = [] := ⟨_, rfl⟩
  rw [← elocs] at hS ⊢
  refine lv_aload_n hx hb dX2_draft_0 rfl (lv_at hl 0 rfl) ?_
  refine xt_get (ci := 2) (C := RX2) (T := TX2) (n := 3) (v := .ref (ad 2)) hx hb hts iX2_draft_X2 hown hK hP 1 (by decide) (LX2_obj ad cy _) rfl 1 (by decide) w1 rfl dX2_draft_1 ?_
  refine lv_aload_n hx hb dX2_draft_4 rfl (lv_at hl 0 rfl) ?_
  refine xt_get (ci := 2) (C := RX2) (T := TX2) (n := 3) (v := .int (σ 1 2)) hx hb hts iX2_draft_X2 hown hK hP 1 (by decide) (LX2_obj ad cy _) rfl 2 (by decide) w2 rfl dX2_draft_5 ?_
  obtain ⟨g1, hf⟩ := gd_some hf
  refine xt_aaldq (f := fun j => 33 + 5 * (3 + j)) hx hb hK hP 2 (by decide) 3 (LX2_rows ad cy _) rfl g1 dX2_draft_8 ?_
  have hq2 : (3 + (σ 1 2).toNatClampNeg) < 12 := by have := okI_lt g1; omega
  refine lv_aload_n hx hb dX2_draft_9 rfl (lv_at hl 1 rfl) ?_
  obtain ⟨r3, qr3, hf⟩ := bd_some hf
  refine xt_callVv (As := [.ref (ad (33 + 5 * h))]) (rest := []) (C := RX1) (ci := 1) ⟨hx, hb, hml, hown, hts⟩ (33 + 5 * (3 + (σ 1 2).toNatClampNeg)) (mX1_takeFrom l dC dI ad cy hJ (3 + (σ 1 2).toNatClampNeg) hq2 h hh σ r3 qr3) (cwV 1 hts gX2_draft_X1_takeFrom rfl rfl rfl dmX1_takeFrom ⟨Nat.le_of_ble_eq_true rfl, Nat.le_of_ble_eq_true rfl⟩) hK hP hS (by omega) (LX1_obj ad cy (3 + (σ 1 2).toNatClampNeg) hq2 _) rfl rfl rfl hl.1 (Nat.le_of_ble_eq_true rfl) ⟨Nat.zero_le _, Nat.zero_le _⟩ dX2_draft_10 (fun H locs hP hS => ?_)
  exact xt_vret hx hb hr hP hS (Option.some.inj hf) dX2_draft_13 hlocks
def fX2_keepDraft (σ : St) : Option St :=
  nm (su σ 1 2 (jrem ((σ 1 2) + 1) 9)) fun σ1 => nm (su σ1 1 0 (if (8 : Int32) < ((σ1 1 0) + 1) then (8 : Int32) else ((σ1 1 0) + 1))) fun σ2 => some σ2
abbrev rmX2_keepDraft : Room := { frames := 1, cells := 0, slots := 0, locals := 64 }
theorem dmX2_keepDraft : yX2_keepDraft.cls = RX2 ∧ yX2_keepDraft.cls ≠ "java/lang/invoke/MethodHandle" ∧ yX2_keepDraft.cls ≠ "java/lang/invoke/VarHandle" ∧ (parseMethodDescriptor yX2_keepDraft.desc).map (fun d => d.parameters.length) = some 0 := by decide +kernel
theorem iX2_keepDraft_X2 : ∀ w ∈ wsX20, w ∈ wsX2_keepDraft := fun w h => List.mem_cons_of_mem _ (List.mem_append_right _ (h))
set_option maxHeartbeats 8000000 in
set_option maxRecDepth 100000 in
theorem mX2_keepDraft (l : Launch) (dC : Nat → ClassId) (dI : Nat → Nat → Nat) (ad : Nat → Nat) (cy : Nat → ClassId) (hJ : WJ 93 ad) (σ : St) (res : St) (hf : fX2_keepDraft σ = some res) : CMv l yX2_keepDraft wsX2_keepDraft rmX2_keepDraft (dC, dI) (tysX cy) 93 ad (layX ad cy) [.ref (ad 1)] σ res := by
  refine Met.ofW (cc := cX2_keepDraft) (maxL := 1) (ret := none) (by decide) rfl ?_
  intro p e s m args below meth c s₁ B hml hv
  obtain ⟨hargs, hP, hK⟩ := hv
  have hx := B.exec
  have hb := B.bytes
  have hr := B.returns
  have hts := atoms_spec (ws := wsX2_keepDraft) B.pre
  have hown : s.vm.findClass RX2 = some m.cls := findClass_of_methodNamed B.named
  have hlocks := B.notSynchronized
  have w1 := hts (.fieldLink RX2 21 "PierRings$History" "next" "I") (List.mem_of_getElem? (i := 1) rfl)
  have w2 := hts (.fieldLink RX2 9 "PierRings$History" "kept" "I") (List.mem_of_getElem? (i := 2) rfl)
  have w3 := hts (.methodLink RX2 29 Lib.Math.min.name) (List.mem_of_getElem? (i := 3) rfl)
  have w4 := hts (.static Lib.Math.min.name) (List.mem_of_getElem? (i := 4) rfl)
  have w5 := hts (.initialized "java/lang/Math") (List.mem_of_getElem? (i := 5) rfl)
  have w6 := hts (.code Lib.Math.min.name Lib.Math.min.code 2 (some .int)) (List.mem_of_getElem? (i := 6) rfl)
  have hS : va_S (WA 93 ad) s.heap s.heap [] := va_S.rf
  have hfr : entryFrame m args 1 = F0 m 0 ((lg_sl [.ref (ad 1)] ++ List.replicate (1 - (lg_sl [.ref (ad 1)]).length) Slot.unset).toArray) [] := by rw [hargs]; exact lg_entry_eq _ _ _
  rw [hfr]
  have hl := lv_entry ([.ref (ad 1)]) (n := 1) (Nat.le_of_ble_eq_true rfl)
  generalize (lg_sl [.ref (ad 1)] ++ List.replicate (1 - (lg_sl [.ref (ad 1)]).length) Slot.unset).toArray = ls at hl ⊢
  have hl : lv_has ls 1 [(0, .ref (ad 1))] := hl
  clear hfr hargs B
  show W p l e rmX2_keepDraft s m args below meth c s.heap [] 0 0 (MQ below (Qvw (dC, dI) 93 ad (layX ad cy) res) args s 0 0 (WA 93 ad)) (F0 m 0 ls [])
  unfold fX2_keepDraft at hf
  obtain ⟨H, eH⟩ : ∃ H : Heap, H = s.heap := ⟨_, rfl⟩
  rw [← eH] at hP
  have hS : va_S (WA 93 ad) s.heap H [] := by rw [eH]; exact hS
  suffices K : W p l e rmX2_keepDraft s m args below meth c H [] 0 0 (MQ below (Qvw (dC, dI) 93 ad (layX ad cy) res) args s 0 0 (WA 93 ad)) (F0 m 0 ls []) by rw [eH] at K; exact K
  clear eH
  obtain ⟨locs, elocs⟩ : ∃ z : List Loc, z = [] := ⟨_, rfl⟩
  rw [← elocs] at hS ⊢
  refine lv_aload_n hx hb dX2_keepDraft_0 rfl (lv_at hl 0 rfl) ?_
  refine lv_aload_n hx hb dX2_keepDraft_1 rfl (lv_at hl 0 rfl) ?_
  refine xt_get (ci := 2) (C := RX2) (T := TX2) (n := 3) (v := .int (σ 1 2)) hx hb hts iX2_keepDraft_X2 hown hK hP 1 (by decide) (LX2_obj ad cy _) rfl 2 (by decide) w1 rfl dX2_keepDraft_2 ?_
  refine lv_iconst (v := 1) hx hb dX2_keepDraft_5 (by decide) ?_
  refine lv_iadd hx hb dX2_keepDraft_6 ?_
  refine lv_bipush (v := 9) hx hb dX2_keepDraft_7 (by decide) ?_
  refine xt_irem hx hb dX2_keepDraft_9 (by decide) ?_
  refine xt_put (ci := 2) (C := RX2) (T := TX2) (n := 3) hx hb hts iX2_keepDraft_X2 tyX2 tyX2_ok nmX2 hown hK hP hJ hS 1 (by decide) (LX2_obj ad cy _) rfl 2 (by decide) w1 rfl (v := (jrem ((σ 1 2) + 1) 9)) rfl rfl (Nat.le_of_ble_eq_true rfl) (LX2_obj ad cy _) dX2_keepDraft_10 (fun H locs hP hS => ?_)
  obtain ⟨σ1, eσ1⟩ : ∃ z : St, z = su σ 1 2 (jrem ((σ 1 2) + 1) 9) := ⟨_, rfl⟩
  rw [← eσ1] at hP
  have hf := nm_to hf eσ1
  refine lv_aload_n hx hb dX2_keepDraft_13 rfl (lv_at hl 0 rfl) ?_
  refine lv_aload_n hx hb dX2_keepDraft_14 rfl (lv_at hl 0 rfl) ?_
  refine xt_get (ci := 2) (C := RX2) (T := TX2) (n := 3) (v := .int (σ1 1 0)) hx hb hts iX2_keepDraft_X2 hown hK hP 1 (by decide) (LX2_obj ad cy _) rfl 0 (by decide) w2 rfl dX2_keepDraft_15 ?_
  refine lv_iconst (v := 1) hx hb dX2_keepDraft_18 (by decide) ?_
  refine lv_iadd hx hb dX2_keepDraft_19 ?_
  refine lv_bipush (v := 8) hx hb dX2_keepDraft_20 (by decide) ?_
  refine va_mmin hx hb (hml.trans hl.1.symm) hown w3 w4 w5 w6 (Nat.le_of_ble_eq_true rfl) (Nat.le_of_ble_eq_true rfl) (Nat.zero_le _) (Nat.zero_le _) dX2_keepDraft_22 ?_
  refine xt_put (ci := 2) (C := RX2) (T := TX2) (n := 3) hx hb hts iX2_keepDraft_X2 tyX2 tyX2_ok nmX2 hown hK hP hJ hS 1 (by decide) (LX2_obj ad cy _) rfl 0 (by decide) w2 rfl (v := (if (8 : Int32) < ((σ1 1 0) + 1) then (8 : Int32) else ((σ1 1 0) + 1))) rfl rfl (Nat.le_of_ble_eq_true rfl) (LX2_obj ad cy _) dX2_keepDraft_25 (fun H locs hP hS => ?_)
  obtain ⟨σ2, eσ2⟩ : ∃ z : St, z = su σ1 1 0 (if (8 : Int32) < ((σ1 1 0) + 1) then (8 : Int32) else ((σ1 1 0) + 1)) := ⟨_, rfl⟩
  rw [← eσ2] at hP
  have hf := nm_to hf eσ2
  exact xt_vret hx hb hr hP hS (Option.some.inj hf) dX2_keepDraft_28 hlocks
def fX3_empty (σ : St) : Option St :=
  nm (su σ 5 1 0) fun σ1 => some σ1
abbrev rmX3_empty : Room := { frames := 0, cells := 0, slots := 0, locals := 0 }
theorem dmX3_empty : yX3_empty.cls = RX3 ∧ yX3_empty.cls ≠ "java/lang/invoke/MethodHandle" ∧ yX3_empty.cls ≠ "java/lang/invoke/VarHandle" ∧ (parseMethodDescriptor yX3_empty.desc).map (fun d => d.parameters.length) = some 0 := by decide +kernel
theorem iX3_empty_X3 : ∀ w ∈ wsX30, w ∈ wsX3_empty := fun w h => List.mem_cons_of_mem _ (List.mem_append_right _ (h))
set_option maxHeartbeats 8000000 in
set_option maxRecDepth 100000 in
theorem mX3_empty (l : Launch) (dC : Nat → ClassId) (dI : Nat → Nat → Nat) (ad : Nat → Nat) (cy : Nat → ClassId) (hJ : WJ 93 ad) (σ : St) (res : St) (hf : fX3_empty σ = some res) : CMv l yX3_empty wsX3_empty rmX3_empty (dC, dI) (tysX cy) 93 ad (layX ad cy) [.ref (ad 5)] σ res := by
  refine Met.ofW (cc := cX3_empty) (maxL := 1) (ret := none) (by decide) rfl ?_
  intro p e s m args below meth c s₁ B hml hv
  obtain ⟨hargs, hP, hK⟩ := hv
  have hx := B.exec
  have hb := B.bytes
  have hr := B.returns
  have hts := atoms_spec (ws := wsX3_empty) B.pre
  have hown : s.vm.findClass RX3 = some m.cls := findClass_of_methodNamed B.named
  have hlocks := B.notSynchronized
  have w1 := hts (.fieldLink RX3 15 "PierRings$Line" "length" "I") (List.mem_of_getElem? (i := 1) rfl)
  have hS : va_S (WA 93 ad) s.heap s.heap [] := va_S.rf
  have hfr : entryFrame m args 1 = F0 m 0 ((lg_sl [.ref (ad 5)] ++ List.replicate (1 - (lg_sl [.ref (ad 5)]).length) Slot.unset).toArray) [] := by rw [hargs]; exact lg_entry_eq _ _ _
  rw [hfr]
  have hl := lv_entry ([.ref (ad 5)]) (n := 1) (Nat.le_of_ble_eq_true rfl)
  generalize (lg_sl [.ref (ad 5)] ++ List.replicate (1 - (lg_sl [.ref (ad 5)]).length) Slot.unset).toArray = ls at hl ⊢
  have hl : lv_has ls 1 [(0, .ref (ad 5))] := hl
  clear hfr hargs B
  show W p l e rmX3_empty s m args below meth c s.heap [] 0 0 (MQ below (Qvw (dC, dI) 93 ad (layX ad cy) res) args s 0 0 (WA 93 ad)) (F0 m 0 ls [])
  unfold fX3_empty at hf
  obtain ⟨H, eH⟩ : ∃ H : Heap, H = s.heap := ⟨_, rfl⟩
  rw [← eH] at hP
  have hS : va_S (WA 93 ad) s.heap H [] := by rw [eH]; exact hS
  suffices K : W p l e rmX3_empty s m args below meth c H [] 0 0 (MQ below (Qvw (dC, dI) 93 ad (layX ad cy) res) args s 0 0 (WA 93 ad)) (F0 m 0 ls []) by rw [eH] at K; exact K
  clear eH
  obtain ⟨locs, elocs⟩ : ∃ z : List Loc, z = [] := ⟨_, rfl⟩
  rw [← elocs] at hS ⊢
  refine lv_aload_n hx hb dX3_empty_0 rfl (lv_at hl 0 rfl) ?_
  refine lv_iconst (v := 0) hx hb dX3_empty_1 (by decide) ?_
  refine xt_put (ci := 3) (C := RX3) (T := TX3) (n := 2) hx hb hts iX3_empty_X3 tyX3 tyX3_ok nmX3 hown hK hP hJ hS 5 (by decide) (LX3_obj ad cy _) rfl 1 (by decide) w1 rfl (v := 0) rfl rfl (Nat.le_of_ble_eq_true rfl) (LX3_obj ad cy _) dX3_empty_2 (fun H locs hP hS => ?_)
  obtain ⟨σ1, eσ1⟩ : ∃ z : St, z = su σ 5 1 0 := ⟨_, rfl⟩
  rw [← eσ1] at hP
  have hf := nm_to hf eσ1
  exact xt_vret hx hb hr hP hS (Option.some.inj hf) dX3_empty_5 hlocks
def fX3_put (σ : St) (a1 : Int32) : Option St :=
  if (80 : Int32) ≤ (σ 5 1) then (some σ) else (gd (okI (σ 5 1) 80) <| nm (su σ 6 (σ 5 1).toNatClampNeg (vp_nar .char a1)) fun σ3 => nm (su σ3 5 1 ((σ3 5 1) + 1)) fun σ4 => some σ4)
abbrev rmX3_put : Room := { frames := 0, cells := 0, slots := 0, locals := 0 }
theorem dmX3_put : yX3_put.cls = RX3 ∧ yX3_put.cls ≠ "java/lang/invoke/MethodHandle" ∧ yX3_put.cls ≠ "java/lang/invoke/VarHandle" ∧ (parseMethodDescriptor yX3_put.desc).map (fun d => d.parameters.length) = some 1 := by decide +kernel
theorem iX3_put_X3 : ∀ w ∈ wsX30, w ∈ wsX3_put := fun w h => List.mem_cons_of_mem _ (List.mem_append_right _ (h))
set_option maxHeartbeats 8000000 in
set_option maxRecDepth 100000 in
theorem mX3_put (l : Launch) (dC : Nat → ClassId) (dI : Nat → Nat → Nat) (ad : Nat → Nat) (cy : Nat → ClassId) (hJ : WJ 93 ad) (σ : St) (a1 : Int32) (res : St) (hf : fX3_put σ a1 = some res) : CMv l yX3_put wsX3_put rmX3_put (dC, dI) (tysX cy) 93 ad (layX ad cy) [.ref (ad 5), .int a1] σ res := by
  refine Met.ofW (cc := cX3_put) (maxL := 2) (ret := none) (by decide) rfl ?_
  intro p e s m args below meth c s₁ B hml hv
  obtain ⟨hargs, hP, hK⟩ := hv
  have hx := B.exec
  have hb := B.bytes
  have hr := B.returns
  have hts := atoms_spec (ws := wsX3_put) B.pre
  have hown : s.vm.findClass RX3 = some m.cls := findClass_of_methodNamed B.named
  have hlocks := B.notSynchronized
  have w1 := hts (.fieldLink RX3 15 "PierRings$Line" "length" "I") (List.mem_of_getElem? (i := 1) rfl)
  have w2 := hts (.fieldLink RX3 9 "PierRings$Line" "signs" "[C") (List.mem_of_getElem? (i := 2) rfl)
  have hS : va_S (WA 93 ad) s.heap s.heap [] := va_S.rf
  have hfr : entryFrame m args 2 = F0 m 0 ((lg_sl [.ref (ad 5), .int a1] ++ List.replicate (2 - (lg_sl [.ref (ad 5), .int a1]).length) Slot.unset).toArray) [] := by rw [hargs]; exact lg_entry_eq _ _ _
  rw [hfr]
  have hl := lv_entry ([.ref (ad 5), .int a1]) (n := 2) (Nat.le_of_ble_eq_true rfl)
  generalize (lg_sl [.ref (ad 5), .int a1] ++ List.replicate (2 - (lg_sl [.ref (ad 5), .int a1]).length) Slot.unset).toArray = ls at hl ⊢
  have hl : lv_has ls 2 [(0, .ref (ad 5)), (1, .int a1)] := hl
  clear hfr hargs B
  show W p l e rmX3_put s m args below meth c s.heap [] 0 0 (MQ below (Qvw (dC, dI) 93 ad (layX ad cy) res) args s 0 0 (WA 93 ad)) (F0 m 0 ls [])
  unfold fX3_put at hf
  obtain ⟨H, eH⟩ : ∃ H : Heap, H = s.heap := ⟨_, rfl⟩
  rw [← eH] at hP
  have hS : va_S (WA 93 ad) s.heap H [] := by rw [eH]; exact hS
  suffices K : W p l e rmX3_put s m args below meth c H [] 0 0 (MQ below (Qvw (dC, dI) 93 ad (layX ad cy) res) args s 0 0 (WA 93 ad)) (F0 m 0 ls []) by rw [eH] at K; exact K
  clear eH
  obtain ⟨locs, elocs⟩ : ∃ z : List Loc, z = [] := ⟨_, rfl⟩
  rw [← elocs] at hS ⊢
  refine lv_aload_n hx hb dX3_put_0 rfl (lv_at hl 0 rfl) ?_
  refine xt_get (ci := 3) (C := RX3) (T := TX3) (n := 2) (v := .int (σ 5 1)) hx hb hts iX3_put_X3 hown hK hP 5 (by decide) (LX3_obj ad cy _) rfl 1 (by decide) w1 rfl dX3_put_1 ?_
  refine lv_bipush (v := 80) hx hb dX3_put_4 (by decide) ?_
  refine lv_icmp_ge (tgt := 29) hx hb dX3_put_6 (by decide) (fun c1 => ?_) (fun c1 => ?_)
  · have hf := (if_pos c1).symm.trans hf
    exact xt_vret hx hb hr hP hS (Option.some.inj hf) dX3_put_29 hlocks
  · have hf := (if_neg c1).symm.trans hf
    refine lv_aload_n hx hb dX3_put_9 rfl (lv_at hl 0 rfl) ?_
    refine xt_get (ci := 3) (C := RX3) (T := TX3) (n := 2) (v := .ref (ad 6)) hx hb hts iX3_put_X3 hown hK hP 5 (by decide) (LX3_obj ad cy _) rfl 0 (by decide) w2 rfl dX3_put_10 ?_
    refine lv_aload_n hx hb dX3_put_13 rfl (lv_at hl 0 rfl) ?_
    refine xt_get (ci := 3) (C := RX3) (T := TX3) (n := 2) (v := .int (σ 5 1)) hx hb hts iX3_put_X3 hown hK hP 5 (by decide) (LX3_obj ad cy _) rfl 1 (by decide) w1 rfl dX3_put_14 ?_
    refine lv_iload_n hx hb dX3_put_17 rfl (lv_at hl 1 rfl) ?_
    obtain ⟨g2, hf⟩ := gd_some hf
    refine xt_cast hx hb hK hP hJ hS 6 (by decide) 2 (LX3_signs ad cy) rfl g2 dX3_put_18 (fun H locs hP hS => ?_)
    obtain ⟨σ3, eσ3⟩ : ∃ z : St, z = su σ 6 (σ 5 1).toNatClampNeg (vp_nar .char a1) := ⟨_, rfl⟩
    rw [← eσ3] at hP
    have hf := nm_to hf eσ3
    refine lv_aload_n hx hb dX3_put_19 rfl (lv_at hl 0 rfl) ?_
    refine lv_dup hx hb dX3_put_20 rfl ?_
    refine xt_get (ci := 3) (C := RX3) (T := TX3) (n := 2) (v := .int (σ3 5 1)) hx hb hts iX3_put_X3 hown hK hP 5 (by decide) (LX3_obj ad cy _) rfl 1 (by decide) w1 rfl dX3_put_21 ?_
    refine lv_iconst (v := 1) hx hb dX3_put_24 (by decide) ?_
    refine lv_iadd hx hb dX3_put_25 ?_
    refine xt_put (ci := 3) (C := RX3) (T := TX3) (n := 2) hx hb hts iX3_put_X3 tyX3 tyX3_ok nmX3 hown hK hP hJ hS 5 (by decide) (LX3_obj ad cy _) rfl 1 (by decide) w1 rfl (v := ((σ3 5 1) + 1)) rfl rfl (Nat.le_of_ble_eq_true rfl) (LX3_obj ad cy _) dX3_put_26 (fun H locs hP hS => ?_)
    obtain ⟨σ4, eσ4⟩ : ∃ z : St, z = su σ3 5 1 ((σ3 5 1) + 1) := ⟨_, rfl⟩
    rw [← eσ4] at hP
    have hf := nm_to hf eσ4
    exact xt_vret hx hb hr hP hS (Option.some.inj hf) dX3_put_29 hlocks
def fX3_putNumber_B60 (σ : St) : Option St :=
  some σ
def fX3_putNumber_B37 (G6 : St → Int32 → Int32 → Option St) (K6_60 : St → Option St) (σ : St) (x1 : Int32) (x3 : Int32) (x4 : Int32) (t0 : Int32) : Option St :=
  if t0 = 0 then (nm (x3 / 10) fun v2 => G6 σ t0 v2) else (bd (fX3_put σ ((((48 + x4)).toUInt32 % 65536).toInt32)) fun r3 => nm (x3 / 10) fun v4 => G6 r3 t0 v4)
def fX3_putNumber_B32 (G6 : St → Int32 → Int32 → Option St) (K6_60 : St → Option St) (σ : St) (x1 : Int32) (x3 : Int32) (x4 : Int32) : Option St :=
  fX3_putNumber_B37 G6 K6_60 σ x1 x3 x4 1
def fX3_putNumber_L6 (x1 : Int32) (K6_60 : St → Option St) : Nat → St → Int32 → Int32 → Option St
  | 0, _, _, _ => none
  | n6 + 1, σ, x2, x3 => if x3 ≤ 0 then (K6_60 σ) else (gd (okZ x3) <| nm (jrem (x1 / x3) 10) fun v7 => if x2 = 0 then (if v7 = 0 then (if x3 = (1 : Int32) then (fX3_putNumber_B32 (fX3_putNumber_L6 x1 K6_60 n6) K6_60 σ x1 x3 v7) else (fX3_putNumber_B37 (fX3_putNumber_L6 x1 K6_60 n6) K6_60 σ x1 x3 v7 0)) else (fX3_putNumber_B32 (fX3_putNumber_L6 x1 K6_60 n6) K6_60 σ x1 x3 v7)) else (fX3_putNumber_B32 (fX3_putNumber_L6 x1 K6_60 n6) K6_60 σ x1 x3 v7))
def fX3_putNumber (σ : St) (a1 : Int32) : Option St :=
  fX3_putNumber_L6 a1 (fun σ => fX3_putNumber_B60 σ) 1000 σ 0 1000
abbrev rmX3_putNumber : Room := { frames := 1, cells := 0, slots := 0, locals := 21 }
theorem dmX3_putNumber : yX3_putNumber.cls = RX3 ∧ yX3_putNumber.cls ≠ "java/lang/invoke/MethodHandle" ∧ yX3_putNumber.cls ≠ "java/lang/invoke/VarHandle" ∧ (parseMethodDescriptor yX3_putNumber.desc).map (fun d => d.parameters.length) = some 1 := by decide +kernel
set_option maxHeartbeats 8000000 in
set_option maxRecDepth 100000 in
theorem mX3_putNumber (l : Launch) (dC : Nat → ClassId) (dI : Nat → Nat → Nat) (ad : Nat → Nat) (cy : Nat → ClassId) (hJ : WJ 93 ad) (σ : St) (a1 : Int32) (res : St) (hf : fX3_putNumber σ a1 = some res) : CMv l yX3_putNumber wsX3_putNumber rmX3_putNumber (dC, dI) (tysX cy) 93 ad (layX ad cy) [.ref (ad 5), .int a1] σ res := by
  refine Met.ofW (cc := cX3_putNumber) (maxL := 5) (ret := none) (by decide) rfl ?_
  intro p e s m args below meth c s₁ B hml hv
  obtain ⟨hargs, hP, hK⟩ := hv
  have hx := B.exec
  have hb := B.bytes
  have hr := B.returns
  have hts := atoms_spec (ws := wsX3_putNumber) B.pre
  have hown : s.vm.findClass RX3 = some m.cls := findClass_of_methodNamed B.named
  have hlocks := B.notSynchronized
  have hS : va_S (WA 93 ad) s.heap s.heap [] := va_S.rf
  have hfr : entryFrame m args 5 = F0 m 0 ((lg_sl [.ref (ad 5), .int a1] ++ List.replicate (5 - (lg_sl [.ref (ad 5), .int a1]).length) Slot.unset).toArray) [] := by rw [hargs]; exact lg_entry_eq _ _ _
  rw [hfr]
  have hl := lv_entry ([.ref (ad 5), .int a1]) (n := 5) (Nat.le_of_ble_eq_true rfl)
  generalize (lg_sl [.ref (ad 5), .int a1] ++ List.replicate (5 - (lg_sl [.ref (ad 5), .int a1]).length) Slot.unset).toArray = ls at hl ⊢
  have hl : lv_has ls 5 [(0, .ref (ad 5)), (1, .int a1)] := hl
  clear hfr hargs B
  show W p l e rmX3_putNumber s m args below meth c s.heap [] 0 0 (MQ below (Qvw (dC, dI) 93 ad (layX ad cy) res) args s 0 0 (WA 93 ad)) (F0 m 0 ls [])
  have kB60 : ∀ (σ : St), fX3_putNumber_B60 σ = some res → ∀ (H : Heap) (locs : List Loc), va_P (dC, dI) vwCl (wd 93 ad (layX ad cy) σ) H → va_S (WA 93 ad) s.heap H locs → ∀ (ls : Array Slot), lv_has ls 5 [] → W p l e rmX3_putNumber s m args below meth c H locs 0 0 (MQ below (Qvw (dC, dI) 93 ad (layX ad cy) res) args s 0 0 (WA 93 ad)) (F0 m 60 ls []) := by
    intro σ hf H locs hP hS ls hl
    unfold fX3_putNumber_B60 at hf
    exact xt_vret hx hb hr hP hS (Option.some.inj hf) dX3_putNumber_60 hlocks
  have loop6 : ∀ (x1 : Int32) (n6 : Nat) (σ : St) (x2 : Int32) (x3 : Int32), fX3_putNumber_L6 x1 (fun σ => fX3_putNumber_B60 σ) n6 σ x2 x3 = some res → ∀ (H : Heap) (locs : List Loc), va_P (dC, dI) vwCl (wd 93 ad (layX ad cy) σ) H → va_S (WA 93 ad) s.heap H locs → ∀ (ls : Array Slot), lv_has ls 5 [(0, .ref (ad 5)), (1, .int x1), (2, .int x2), (3, .int x3)] → W p l e rmX3_putNumber s m args below meth c H locs 0 0 (MQ below (Qvw (dC, dI) 93 ad (layX ad cy) res) args s 0 0 (WA 93 ad)) (F0 m 6 ls []) := by
    intro x1 n6
    induction n6 with
    | zero => intro σ x2 x3 hf; simp [fX3_putNumber_L6] at hf
    | succ n6 ih6 =>
      intro σ x2 x3 hf H locs hP hS ls hl
      rw [fX3_putNumber_L6] at hf
      have kB37 : ∀ (σ : St) (x3 : Int32) (x4 : Int32) (t0 : Int32), fX3_putNumber_B37 (fX3_putNumber_L6 x1 (fun σ => fX3_putNumber_B60 σ) n6) (fun σ => fX3_putNumber_B60 σ) σ x1 x3 x4 t0 = some res → ∀ (H : Heap) (locs : List Loc), va_P (dC, dI) vwCl (wd 93 ad (layX ad cy) σ) H → va_S (WA 93 ad) s.heap H locs → ∀ (ls : Array Slot), lv_has ls 5 [(0, .ref (ad 5)), (1, .int x1), (3, .int x3), (4, .int x4)] → W p l e rmX3_putNumber s m args below meth c H locs 0 0 (MQ below (Qvw (dC, dI) 93 ad (layX ad cy) res) args s 0 0 (WA 93 ad)) (F0 m 37 ls [.int t0]) := by
        intro σ x3 x4 t0 hf H locs hP hS ls hl
        unfold fX3_putNumber_B37 at hf
        refine lv_istore_n (lv' := [(2, .int t0), (0, .ref (ad 5)), (1, .int x1), (3, .int x3), (4, .int x4)]) hx hb dX3_putNumber_37 rfl hl (by decide) rfl (fun ls hl => ?_)
        refine lv_iload_n hx hb dX3_putNumber_38 rfl (lv_at hl 0 rfl) ?_
        refine lv_if_eq (tgt := 52) hx hb dX3_putNumber_39 (by decide) (fun c1 => ?_) (fun c1 => ?_)
        · have hf := (if_pos c1).symm.trans hf
          refine lv_iload_n hx hb dX3_putNumber_52 rfl (lv_at hl 3 rfl) ?_
          refine lv_bipush (v := 10) hx hb dX3_putNumber_53 (by decide) ?_
          refine lv_idiv hx hb dX3_putNumber_55 (by decide) ?_
          refine lv_topi (fun v2 ev2 => ?_)
          have hf := nm_to hf ev2
          refine lv_istore_n (lv' := [(3, .int v2), (2, .int t0), (0, .ref (ad 5)), (1, .int x1), (4, .int x4)]) hx hb dX3_putNumber_56 rfl hl (by decide) rfl (fun ls hl => ?_)
          refine lv_goto (tgt := 6) hx hb dX3_putNumber_57 (by decide) ?_
          exact ih6 σ t0 v2 hf H locs hP hS ls (lv_sub hl [2, 3, 1, 0] rfl)
        · have hf := (if_neg c1).symm.trans hf
          refine lv_aload_n hx hb dX3_putNumber_42 rfl (lv_at hl 1 rfl) ?_
          refine lv_bipush (v := 48) hx hb dX3_putNumber_43 (by decide) ?_
          refine lv_iload hx hb dX3_putNumber_45 (lv_at hl 4 rfl) ?_
          refine lv_iadd hx hb dX3_putNumber_47 ?_
          refine lv_i2c (v := (((48 + x4)).toUInt32 % 65536).toInt32) hx hb dX3_putNumber_48 rfl ?_
          obtain ⟨r3, qr3, hf⟩ := bd_some hf
          refine xt_callVv (As := [.int ((((48 + x4)).toUInt32 % 65536).toInt32)]) (rest := []) (C := RX3) (ci := 3) ⟨hx, hb, hml, hown, hts⟩ 5 (mX3_put l dC dI ad cy hJ σ ((((48 + x4)).toUInt32 % 65536).toInt32) r3 qr3) (cwV 1 hts gX3_putNumber_X3_put rfl rfl rfl dmX3_put ⟨Nat.le_of_ble_eq_true rfl, Nat.le_of_ble_eq_true rfl⟩) hK hP hS (by decide) (LX3_obj ad cy _) rfl rfl rfl hl.1 (Nat.le_of_ble_eq_true rfl) ⟨Nat.zero_le _, Nat.zero_le _⟩ dX3_putNumber_49 (fun H locs hP hS => ?_)
          refine lv_iload_n hx hb dX3_putNumber_52 rfl (lv_at hl 3 rfl) ?_
          refine lv_bipush (v := 10) hx hb dX3_putNumber_53 (by decide) ?_
          refine lv_idiv hx hb dX3_putNumber_55 (by decide) ?_
          refine lv_topi (fun v4 ev4 => ?_)
          have hf := nm_to hf ev4
          refine lv_istore_n (lv' := [(3, .int v4), (2, .int t0), (0, .ref (ad 5)), (1, .int x1), (4, .int x4)]) hx hb dX3_putNumber_56 rfl hl (by decide) rfl (fun ls hl => ?_)
          refine lv_goto (tgt := 6) hx hb dX3_putNumber_57 (by decide) ?_
          exact ih6 r3 t0 v4 hf H locs hP hS ls (lv_sub hl [2, 3, 1, 0] rfl)
      have kB32 : ∀ (σ : St) (x3 : Int32) (x4 : Int32), fX3_putNumber_B32 (fX3_putNumber_L6 x1 (fun σ => fX3_putNumber_B60 σ) n6) (fun σ => fX3_putNumber_B60 σ) σ x1 x3 x4 = some res → ∀ (H : Heap) (locs : List Loc), va_P (dC, dI) vwCl (wd 93 ad (layX ad cy) σ) H → va_S (WA 93 ad) s.heap H locs → ∀ (ls : Array Slot), lv_has ls 5 [(0, .ref (ad 5)), (1, .int x1), (3, .int x3), (4, .int x4)] → W p l e rmX3_putNumber s m args below meth c H locs 0 0 (MQ below (Qvw (dC, dI) 93 ad (layX ad cy) res) args s 0 0 (WA 93 ad)) (F0 m 32 ls []) := by
        intro σ x3 x4 hf H locs hP hS ls hl
        unfold fX3_putNumber_B32 at hf
        refine lv_iconst (v := 1) hx hb dX3_putNumber_32 (by decide) ?_
        refine lv_goto (tgt := 37) hx hb dX3_putNumber_33 (by decide) ?_
        exact kB37 σ x3 x4 1 hf H locs hP hS ls (lv_sub hl [0, 1, 2, 3] rfl)
      refine lv_iload_n hx hb dX3_putNumber_6 rfl (lv_at hl 3 rfl) ?_
      refine lv_if_le (tgt := 60) hx hb dX3_putNumber_7 (by decide) (fun c5 => ?_) (fun c5 => ?_)
      · have hf := (if_pos c5).symm.trans hf
        exact kB60 σ hf H locs hP hS ls (lv_sub hl [] rfl)
      · have hf := (if_neg c5).symm.trans hf
        refine lv_iload_n hx hb dX3_putNumber_10 rfl (lv_at hl 1 rfl) ?_
        refine lv_iload_n hx hb dX3_putNumber_11 rfl (lv_at hl 3 rfl) ?_
        obtain ⟨g6, hf⟩ := gd_some hf
        refine lv_idiv hx hb dX3_putNumber_12 (okZ_ne g6) ?_
        refine lv_bipush (v := 10) hx hb dX3_putNumber_13 (by decide) ?_
        refine xt_irem hx hb dX3_putNumber_15 (by decide) ?_
        refine lv_topi (fun v7 ev7 => ?_)
        have hf := nm_to hf ev7
        refine lv_istore (lv' := [(4, .int v7), (0, .ref (ad 5)), (1, .int x1), (2, .int x2), (3, .int x3)]) hx hb dX3_putNumber_16 hl (by decide) rfl (fun ls hl => ?_)
        refine lv_iload_n hx hb dX3_putNumber_18 rfl (lv_at hl 3 rfl) ?_
        refine lv_if_ne (tgt := 32) hx hb dX3_putNumber_19 (by decide) (fun c8 => ?_) (fun c8 => ?_)
        · have hf := (if_neg c8).symm.trans hf
          exact kB32 σ x3 v7 hf H locs hP hS ls (lv_sub hl [1, 2, 4, 0] rfl)
        · have hf := (if_pos c8).symm.trans hf
          refine lv_iload hx hb dX3_putNumber_22 (lv_at hl 0 rfl) ?_
          refine lv_if_ne (tgt := 32) hx hb dX3_putNumber_24 (by decide) (fun c9 => ?_) (fun c9 => ?_)
          · have hf := (if_neg c9).symm.trans hf
            exact kB32 σ x3 v7 hf H locs hP hS ls (lv_sub hl [1, 2, 4, 0] rfl)
          · have hf := (if_pos c9).symm.trans hf
            refine lv_iload_n hx hb dX3_putNumber_27 rfl (lv_at hl 4 rfl) ?_
            refine lv_iconst (v := 1) hx hb dX3_putNumber_28 (by decide) ?_
            refine lv_icmp_ne (tgt := 36) hx hb dX3_putNumber_29 (by decide) (fun c10 => ?_) (fun c10 => ?_)
            · have hf := (if_neg c10).symm.trans hf
              refine lv_iconst (v := 0) hx hb dX3_putNumber_36 (by decide) ?_
              exact kB37 σ x3 v7 0 hf H locs hP hS ls (lv_sub hl [1, 2, 4, 0] rfl)
            · have hf := (if_pos c10).symm.trans hf
              exact kB32 σ x3 v7 hf H locs hP hS ls (lv_sub hl [1, 2, 4, 0] rfl)
  unfold fX3_putNumber at hf
  obtain ⟨H, eH⟩ : ∃ H : Heap, H = s.heap := ⟨_, rfl⟩
  rw [← eH] at hP
  have hS : va_S (WA 93 ad) s.heap H [] := by rw [eH]; exact hS
  suffices K : W p l e rmX3_putNumber s m args below meth c H [] 0 0 (MQ below (Qvw (dC, dI) 93 ad (layX ad cy) res) args s 0 0 (WA 93 ad)) (F0 m 0 ls []) by rw [eH] at K; exact K
  clear eH
  obtain ⟨locs, elocs⟩ : ∃ z : List Loc, z = [] := ⟨_, rfl⟩
  rw [← elocs] at hS ⊢
  refine lv_iconst (v := 0) hx hb dX3_putNumber_0 (by decide) ?_
  refine lv_istore_n (lv' := [(2, .int 0), (0, .ref (ad 5)), (1, .int a1)]) hx hb dX3_putNumber_1 rfl hl (by decide) rfl (fun ls hl => ?_)
  refine lv_sipush (v := 1000) hx hb dX3_putNumber_2 (by decide) ?_
  refine lv_istore_n (lv' := [(3, .int 1000), (2, .int 0), (0, .ref (ad 5)), (1, .int a1)]) hx hb dX3_putNumber_5 rfl hl (by decide) rfl (fun ls hl => ?_)
  exact loop6 a1 1000 σ 0 1000 hf H locs hP hS ls (lv_sub hl [2, 3, 1, 0] rfl)
