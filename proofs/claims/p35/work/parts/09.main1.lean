def fX6_refuse (σ : St) (a1 : Int32) (a2 : Int32) : Option (Int32 × St) :=
  nm (su σ 0 10 a1) fun σ1 => nm (su σ1 0 11 a2) fun σ2 => some ((-14), σ2)
abbrev rmX6_refuse : Room := { frames := 0, cells := 0, slots := 0, locals := 0 }
theorem dmX6_refuse : yX6_refuse.cls = RX6 ∧ yX6_refuse.cls ≠ "java/lang/invoke/MethodHandle" ∧ yX6_refuse.cls ≠ "java/lang/invoke/VarHandle" ∧ (parseMethodDescriptor yX6_refuse.desc).map (fun d => d.parameters.length) = some 2 := by decide +kernel
theorem iX6_refuse_X6 : ∀ w ∈ wsX60, w ∈ wsX6_refuse := fun w h => List.mem_cons_of_mem _ (List.mem_append_right _ (h))
set_option maxHeartbeats 8000000 in
set_option maxRecDepth 100000 in
theorem mX6_refuse (l : Launch) (dC : Nat → ClassId) (dI : Nat → Nat → Nat) (ad : Nat → Nat) (cy : Nat → ClassId) (hJ : WJ 93 ad) (σ : St) (a1 : Int32) (a2 : Int32) (res : (Int32 × St)) (hf : fX6_refuse σ a1 a2 = some res) : CMi l yX6_refuse wsX6_refuse rmX6_refuse (dC, dI) (tysX cy) 93 ad (layX ad cy) [.ref (ad 0), .int a1, .int a2] σ res.1 res.2 := by
  refine Met.ofW (cc := cX6_refuse) (maxL := 3) (ret := (some .int)) (by decide) rfl ?_
  intro p e s m args below meth c s₁ B hml hv
  obtain ⟨hargs, hP, hK⟩ := hv
  have hx := B.exec
  have hb := B.bytes
  have hr := B.returns
  have hts := atoms_spec (ws := wsX6_refuse) B.pre
  have hown : s.vm.findClass RX6 = some m.cls := findClass_of_methodNamed B.named
  have hlocks := B.notSynchronized
  have w1 := hts (.fieldLink RX6 64 "PierRings" "latestReason" "I") (List.mem_of_getElem? (i := 1) rfl)
  have w2 := hts (.fieldLink RX6 68 "PierRings" "latestDetail" "I") (List.mem_of_getElem? (i := 2) rfl)
  have hS : va_S (WA 93 ad) s.heap s.heap [] := va_S.rf
  have hfr : entryFrame m args 3 = F0 m 0 ((lg_sl [.ref (ad 0), .int a1, .int a2] ++ List.replicate (3 - (lg_sl [.ref (ad 0), .int a1, .int a2]).length) Slot.unset).toArray) [] := by rw [hargs]; exact lg_entry_eq _ _ _
  rw [hfr]
  have hl := lv_entry ([.ref (ad 0), .int a1, .int a2]) (n := 3) (Nat.le_of_ble_eq_true rfl)
  generalize (lg_sl [.ref (ad 0), .int a1, .int a2] ++ List.replicate (3 - (lg_sl [.ref (ad 0), .int a1, .int a2]).length) Slot.unset).toArray = ls at hl ⊢
  have hl : lv_has ls 3 [(0, .ref (ad 0)), (1, .int a1), (2, .int a2)] := hl
  clear hfr hargs B
  show W p l e rmX6_refuse s m args below meth c s.heap [] 0 0 (MQ below (Qiw (dC, dI) 93 ad (layX ad cy) res.1 res.2) args s 0 0 (WA 93 ad)) (F0 m 0 ls [])
  unfold fX6_refuse at hf
  obtain ⟨H, eH⟩ : ∃ H : Heap, H = s.heap := ⟨_, rfl⟩
  rw [← eH] at hP
  have hS : va_S (WA 93 ad) s.heap H [] := by rw [eH]; exact hS
  suffices K : W p l e rmX6_refuse s m args below meth c H [] 0 0 (MQ below (Qiw (dC, dI) 93 ad (layX ad cy) res.1 res.2) args s 0 0 (WA 93 ad)) (F0 m 0 ls []) by rw [eH] at K; exact K
  clear eH
  obtain ⟨locs, elocs⟩ : ∃ z : List Loc, z = [] := ⟨_, rfl⟩
  rw [← elocs] at hS ⊢
  refine lv_aload_n hx hb dX6_refuse_0 rfl (lv_at hl 0 rfl) ?_
  refine lv_iload_n hx hb dX6_refuse_1 rfl (lv_at hl 1 rfl) ?_
  refine xt_put (ci := 6) (C := RX6) (T := TX6) (n := 12) hx hb hts iX6_refuse_X6 tyX6 tyX6_ok nmX6 hown hK hP hJ hS 0 (by decide) (LX6_obj ad cy _) rfl 10 (by decide) w1 rfl (v := a1) rfl rfl (Nat.le_of_ble_eq_true rfl) (LX6_obj ad cy _) dX6_refuse_2 (fun H locs hP hS => ?_)
  obtain ⟨σ1, eσ1⟩ : ∃ z : St, z = su σ 0 10 a1 := ⟨_, rfl⟩
  rw [← eσ1] at hP
  have hf := nm_to hf eσ1
  refine lv_aload_n hx hb dX6_refuse_5 rfl (lv_at hl 0 rfl) ?_
  refine lv_iload_n hx hb dX6_refuse_6 rfl (lv_at hl 2 rfl) ?_
  refine xt_put (ci := 6) (C := RX6) (T := TX6) (n := 12) hx hb hts iX6_refuse_X6 tyX6 tyX6_ok nmX6 hown hK hP hJ hS 0 (by decide) (LX6_obj ad cy _) rfl 11 (by decide) w2 rfl (v := a2) rfl rfl (Nat.le_of_ble_eq_true rfl) (LX6_obj ad cy _) dX6_refuse_7 (fun H locs hP hS => ?_)
  obtain ⟨σ2, eσ2⟩ : ∃ z : St, z = su σ1 0 11 a2 := ⟨_, rfl⟩
  rw [← eσ2] at hP
  have hf := nm_to hf eσ2
  refine lv_bipush (v := (-14)) hx hb dX6_refuse_10 (by decide) ?_
  exact xt_iret hx hb hr hP hS (rs_1 hf) (rs_2 hf) dX6_refuse_12 hlocks
def fX6_moveHomes (σ : St) : Option (Int32 × St) :=
  bd (fX0_build 0 0 σ) fun r1 => bd (fX4_homesUnlike 0 0 r1) fun r2 => nm (su r1 33 7 ((r1 33 7) + r2)) fun σ3 => bd (fX4_settle 0 0 σ3) fun r4 => some (r2, r4)
abbrev rmX6_moveHomes : Room := { frames := 3, cells := 0, slots := 0, locals := 112 }
theorem dmX6_moveHomes : yX6_moveHomes.cls = RX6 ∧ yX6_moveHomes.cls ≠ "java/lang/invoke/MethodHandle" ∧ yX6_moveHomes.cls ≠ "java/lang/invoke/VarHandle" ∧ (parseMethodDescriptor yX6_moveHomes.desc).map (fun d => d.parameters.length) = some 0 := by decide +kernel
theorem iX6_moveHomes_X1 : ∀ w ∈ wsX10, w ∈ wsX6_moveHomes := fun w h => List.mem_cons_of_mem _ (List.mem_append_left _ (List.mem_append_left _ (List.mem_append_right _ (h))))
theorem iX6_moveHomes_X6 : ∀ w ∈ wsX60, w ∈ wsX6_moveHomes := fun w h => List.mem_cons_of_mem _ (List.mem_append_left _ (List.mem_append_left _ (List.mem_append_left _ (List.mem_append_right _ (h)))))
set_option maxHeartbeats 8000000 in
set_option maxRecDepth 100000 in
theorem mX6_moveHomes (l : Launch) (dC : Nat → ClassId) (dI : Nat → Nat → Nat) (ad : Nat → Nat) (cy : Nat → ClassId) (hJ : WJ 93 ad) (σ : St) (res : (Int32 × St)) (hf : fX6_moveHomes σ = some res) : CMi l yX6_moveHomes wsX6_moveHomes rmX6_moveHomes (dC, dI) (tysX cy) 93 ad (layX ad cy) [.ref (ad 0)] σ res.1 res.2 := by
  refine Met.ofW (cc := cX6_moveHomes) (maxL := 2) (ret := (some .int)) (by decide) rfl ?_
  intro p e s m args below meth c s₁ B hml hv
  obtain ⟨hargs, hP, hK⟩ := hv
  have hx := B.exec
  have hb := B.bytes
  have hr := B.returns
  have hts := atoms_spec (ws := wsX6_moveHomes) B.pre
  have hown : s.vm.findClass RX6 = some m.cls := findClass_of_methodNamed B.named
  have hlocks := B.notSynchronized
  have w1 := hts (.fieldLink RX6 19 "PierRings" "circle" "LPierRings$Circle;") (List.mem_of_getElem? (i := 1) rfl)
  have w2 := hts (.fieldLink RX6 12 "PierRings" "harbour" "LPierRings$Harbour;") (List.mem_of_getElem? (i := 2) rfl)
  have w3 := hts (.fieldLink RX6 26 "PierRings" "moorings" "LPierRings$Moorings;") (List.mem_of_getElem? (i := 3) rfl)
  have w4 := hts (.fieldLink RX6 278 "PierRings$Harbour" "movedHomes" "I") (List.mem_of_getElem? (i := 4) rfl)
  have hS : va_S (WA 93 ad) s.heap s.heap [] := va_S.rf
  have hfr : entryFrame m args 2 = F0 m 0 ((lg_sl [.ref (ad 0)] ++ List.replicate (2 - (lg_sl [.ref (ad 0)]).length) Slot.unset).toArray) [] := by rw [hargs]; exact lg_entry_eq _ _ _
  rw [hfr]
  have hl := lv_entry ([.ref (ad 0)]) (n := 2) (Nat.le_of_ble_eq_true rfl)
  generalize (lg_sl [.ref (ad 0)] ++ List.replicate (2 - (lg_sl [.ref (ad 0)]).length) Slot.unset).toArray = ls at hl ⊢
  have hl : lv_has ls 2 [(0, .ref (ad 0))] := hl
  clear hfr hargs B
  show W p l e rmX6_moveHomes s m args below meth c s.heap [] 0 0 (MQ below (Qiw (dC, dI) 93 ad (layX ad cy) res.1 res.2) args s 0 0 (WA 93 ad)) (F0 m 0 ls [])
  unfold fX6_moveHomes at hf
  obtain ⟨H, eH⟩ : ∃ H : Heap, H = s.heap := ⟨_, rfl⟩
  rw [← eH] at hP
  have hS : va_S (WA 93 ad) s.heap H [] := by rw [eH]; exact hS
  suffices K : W p l e rmX6_moveHomes s m args below meth c H [] 0 0 (MQ below (Qiw (dC, dI) 93 ad (layX ad cy) res.1 res.2) args s 0 0 (WA 93 ad)) (F0 m 0 ls []) by rw [eH] at K; exact K
  clear eH
  obtain ⟨locs, elocs⟩ : ∃ z : List Loc, z = [] := ⟨_, rfl⟩
  rw [← elocs] at hS ⊢
  refine lv_aload_n hx hb dX6_moveHomes_0 rfl (lv_at hl 0 rfl) ?_
  refine xt_get (ci := 6) (C := RX6) (T := TX6) (n := 12) (v := .ref (ad 15)) hx hb hts iX6_moveHomes_X6 hown hK hP 0 (by decide) (LX6_obj ad cy _) rfl 1 (by decide) w1 rfl dX6_moveHomes_1 ?_
  refine lv_aload_n hx hb dX6_moveHomes_4 rfl (lv_at hl 0 rfl) ?_
  refine xt_get (ci := 6) (C := RX6) (T := TX6) (n := 12) (v := .ref (ad 33)) hx hb hts iX6_moveHomes_X6 hown hK hP 0 (by decide) (LX6_obj ad cy _) rfl 0 (by decide) w2 rfl dX6_moveHomes_5 ?_
  obtain ⟨r1, qr1, hf⟩ := bd_some hf
  refine xt_callVv (As := [.ref (ad 33)]) (rest := []) (C := RX0) (ci := 0) ⟨hx, hb, hml, hown, hts⟩ 15 (mX0_build l dC dI ad cy hJ 0 (by decide) 0 (by decide) σ r1 qr1) (cwV 1 hts gX6_moveHomes_X0_build rfl rfl rfl dmX0_build ⟨Nat.le_of_ble_eq_true rfl, Nat.le_of_ble_eq_true rfl⟩) hK hP hS (by decide) (LX0_obj ad cy 0 (by decide) _) rfl rfl rfl hl.1 (Nat.le_of_ble_eq_true rfl) ⟨Nat.zero_le _, Nat.zero_le _⟩ dX6_moveHomes_8 (fun H locs hP hS => ?_)
  refine lv_aload_n hx hb dX6_moveHomes_11 rfl (lv_at hl 0 rfl) ?_
  refine xt_get (ci := 6) (C := RX6) (T := TX6) (n := 12) (v := .ref (ad 7)) hx hb hts iX6_moveHomes_X6 hown hK hP 0 (by decide) (LX6_obj ad cy _) rfl 2 (by decide) w3 rfl dX6_moveHomes_12 ?_
  refine lv_aload_n hx hb dX6_moveHomes_15 rfl (lv_at hl 0 rfl) ?_
  refine xt_get (ci := 6) (C := RX6) (T := TX6) (n := 12) (v := .ref (ad 33)) hx hb hts iX6_moveHomes_X6 hown hK hP 0 (by decide) (LX6_obj ad cy _) rfl 0 (by decide) w2 rfl dX6_moveHomes_16 ?_
  refine lv_aload_n hx hb dX6_moveHomes_19 rfl (lv_at hl 0 rfl) ?_
  refine xt_get (ci := 6) (C := RX6) (T := TX6) (n := 12) (v := .ref (ad 15)) hx hb hts iX6_moveHomes_X6 hown hK hP 0 (by decide) (LX6_obj ad cy _) rfl 1 (by decide) w1 rfl dX6_moveHomes_20 ?_
  obtain ⟨r2, qr2, hf⟩ := bd_some hf
  refine xt_callVi (As := [.ref (ad 33), .ref (ad 15)]) (rest := []) (C := RX4) (ci := 4) ⟨hx, hb, hml, hown, hts⟩ 7 (mX4_homesUnlike l dC dI ad cy hJ 0 (by decide) 0 (by decide) r1 r2 qr2) (cwV 2 hts gX6_moveHomes_X4_homesUnlike rfl rfl rfl dmX4_homesUnlike ⟨Nat.le_of_ble_eq_true rfl, Nat.le_of_ble_eq_true rfl⟩) hK hP hS (by decide) (LX4_obj ad cy _) rfl rfl rfl hl.1 (Nat.le_of_ble_eq_true rfl) ⟨Nat.zero_le _, Nat.zero_le _⟩ dX6_moveHomes_23 (fun H locs hP hS => ?_)
  refine lv_istore_n (lv' := [(1, .int r2), (0, .ref (ad 0))]) hx hb dX6_moveHomes_26 rfl hl (by decide) rfl (fun ls hl => ?_)
  refine lv_aload_n hx hb dX6_moveHomes_27 rfl (lv_at hl 1 rfl) ?_
  refine xt_get (ci := 6) (C := RX6) (T := TX6) (n := 12) (v := .ref (ad 33)) hx hb hts iX6_moveHomes_X6 hown hK hP 0 (by decide) (LX6_obj ad cy _) rfl 0 (by decide) w2 rfl dX6_moveHomes_28 ?_
  refine lv_dup hx hb dX6_moveHomes_31 rfl ?_
  refine xt_get (ci := 1) (C := RX1) (T := TX1) (n := 8) (v := .int (r1 33 7)) hx hb hts iX6_moveHomes_X1 hown hK hP 33 (by decide) (LX1_obj ad cy 0 (by decide) _) rfl 7 (by decide) w4 rfl dX6_moveHomes_32 ?_
  refine lv_iload_n hx hb dX6_moveHomes_35 rfl (lv_at hl 0 rfl) ?_
  refine lv_iadd hx hb dX6_moveHomes_36 ?_
  refine xt_put (ci := 1) (C := RX1) (T := TX1) (n := 8) hx hb hts iX6_moveHomes_X1 tyX1 tyX1_ok nmX1 hown hK hP hJ hS 33 (by decide) (LX1_obj ad cy 0 (by decide) _) rfl 7 (by decide) w4 rfl (v := ((r1 33 7) + r2)) rfl rfl (Nat.le_of_ble_eq_true rfl) (LX1_obj ad cy 0 (by decide) _) dX6_moveHomes_37 (fun H locs hP hS => ?_)
  obtain ⟨σ3, eσ3⟩ : ∃ z : St, z = su r1 33 7 ((r1 33 7) + r2) := ⟨_, rfl⟩
  rw [← eσ3] at hP
  have hf := nm_to hf eσ3
  refine lv_aload_n hx hb dX6_moveHomes_40 rfl (lv_at hl 1 rfl) ?_
  refine xt_get (ci := 6) (C := RX6) (T := TX6) (n := 12) (v := .ref (ad 7)) hx hb hts iX6_moveHomes_X6 hown hK hP 0 (by decide) (LX6_obj ad cy _) rfl 2 (by decide) w3 rfl dX6_moveHomes_41 ?_
  refine lv_aload_n hx hb dX6_moveHomes_44 rfl (lv_at hl 1 rfl) ?_
  refine xt_get (ci := 6) (C := RX6) (T := TX6) (n := 12) (v := .ref (ad 33)) hx hb hts iX6_moveHomes_X6 hown hK hP 0 (by decide) (LX6_obj ad cy _) rfl 0 (by decide) w2 rfl dX6_moveHomes_45 ?_
  refine lv_aload_n hx hb dX6_moveHomes_48 rfl (lv_at hl 1 rfl) ?_
  refine xt_get (ci := 6) (C := RX6) (T := TX6) (n := 12) (v := .ref (ad 15)) hx hb hts iX6_moveHomes_X6 hown hK hP 0 (by decide) (LX6_obj ad cy _) rfl 1 (by decide) w1 rfl dX6_moveHomes_49 ?_
  obtain ⟨r4, qr4, hf⟩ := bd_some hf
  refine xt_callVv (As := [.ref (ad 33), .ref (ad 15)]) (rest := []) (C := RX4) (ci := 4) ⟨hx, hb, hml, hown, hts⟩ 7 (mX4_settle l dC dI ad cy hJ 0 (by decide) 0 (by decide) σ3 r4 qr4) (cwV 2 hts gX6_moveHomes_X4_settle rfl rfl rfl dmX4_settle ⟨Nat.le_of_ble_eq_true rfl, Nat.le_of_ble_eq_true rfl⟩) hK hP hS (by decide) (LX4_obj ad cy _) rfl rfl rfl hl.1 (Nat.le_of_ble_eq_true rfl) ⟨Nat.zero_le _, Nat.zero_le _⟩ dX6_moveHomes_52 (fun H locs hP hS => ?_)
  refine lv_iload_n hx hb dX6_moveHomes_55 rfl (lv_at hl 0 rfl) ?_
  exact xt_iret hx hb hr hP hS (rs_1 hf) (rs_2 hf) dX6_moveHomes_56 hlocks
def fX6_joinPier (σ : St) (a1 : Int32) : Option (Int32 × St) :=
  if a1 < (1 : Int32) then (some ((-12), σ)) else (if a1 ≤ (5 : Int32) then (if (σ 33 4) = (8 : Int32) then (bd (fX6_refuse σ 1 8) fun r6 => some (r6.1, r6.2)) else (bd (fX1_addPier 0 σ a1) fun r4 => bd (fX6_moveHomes r4) fun r5 => some (((r5.2 33 4) - 1), r5.2))) else (some ((-12), σ)))
abbrev rmX6_joinPier : Room := { frames := 4, cells := 0, slots := 0, locals := 133 }
theorem dmX6_joinPier : yX6_joinPier.cls = RX6 ∧ yX6_joinPier.cls ≠ "java/lang/invoke/MethodHandle" ∧ yX6_joinPier.cls ≠ "java/lang/invoke/VarHandle" ∧ (parseMethodDescriptor yX6_joinPier.desc).map (fun d => d.parameters.length) = some 1 := by decide +kernel
theorem iX6_joinPier_X1 : ∀ w ∈ wsX10, w ∈ wsX6_joinPier := fun w h => List.mem_cons_of_mem _ (List.mem_append_left _ (List.mem_append_left _ (List.mem_append_right _ (h))))
theorem iX6_joinPier_X6 : ∀ w ∈ wsX60, w ∈ wsX6_joinPier := fun w h => List.mem_cons_of_mem _ (List.mem_append_left _ (List.mem_append_left _ (List.mem_append_left _ (List.mem_append_right _ (h)))))
set_option maxHeartbeats 8000000 in
set_option maxRecDepth 100000 in
theorem mX6_joinPier (l : Launch) (dC : Nat → ClassId) (dI : Nat → Nat → Nat) (ad : Nat → Nat) (cy : Nat → ClassId) (hJ : WJ 93 ad) (σ : St) (a1 : Int32) (res : (Int32 × St)) (hf : fX6_joinPier σ a1 = some res) : CMi l yX6_joinPier wsX6_joinPier rmX6_joinPier (dC, dI) (tysX cy) 93 ad (layX ad cy) [.ref (ad 0), .int a1] σ res.1 res.2 := by
  refine Met.ofW (cc := cX6_joinPier) (maxL := 2) (ret := (some .int)) (by decide) rfl ?_
  intro p e s m args below meth c s₁ B hml hv
  obtain ⟨hargs, hP, hK⟩ := hv
  have hx := B.exec
  have hb := B.bytes
  have hr := B.returns
  have hts := atoms_spec (ws := wsX6_joinPier) B.pre
  have hown : s.vm.findClass RX6 = some m.cls := findClass_of_methodNamed B.named
  have hlocks := B.notSynchronized
  have w1 := hts (.fieldLink RX6 12 "PierRings" "harbour" "LPierRings$Harbour;") (List.mem_of_getElem? (i := 1) rfl)
  have w2 := hts (.fieldLink RX6 186 "PierRings$Harbour" "piers" "I") (List.mem_of_getElem? (i := 2) rfl)
  have hS : va_S (WA 93 ad) s.heap s.heap [] := va_S.rf
  have hfr : entryFrame m args 2 = F0 m 0 ((lg_sl [.ref (ad 0), .int a1] ++ List.replicate (2 - (lg_sl [.ref (ad 0), .int a1]).length) Slot.unset).toArray) [] := by rw [hargs]; exact lg_entry_eq _ _ _
  rw [hfr]
  have hl := lv_entry ([.ref (ad 0), .int a1]) (n := 2) (Nat.le_of_ble_eq_true rfl)
  generalize (lg_sl [.ref (ad 0), .int a1] ++ List.replicate (2 - (lg_sl [.ref (ad 0), .int a1]).length) Slot.unset).toArray = ls at hl ⊢
  have hl : lv_has ls 2 [(0, .ref (ad 0)), (1, .int a1)] := hl
  clear hfr hargs B
  show W p l e rmX6_joinPier s m args below meth c s.heap [] 0 0 (MQ below (Qiw (dC, dI) 93 ad (layX ad cy) res.1 res.2) args s 0 0 (WA 93 ad)) (F0 m 0 ls [])
  unfold fX6_joinPier at hf
  obtain ⟨H, eH⟩ : ∃ H : Heap, H = s.heap := ⟨_, rfl⟩
  rw [← eH] at hP
  have hS : va_S (WA 93 ad) s.heap H [] := by rw [eH]; exact hS
  suffices K : W p l e rmX6_joinPier s m args below meth c H [] 0 0 (MQ below (Qiw (dC, dI) 93 ad (layX ad cy) res.1 res.2) args s 0 0 (WA 93 ad)) (F0 m 0 ls []) by rw [eH] at K; exact K
  clear eH
  obtain ⟨locs, elocs⟩ : ∃ z : List Loc, z = [] := ⟨_, rfl⟩
  rw [← elocs] at hS ⊢
  refine lv_iload_n hx hb dX6_joinPier_0 rfl (lv_at hl 1 rfl) ?_
  refine lv_iconst (v := 1) hx hb dX6_joinPier_1 (by decide) ?_
  refine lv_icmp_lt (tgt := 10) hx hb dX6_joinPier_2 (by decide) (fun c1 => ?_) (fun c1 => ?_)
  · have hf := (if_pos c1).symm.trans hf
    refine lv_bipush (v := (-12)) hx hb dX6_joinPier_10 (by decide) ?_
    exact xt_iret hx hb hr hP hS (rs_1 hf) (rs_2 hf) dX6_joinPier_12 hlocks
  · have hf := (if_neg c1).symm.trans hf
    refine lv_iload_n hx hb dX6_joinPier_5 rfl (lv_at hl 1 rfl) ?_
    refine lv_iconst (v := 5) hx hb dX6_joinPier_6 (by decide) ?_
    refine lv_icmp_le (tgt := 13) hx hb dX6_joinPier_7 (by decide) (fun c2 => ?_) (fun c2 => ?_)
    · have hf := (if_pos c2).symm.trans hf
      refine lv_aload_n hx hb dX6_joinPier_13 rfl (lv_at hl 0 rfl) ?_
      refine xt_get (ci := 6) (C := RX6) (T := TX6) (n := 12) (v := .ref (ad 33)) hx hb hts iX6_joinPier_X6 hown hK hP 0 (by decide) (LX6_obj ad cy _) rfl 0 (by decide) w1 rfl dX6_joinPier_14 ?_
      refine xt_get (ci := 1) (C := RX1) (T := TX1) (n := 8) (v := .int (σ 33 4)) hx hb hts iX6_joinPier_X1 hown hK hP 33 (by decide) (LX1_obj ad cy 0 (by decide) _) rfl 4 (by decide) w2 rfl dX6_joinPier_17 ?_
      refine lv_bipush (v := 8) hx hb dX6_joinPier_20 (by decide) ?_
      refine lv_icmp_ne (tgt := 33) hx hb dX6_joinPier_22 (by decide) (fun c3 => ?_) (fun c3 => ?_)
      · have hf := (if_neg c3).symm.trans hf
        refine lv_aload_n hx hb dX6_joinPier_33 rfl (lv_at hl 0 rfl) ?_
        refine xt_get (ci := 6) (C := RX6) (T := TX6) (n := 12) (v := .ref (ad 33)) hx hb hts iX6_joinPier_X6 hown hK hP 0 (by decide) (LX6_obj ad cy _) rfl 0 (by decide) w1 rfl dX6_joinPier_34 ?_
        refine lv_iload_n hx hb dX6_joinPier_37 rfl (lv_at hl 1 rfl) ?_
        obtain ⟨r4, qr4, hf⟩ := bd_some hf
        refine xt_callVv (As := [.int a1]) (rest := []) (C := RX1) (ci := 1) ⟨hx, hb, hml, hown, hts⟩ 33 (mX1_addPier l dC dI ad cy hJ 0 (by decide) σ a1 r4 qr4) (cwV 1 hts gX6_joinPier_X1_addPier rfl rfl rfl dmX1_addPier ⟨Nat.le_of_ble_eq_true rfl, Nat.le_of_ble_eq_true rfl⟩) hK hP hS (by decide) (LX1_obj ad cy 0 (by decide) _) rfl rfl rfl hl.1 (Nat.le_of_ble_eq_true rfl) ⟨Nat.zero_le _, Nat.zero_le _⟩ dX6_joinPier_38 (fun H locs hP hS => ?_)
        refine lv_aload_n hx hb dX6_joinPier_41 rfl (lv_at hl 0 rfl) ?_
        obtain ⟨r5, qr5, hf⟩ := bd_some hf
        refine xt_callVi (As := []) (rest := []) (C := RX6) (ci := 6) ⟨hx, hb, hml, hown, hts⟩ 0 (mX6_moveHomes l dC dI ad cy hJ r4 r5 qr5) (cwV 0 hts gX6_joinPier_X6_moveHomes rfl rfl rfl dmX6_moveHomes ⟨Nat.le_of_ble_eq_true rfl, Nat.le_of_ble_eq_true rfl⟩) hK hP hS (by decide) (LX6_obj ad cy _) rfl rfl rfl hl.1 (Nat.le_of_ble_eq_true rfl) ⟨Nat.zero_le _, Nat.zero_le _⟩ dX6_joinPier_42 (fun H locs hP hS => ?_)
        refine lv_pop hx hb dX6_joinPier_45 rfl ?_
        refine lv_aload_n hx hb dX6_joinPier_46 rfl (lv_at hl 0 rfl) ?_
        refine xt_get (ci := 6) (C := RX6) (T := TX6) (n := 12) (v := .ref (ad 33)) hx hb hts iX6_joinPier_X6 hown hK hP 0 (by decide) (LX6_obj ad cy _) rfl 0 (by decide) w1 rfl dX6_joinPier_47 ?_
        refine xt_get (ci := 1) (C := RX1) (T := TX1) (n := 8) (v := .int (r5.2 33 4)) hx hb hts iX6_joinPier_X1 hown hK hP 33 (by decide) (LX1_obj ad cy 0 (by decide) _) rfl 4 (by decide) w2 rfl dX6_joinPier_50 ?_
        refine lv_iconst (v := 1) hx hb dX6_joinPier_53 (by decide) ?_
        refine lv_isub hx hb dX6_joinPier_54 ?_
        exact xt_iret hx hb hr hP hS (rs_1 hf) (rs_2 hf) dX6_joinPier_55 hlocks
      · have hf := (if_pos c3).symm.trans hf
        refine lv_aload_n hx hb dX6_joinPier_25 rfl (lv_at hl 0 rfl) ?_
        refine lv_iconst (v := 1) hx hb dX6_joinPier_26 (by decide) ?_
        refine lv_bipush (v := 8) hx hb dX6_joinPier_27 (by decide) ?_
        obtain ⟨r6, qr6, hf⟩ := bd_some hf
        refine xt_callVi (As := [.int 1, .int 8]) (rest := []) (C := RX6) (ci := 6) ⟨hx, hb, hml, hown, hts⟩ 0 (mX6_refuse l dC dI ad cy hJ σ 1 8 r6 qr6) (cwV 2 hts gX6_joinPier_X6_refuse rfl rfl rfl dmX6_refuse ⟨Nat.le_of_ble_eq_true rfl, Nat.le_of_ble_eq_true rfl⟩) hK hP hS (by decide) (LX6_obj ad cy _) rfl rfl rfl hl.1 (Nat.le_of_ble_eq_true rfl) ⟨Nat.zero_le _, Nat.zero_le _⟩ dX6_joinPier_29 (fun H locs hP hS => ?_)
        exact xt_iret hx hb hr hP hS (rs_1 hf) (rs_2 hf) dX6_joinPier_32 hlocks
    · have hf := (if_neg c2).symm.trans hf
      refine lv_bipush (v := (-12)) hx hb dX6_joinPier_10 (by decide) ?_
      exact xt_iret hx hb hr hP hS (rs_1 hf) (rs_2 hf) dX6_joinPier_12 hlocks
def fX6_keepIfDone (σ : St) (a1 : Int32) : Option (Int32 × St) :=
  if a1 < 0 then (some (a1, σ)) else (bd (fX2_keepDraft σ) fun r2 => some (a1, r2))
abbrev rmX6_keepIfDone : Room := { frames := 2, cells := 0, slots := 0, locals := 84 }
theorem dmX6_keepIfDone : yX6_keepIfDone.cls = RX6 ∧ yX6_keepIfDone.cls ≠ "java/lang/invoke/MethodHandle" ∧ yX6_keepIfDone.cls ≠ "java/lang/invoke/VarHandle" ∧ (parseMethodDescriptor yX6_keepIfDone.desc).map (fun d => d.parameters.length) = some 1 := by decide +kernel
theorem iX6_keepIfDone_X6 : ∀ w ∈ wsX60, w ∈ wsX6_keepIfDone := fun w h => List.mem_cons_of_mem _ (List.mem_append_left _ (List.mem_append_right _ (h)))
set_option maxHeartbeats 8000000 in
set_option maxRecDepth 100000 in
theorem mX6_keepIfDone (l : Launch) (dC : Nat → ClassId) (dI : Nat → Nat → Nat) (ad : Nat → Nat) (cy : Nat → ClassId) (hJ : WJ 93 ad) (σ : St) (a1 : Int32) (res : (Int32 × St)) (hf : fX6_keepIfDone σ a1 = some res) : CMi l yX6_keepIfDone wsX6_keepIfDone rmX6_keepIfDone (dC, dI) (tysX cy) 93 ad (layX ad cy) [.ref (ad 0), .int a1] σ res.1 res.2 := by
  refine Met.ofW (cc := cX6_keepIfDone) (maxL := 2) (ret := (some .int)) (by decide) rfl ?_
  intro p e s m args below meth c s₁ B hml hv
  obtain ⟨hargs, hP, hK⟩ := hv
  have hx := B.exec
  have hb := B.bytes
  have hr := B.returns
  have hts := atoms_spec (ws := wsX6_keepIfDone) B.pre
  have hown : s.vm.findClass RX6 = some m.cls := findClass_of_methodNamed B.named
  have hlocks := B.notSynchronized
  have w1 := hts (.fieldLink RX6 39 "PierRings" "history" "LPierRings$History;") (List.mem_of_getElem? (i := 1) rfl)
  have hS : va_S (WA 93 ad) s.heap s.heap [] := va_S.rf
  have hfr : entryFrame m args 2 = F0 m 0 ((lg_sl [.ref (ad 0), .int a1] ++ List.replicate (2 - (lg_sl [.ref (ad 0), .int a1]).length) Slot.unset).toArray) [] := by rw [hargs]; exact lg_entry_eq _ _ _
  rw [hfr]
  have hl := lv_entry ([.ref (ad 0), .int a1]) (n := 2) (Nat.le_of_ble_eq_true rfl)
  generalize (lg_sl [.ref (ad 0), .int a1] ++ List.replicate (2 - (lg_sl [.ref (ad 0), .int a1]).length) Slot.unset).toArray = ls at hl ⊢
  have hl : lv_has ls 2 [(0, .ref (ad 0)), (1, .int a1)] := hl
  clear hfr hargs B
  show W p l e rmX6_keepIfDone s m args below meth c s.heap [] 0 0 (MQ below (Qiw (dC, dI) 93 ad (layX ad cy) res.1 res.2) args s 0 0 (WA 93 ad)) (F0 m 0 ls [])
  unfold fX6_keepIfDone at hf
  obtain ⟨H, eH⟩ : ∃ H : Heap, H = s.heap := ⟨_, rfl⟩
  rw [← eH] at hP
  have hS : va_S (WA 93 ad) s.heap H [] := by rw [eH]; exact hS
  suffices K : W p l e rmX6_keepIfDone s m args below meth c H [] 0 0 (MQ below (Qiw (dC, dI) 93 ad (layX ad cy) res.1 res.2) args s 0 0 (WA 93 ad)) (F0 m 0 ls []) by rw [eH] at K; exact K
  clear eH
  obtain ⟨locs, elocs⟩ : ∃ z : List Loc, z = [] := ⟨_, rfl⟩
  rw [← elocs] at hS ⊢
  refine lv_iload_n hx hb dX6_keepIfDone_0 rfl (lv_at hl 1 rfl) ?_
  refine lv_if_lt (tgt := 11) hx hb dX6_keepIfDone_1 (by decide) (fun c1 => ?_) (fun c1 => ?_)
  · have hf := (if_pos c1).symm.trans hf
    refine lv_iload_n hx hb dX6_keepIfDone_11 rfl (lv_at hl 1 rfl) ?_
    exact xt_iret hx hb hr hP hS (rs_1 hf) (rs_2 hf) dX6_keepIfDone_12 hlocks
  · have hf := (if_neg c1).symm.trans hf
    refine lv_aload_n hx hb dX6_keepIfDone_4 rfl (lv_at hl 0 rfl) ?_
    refine xt_get (ci := 6) (C := RX6) (T := TX6) (n := 12) (v := .ref (ad 1)) hx hb hts iX6_keepIfDone_X6 hown hK hP 0 (by decide) (LX6_obj ad cy _) rfl 5 (by decide) w1 rfl dX6_keepIfDone_5 ?_
    obtain ⟨r2, qr2, hf⟩ := bd_some hf
    refine xt_callVv (As := []) (rest := []) (C := RX2) (ci := 2) ⟨hx, hb, hml, hown, hts⟩ 1 (mX2_keepDraft l dC dI ad cy hJ σ r2 qr2) (cwV 0 hts gX6_keepIfDone_X2_keepDraft rfl rfl rfl dmX2_keepDraft ⟨Nat.le_of_ble_eq_true rfl, Nat.le_of_ble_eq_true rfl⟩) hK hP hS (by decide) (LX2_obj ad cy _) rfl rfl rfl hl.1 (Nat.le_of_ble_eq_true rfl) ⟨Nat.zero_le _, Nat.zero_le _⟩ dX6_keepIfDone_8 (fun H locs hP hS => ?_)
    refine lv_iload_n hx hb dX6_keepIfDone_11 rfl (lv_at hl 1 rfl) ?_
    exact xt_iret hx hb hr hP hS (rs_1 hf) (rs_2 hf) dX6_keepIfDone_12 hlocks
def fX6_pier (σ : St) (a1 : Int32) : Option (Int32 × St) :=
  bd (fX2_draft 0 σ) fun r1 => bd (fX6_joinPier r1 a1) fun r2 => bd (fX6_keepIfDone r2.2 r2.1) fun r3 => some (r3.1, r3.2)
abbrev rmX6_pier : Room := { frames := 5, cells := 0, slots := 0, locals := 154 }
theorem dmX6_pier : yX6_pier.cls = RX6 ∧ yX6_pier.cls ≠ "java/lang/invoke/MethodHandle" ∧ yX6_pier.cls ≠ "java/lang/invoke/VarHandle" ∧ (parseMethodDescriptor yX6_pier.desc).map (fun d => d.parameters.length) = some 1 := by decide +kernel
theorem iX6_pier_X6 : ∀ w ∈ wsX60, w ∈ wsX6_pier := fun w h => List.mem_cons_of_mem _ (List.mem_append_left _ (List.mem_append_left _ (List.mem_append_left _ (List.mem_append_left _ (List.mem_append_right _ (h))))))
set_option maxHeartbeats 8000000 in
set_option maxRecDepth 100000 in
theorem mX6_pier (l : Launch) (dC : Nat → ClassId) (dI : Nat → Nat → Nat) (ad : Nat → Nat) (cy : Nat → ClassId) (hJ : WJ 93 ad) (σ : St) (a1 : Int32) (res : (Int32 × St)) (hf : fX6_pier σ a1 = some res) : CMi l yX6_pier wsX6_pier rmX6_pier (dC, dI) (tysX cy) 93 ad (layX ad cy) [.ref (ad 0), .int a1] σ res.1 res.2 := by
  refine Met.ofW (cc := cX6_pier) (maxL := 2) (ret := (some .int)) (by decide) rfl ?_
  intro p e s m args below meth c s₁ B hml hv
  obtain ⟨hargs, hP, hK⟩ := hv
  have hx := B.exec
  have hb := B.bytes
  have hr := B.returns
  have hts := atoms_spec (ws := wsX6_pier) B.pre
  have hown : s.vm.findClass RX6 = some m.cls := findClass_of_methodNamed B.named
  have hlocks := B.notSynchronized
  have w1 := hts (.fieldLink RX6 39 "PierRings" "history" "LPierRings$History;") (List.mem_of_getElem? (i := 1) rfl)
  have w2 := hts (.fieldLink RX6 12 "PierRings" "harbour" "LPierRings$Harbour;") (List.mem_of_getElem? (i := 2) rfl)
  have hS : va_S (WA 93 ad) s.heap s.heap [] := va_S.rf
  have hfr : entryFrame m args 2 = F0 m 0 ((lg_sl [.ref (ad 0), .int a1] ++ List.replicate (2 - (lg_sl [.ref (ad 0), .int a1]).length) Slot.unset).toArray) [] := by rw [hargs]; exact lg_entry_eq _ _ _
  rw [hfr]
  have hl := lv_entry ([.ref (ad 0), .int a1]) (n := 2) (Nat.le_of_ble_eq_true rfl)
  generalize (lg_sl [.ref (ad 0), .int a1] ++ List.replicate (2 - (lg_sl [.ref (ad 0), .int a1]).length) Slot.unset).toArray = ls at hl ⊢
  have hl : lv_has ls 2 [(0, .ref (ad 0)), (1, .int a1)] := hl
  clear hfr hargs B
  show W p l e rmX6_pier s m args below meth c s.heap [] 0 0 (MQ below (Qiw (dC, dI) 93 ad (layX ad cy) res.1 res.2) args s 0 0 (WA 93 ad)) (F0 m 0 ls [])
  unfold fX6_pier at hf
  obtain ⟨H, eH⟩ : ∃ H : Heap, H = s.heap := ⟨_, rfl⟩
  rw [← eH] at hP
  have hS : va_S (WA 93 ad) s.heap H [] := by rw [eH]; exact hS
  suffices K : W p l e rmX6_pier s m args below meth c H [] 0 0 (MQ below (Qiw (dC, dI) 93 ad (layX ad cy) res.1 res.2) args s 0 0 (WA 93 ad)) (F0 m 0 ls []) by rw [eH] at K; exact K
  clear eH
  obtain ⟨locs, elocs⟩ : ∃ z : List Loc, z = [] := ⟨_, rfl⟩
  rw [← elocs] at hS ⊢
  refine lv_aload_n hx hb dX6_pier_0 rfl (lv_at hl 0 rfl) ?_
  refine xt_get (ci := 6) (C := RX6) (T := TX6) (n := 12) (v := .ref (ad 1)) hx hb hts iX6_pier_X6 hown hK hP 0 (by decide) (LX6_obj ad cy _) rfl 5 (by decide) w1 rfl dX6_pier_1 ?_
  refine lv_aload_n hx hb dX6_pier_4 rfl (lv_at hl 0 rfl) ?_
  refine xt_get (ci := 6) (C := RX6) (T := TX6) (n := 12) (v := .ref (ad 33)) hx hb hts iX6_pier_X6 hown hK hP 0 (by decide) (LX6_obj ad cy _) rfl 0 (by decide) w2 rfl dX6_pier_5 ?_
  obtain ⟨r1, qr1, hf⟩ := bd_some hf
  refine xt_callVv (As := [.ref (ad 33)]) (rest := []) (C := RX2) (ci := 2) ⟨hx, hb, hml, hown, hts⟩ 1 (mX2_draft l dC dI ad cy hJ 0 (by decide) σ r1 qr1) (cwV 1 hts gX6_pier_X2_draft rfl rfl rfl dmX2_draft ⟨Nat.le_of_ble_eq_true rfl, Nat.le_of_ble_eq_true rfl⟩) hK hP hS (by decide) (LX2_obj ad cy _) rfl rfl rfl hl.1 (Nat.le_of_ble_eq_true rfl) ⟨Nat.zero_le _, Nat.zero_le _⟩ dX6_pier_8 (fun H locs hP hS => ?_)
  refine lv_aload_n hx hb dX6_pier_11 rfl (lv_at hl 0 rfl) ?_
  refine lv_aload_n hx hb dX6_pier_12 rfl (lv_at hl 0 rfl) ?_
  refine lv_iload_n hx hb dX6_pier_13 rfl (lv_at hl 1 rfl) ?_
  obtain ⟨r2, qr2, hf⟩ := bd_some hf
  refine xt_callVi (As := [.int a1]) (rest := [.ref (ad 0)]) (C := RX6) (ci := 6) ⟨hx, hb, hml, hown, hts⟩ 0 (mX6_joinPier l dC dI ad cy hJ r1 a1 r2 qr2) (cwV 1 hts gX6_pier_X6_joinPier rfl rfl rfl dmX6_joinPier ⟨Nat.le_of_ble_eq_true rfl, Nat.le_of_ble_eq_true rfl⟩) hK hP hS (by decide) (LX6_obj ad cy _) rfl rfl rfl hl.1 (Nat.le_of_ble_eq_true rfl) ⟨Nat.zero_le _, Nat.zero_le _⟩ dX6_pier_14 (fun H locs hP hS => ?_)
  obtain ⟨r3, qr3, hf⟩ := bd_some hf
  refine xt_callVi (As := [.int r2.1]) (rest := []) (C := RX6) (ci := 6) ⟨hx, hb, hml, hown, hts⟩ 0 (mX6_keepIfDone l dC dI ad cy hJ r2.2 r2.1 r3 qr3) (cwV 1 hts gX6_pier_X6_keepIfDone rfl rfl rfl dmX6_keepIfDone ⟨Nat.le_of_ble_eq_true rfl, Nat.le_of_ble_eq_true rfl⟩) hK hP hS (by decide) (LX6_obj ad cy _) rfl rfl rfl hl.1 (Nat.le_of_ble_eq_true rfl) ⟨Nat.zero_le _, Nat.zero_le _⟩ dX6_pier_17 (fun H locs hP hS => ?_)
  exact xt_iret hx hb hr hP hS (rs_1 hf) (rs_2 hf) dX6_pier_20 hlocks
def fX6_setOpened (σ : St) (a1 : Int32) (a2 : Int32) : Option (Int32 × St) :=
  bd (fX1_hasPier 0 σ a1) fun r1 => if r1 = 0 then (some ((-11), σ)) else (gd (okI a1 8) <| if (σ 35 a1.toNatClampNeg) = a2 then (bd (fX6_refuse σ 3 a1) fun r8 => some (r8.1, r8.2)) else (gd (okI a1 8) <| nm (su σ 35 a1.toNatClampNeg (vp_nar .boolean a2)) fun σ6 => bd (fX6_moveHomes σ6) fun r7 => some (r7.1, r7.2)))
abbrev rmX6_setOpened : Room := { frames := 4, cells := 0, slots := 0, locals := 133 }
theorem dmX6_setOpened : yX6_setOpened.cls = RX6 ∧ yX6_setOpened.cls ≠ "java/lang/invoke/MethodHandle" ∧ yX6_setOpened.cls ≠ "java/lang/invoke/VarHandle" ∧ (parseMethodDescriptor yX6_setOpened.desc).map (fun d => d.parameters.length) = some 2 := by decide +kernel
theorem iX6_setOpened_X1 : ∀ w ∈ wsX10, w ∈ wsX6_setOpened := fun w h => List.mem_cons_of_mem _ (List.mem_append_left _ (List.mem_append_left _ (List.mem_append_right _ (h))))
theorem iX6_setOpened_X6 : ∀ w ∈ wsX60, w ∈ wsX6_setOpened := fun w h => List.mem_cons_of_mem _ (List.mem_append_left _ (List.mem_append_left _ (List.mem_append_left _ (List.mem_append_right _ (h)))))
set_option maxHeartbeats 8000000 in
set_option maxRecDepth 100000 in
theorem mX6_setOpened (l : Launch) (dC : Nat → ClassId) (dI : Nat → Nat → Nat) (ad : Nat → Nat) (cy : Nat → ClassId) (hJ : WJ 93 ad) (σ : St) (a1 : Int32) (a2 : Int32) (res : (Int32 × St)) (hf : fX6_setOpened σ a1 a2 = some res) : CMi l yX6_setOpened wsX6_setOpened rmX6_setOpened (dC, dI) (tysX cy) 93 ad (layX ad cy) [.ref (ad 0), .int a1, .int a2] σ res.1 res.2 := by
  refine Met.ofW (cc := cX6_setOpened) (maxL := 3) (ret := (some .int)) (by decide) rfl ?_
  intro p e s m args below meth c s₁ B hml hv
  obtain ⟨hargs, hP, hK⟩ := hv
  have hx := B.exec
  have hb := B.bytes
  have hr := B.returns
  have hts := atoms_spec (ws := wsX6_setOpened) B.pre
  have hown : s.vm.findClass RX6 = some m.cls := findClass_of_methodNamed B.named
  have hlocks := B.notSynchronized
  have w1 := hts (.fieldLink RX6 12 "PierRings" "harbour" "LPierRings$Harbour;") (List.mem_of_getElem? (i := 1) rfl)
  have w2 := hts (.fieldLink RX6 101 "PierRings$Harbour" "opened" "[Z") (List.mem_of_getElem? (i := 2) rfl)
  have hS : va_S (WA 93 ad) s.heap s.heap [] := va_S.rf
  have hfr : entryFrame m args 3 = F0 m 0 ((lg_sl [.ref (ad 0), .int a1, .int a2] ++ List.replicate (3 - (lg_sl [.ref (ad 0), .int a1, .int a2]).length) Slot.unset).toArray) [] := by rw [hargs]; exact lg_entry_eq _ _ _
  rw [hfr]
  have hl := lv_entry ([.ref (ad 0), .int a1, .int a2]) (n := 3) (Nat.le_of_ble_eq_true rfl)
  generalize (lg_sl [.ref (ad 0), .int a1, .int a2] ++ List.replicate (3 - (lg_sl [.ref (ad 0), .int a1, .int a2]).length) Slot.unset).toArray = ls at hl ⊢
  have hl : lv_has ls 3 [(0, .ref (ad 0)), (1, .int a1), (2, .int a2)] := hl
  clear hfr hargs B
  show W p l e rmX6_setOpened s m args below meth c s.heap [] 0 0 (MQ below (Qiw (dC, dI) 93 ad (layX ad cy) res.1 res.2) args s 0 0 (WA 93 ad)) (F0 m 0 ls [])
  unfold fX6_setOpened at hf
  obtain ⟨H, eH⟩ : ∃ H : Heap, H = s.heap := ⟨_, rfl⟩
  rw [← eH] at hP
  have hS : va_S (WA 93 ad) s.heap H [] := by rw [eH]; exact hS
  suffices K : W p l e rmX6_setOpened s m args below meth c H [] 0 0 (MQ below (Qiw (dC, dI) 93 ad (layX ad cy) res.1 res.2) args s 0 0 (WA 93 ad)) (F0 m 0 ls []) by rw [eH] at K; exact K
  clear eH
  obtain ⟨locs, elocs⟩ : ∃ z : List Loc, z = [] := ⟨_, rfl⟩
  rw [← elocs] at hS ⊢
  refine lv_aload_n hx hb dX6_setOpened_0 rfl (lv_at hl 0 rfl) ?_
  refine xt_get (ci := 6) (C := RX6) (T := TX6) (n := 12) (v := .ref (ad 33)) hx hb hts iX6_setOpened_X6 hown hK hP 0 (by decide) (LX6_obj ad cy _) rfl 0 (by decide) w1 rfl dX6_setOpened_1 ?_
  refine lv_iload_n hx hb dX6_setOpened_4 rfl (lv_at hl 1 rfl) ?_
  obtain ⟨r1, qr1, hf⟩ := bd_some hf
  refine xt_callVi (As := [.int a1]) (rest := []) (C := RX1) (ci := 1) ⟨hx, hb, hml, hown, hts⟩ 33 (mX1_hasPier l dC dI ad cy hJ 0 (by decide) σ a1 r1 qr1) (cwV 1 hts gX6_setOpened_X1_hasPier rfl rfl rfl dmX1_hasPier ⟨Nat.le_of_ble_eq_true rfl, Nat.le_of_ble_eq_true rfl⟩) hK hP hS (by decide) (LX1_obj ad cy 0 (by decide) _) rfl rfl rfl hl.1 (Nat.le_of_ble_eq_true rfl) ⟨Nat.zero_le _, Nat.zero_le _⟩ dX6_setOpened_5 (fun H locs hP hS => ?_)
  refine lv_if_ne (tgt := 14) hx hb dX6_setOpened_8 (by decide) (fun c2 => ?_) (fun c2 => ?_)
  · have hf := (if_neg c2).symm.trans hf
    refine lv_aload_n hx hb dX6_setOpened_14 rfl (lv_at hl 0 rfl) ?_
    refine xt_get (ci := 6) (C := RX6) (T := TX6) (n := 12) (v := .ref (ad 33)) hx hb hts iX6_setOpened_X6 hown hK hP 0 (by decide) (LX6_obj ad cy _) rfl 0 (by decide) w1 rfl dX6_setOpened_15 ?_
    refine xt_get (ci := 1) (C := RX1) (T := TX1) (n := 8) (v := .ref (ad 35)) hx hb hts iX6_setOpened_X1 hown hK hP 33 (by decide) (LX1_obj ad cy 0 (by decide) _) rfl 1 (by decide) w2 rfl dX6_setOpened_18 ?_
    refine lv_iload_n hx hb dX6_setOpened_21 rfl (lv_at hl 1 rfl) ?_
    obtain ⟨g3, hf⟩ := gd_some hf
    refine xt_zald hx hb hK hP 35 (by decide) 1 (LX1_opened ad cy 0 (by decide) _) rfl g3 dX6_setOpened_22 ?_
    refine lv_iload_n hx hb dX6_setOpened_23 rfl (lv_at hl 2 rfl) ?_
    refine lv_icmp_ne (tgt := 34) hx hb dX6_setOpened_24 (by decide) (fun c4 => ?_) (fun c4 => ?_)
    · have hf := (if_neg c4).symm.trans hf
      refine lv_aload_n hx hb dX6_setOpened_34 rfl (lv_at hl 0 rfl) ?_
      refine xt_get (ci := 6) (C := RX6) (T := TX6) (n := 12) (v := .ref (ad 33)) hx hb hts iX6_setOpened_X6 hown hK hP 0 (by decide) (LX6_obj ad cy _) rfl 0 (by decide) w1 rfl dX6_setOpened_35 ?_
      refine xt_get (ci := 1) (C := RX1) (T := TX1) (n := 8) (v := .ref (ad 35)) hx hb hts iX6_setOpened_X1 hown hK hP 33 (by decide) (LX1_obj ad cy 0 (by decide) _) rfl 1 (by decide) w2 rfl dX6_setOpened_38 ?_
      refine lv_iload_n hx hb dX6_setOpened_41 rfl (lv_at hl 1 rfl) ?_
      refine lv_iload_n hx hb dX6_setOpened_42 rfl (lv_at hl 2 rfl) ?_
      obtain ⟨g5, hf⟩ := gd_some hf
      refine xt_zast hx hb hK hP hJ hS 35 (by decide) 1 (LX1_opened ad cy 0 (by decide)) rfl g5 dX6_setOpened_43 (fun H locs hP hS => ?_)
      obtain ⟨σ6, eσ6⟩ : ∃ z : St, z = su σ 35 a1.toNatClampNeg (vp_nar .boolean a2) := ⟨_, rfl⟩
      rw [← eσ6] at hP
      have hf := nm_to hf eσ6
      refine lv_aload_n hx hb dX6_setOpened_44 rfl (lv_at hl 0 rfl) ?_
      obtain ⟨r7, qr7, hf⟩ := bd_some hf
      refine xt_callVi (As := []) (rest := []) (C := RX6) (ci := 6) ⟨hx, hb, hml, hown, hts⟩ 0 (mX6_moveHomes l dC dI ad cy hJ σ6 r7 qr7) (cwV 0 hts gX6_setOpened_X6_moveHomes rfl rfl rfl dmX6_moveHomes ⟨Nat.le_of_ble_eq_true rfl, Nat.le_of_ble_eq_true rfl⟩) hK hP hS (by decide) (LX6_obj ad cy _) rfl rfl rfl hl.1 (Nat.le_of_ble_eq_true rfl) ⟨Nat.zero_le _, Nat.zero_le _⟩ dX6_setOpened_45 (fun H locs hP hS => ?_)
      exact xt_iret hx hb hr hP hS (rs_1 hf) (rs_2 hf) dX6_setOpened_48 hlocks
    · have hf := (if_pos c4).symm.trans hf
      refine lv_aload_n hx hb dX6_setOpened_27 rfl (lv_at hl 0 rfl) ?_
      refine lv_iconst (v := 3) hx hb dX6_setOpened_28 (by decide) ?_
      refine lv_iload_n hx hb dX6_setOpened_29 rfl (lv_at hl 1 rfl) ?_
      obtain ⟨r8, qr8, hf⟩ := bd_some hf
      refine xt_callVi (As := [.int 3, .int a1]) (rest := []) (C := RX6) (ci := 6) ⟨hx, hb, hml, hown, hts⟩ 0 (mX6_refuse l dC dI ad cy hJ σ 3 a1 r8 qr8) (cwV 2 hts gX6_setOpened_X6_refuse rfl rfl rfl dmX6_refuse ⟨Nat.le_of_ble_eq_true rfl, Nat.le_of_ble_eq_true rfl⟩) hK hP hS (by decide) (LX6_obj ad cy _) rfl rfl rfl hl.1 (Nat.le_of_ble_eq_true rfl) ⟨Nat.zero_le _, Nat.zero_le _⟩ dX6_setOpened_30 (fun H locs hP hS => ?_)
      exact xt_iret hx hb hr hP hS (rs_1 hf) (rs_2 hf) dX6_setOpened_33 hlocks
  · have hf := (if_pos c2).symm.trans hf
    refine lv_bipush (v := (-11)) hx hb dX6_setOpened_11 (by decide) ?_
    exact xt_iret hx hb hr hP hS (rs_1 hf) (rs_2 hf) dX6_setOpened_13 hlocks
def fX6_close (σ : St) (a1 : Int32) : Option (Int32 × St) :=
  bd (fX2_draft 0 σ) fun r1 => bd (fX6_setOpened r1 a1 0) fun r2 => bd (fX6_keepIfDone r2.2 r2.1) fun r3 => some (r3.1, r3.2)
abbrev rmX6_close : Room := { frames := 5, cells := 0, slots := 0, locals := 155 }
theorem dmX6_close : yX6_close.cls = RX6 ∧ yX6_close.cls ≠ "java/lang/invoke/MethodHandle" ∧ yX6_close.cls ≠ "java/lang/invoke/VarHandle" ∧ (parseMethodDescriptor yX6_close.desc).map (fun d => d.parameters.length) = some 1 := by decide +kernel
theorem iX6_close_X6 : ∀ w ∈ wsX60, w ∈ wsX6_close := fun w h => List.mem_cons_of_mem _ (List.mem_append_left _ (List.mem_append_left _ (List.mem_append_left _ (List.mem_append_left _ (List.mem_append_right _ (h))))))
set_option maxHeartbeats 8000000 in
set_option maxRecDepth 100000 in
theorem mX6_close (l : Launch) (dC : Nat → ClassId) (dI : Nat → Nat → Nat) (ad : Nat → Nat) (cy : Nat → ClassId) (hJ : WJ 93 ad) (σ : St) (a1 : Int32) (res : (Int32 × St)) (hf : fX6_close σ a1 = some res) : CMi l yX6_close wsX6_close rmX6_close (dC, dI) (tysX cy) 93 ad (layX ad cy) [.ref (ad 0), .int a1] σ res.1 res.2 := by
  refine Met.ofW (cc := cX6_close) (maxL := 2) (ret := (some .int)) (by decide) rfl ?_
  intro p e s m args below meth c s₁ B hml hv
  obtain ⟨hargs, hP, hK⟩ := hv
  have hx := B.exec
  have hb := B.bytes
  have hr := B.returns
  have hts := atoms_spec (ws := wsX6_close) B.pre
  have hown : s.vm.findClass RX6 = some m.cls := findClass_of_methodNamed B.named
  have hlocks := B.notSynchronized
  have w1 := hts (.fieldLink RX6 39 "PierRings" "history" "LPierRings$History;") (List.mem_of_getElem? (i := 1) rfl)
  have w2 := hts (.fieldLink RX6 12 "PierRings" "harbour" "LPierRings$Harbour;") (List.mem_of_getElem? (i := 2) rfl)
  have hS : va_S (WA 93 ad) s.heap s.heap [] := va_S.rf
  have hfr : entryFrame m args 2 = F0 m 0 ((lg_sl [.ref (ad 0), .int a1] ++ List.replicate (2 - (lg_sl [.ref (ad 0), .int a1]).length) Slot.unset).toArray) [] := by rw [hargs]; exact lg_entry_eq _ _ _
  rw [hfr]
  have hl := lv_entry ([.ref (ad 0), .int a1]) (n := 2) (Nat.le_of_ble_eq_true rfl)
  generalize (lg_sl [.ref (ad 0), .int a1] ++ List.replicate (2 - (lg_sl [.ref (ad 0), .int a1]).length) Slot.unset).toArray = ls at hl ⊢
  have hl : lv_has ls 2 [(0, .ref (ad 0)), (1, .int a1)] := hl
  clear hfr hargs B
  show W p l e rmX6_close s m args below meth c s.heap [] 0 0 (MQ below (Qiw (dC, dI) 93 ad (layX ad cy) res.1 res.2) args s 0 0 (WA 93 ad)) (F0 m 0 ls [])
  unfold fX6_close at hf
  obtain ⟨H, eH⟩ : ∃ H : Heap, H = s.heap := ⟨_, rfl⟩
  rw [← eH] at hP
  have hS : va_S (WA 93 ad) s.heap H [] := by rw [eH]; exact hS
  suffices K : W p l e rmX6_close s m args below meth c H [] 0 0 (MQ below (Qiw (dC, dI) 93 ad (layX ad cy) res.1 res.2) args s 0 0 (WA 93 ad)) (F0 m 0 ls []) by rw [eH] at K; exact K
  clear eH
  obtain ⟨locs, elocs⟩ : ∃ z : List Loc, z = [] := ⟨_, rfl⟩
  rw [← elocs] at hS ⊢
  refine lv_aload_n hx hb dX6_close_0 rfl (lv_at hl 0 rfl) ?_
  refine xt_get (ci := 6) (C := RX6) (T := TX6) (n := 12) (v := .ref (ad 1)) hx hb hts iX6_close_X6 hown hK hP 0 (by decide) (LX6_obj ad cy _) rfl 5 (by decide) w1 rfl dX6_close_1 ?_
  refine lv_aload_n hx hb dX6_close_4 rfl (lv_at hl 0 rfl) ?_
  refine xt_get (ci := 6) (C := RX6) (T := TX6) (n := 12) (v := .ref (ad 33)) hx hb hts iX6_close_X6 hown hK hP 0 (by decide) (LX6_obj ad cy _) rfl 0 (by decide) w2 rfl dX6_close_5 ?_
  obtain ⟨r1, qr1, hf⟩ := bd_some hf
  refine xt_callVv (As := [.ref (ad 33)]) (rest := []) (C := RX2) (ci := 2) ⟨hx, hb, hml, hown, hts⟩ 1 (mX2_draft l dC dI ad cy hJ 0 (by decide) σ r1 qr1) (cwV 1 hts gX6_close_X2_draft rfl rfl rfl dmX2_draft ⟨Nat.le_of_ble_eq_true rfl, Nat.le_of_ble_eq_true rfl⟩) hK hP hS (by decide) (LX2_obj ad cy _) rfl rfl rfl hl.1 (Nat.le_of_ble_eq_true rfl) ⟨Nat.zero_le _, Nat.zero_le _⟩ dX6_close_8 (fun H locs hP hS => ?_)
  refine lv_aload_n hx hb dX6_close_11 rfl (lv_at hl 0 rfl) ?_
  refine lv_aload_n hx hb dX6_close_12 rfl (lv_at hl 0 rfl) ?_
  refine lv_iload_n hx hb dX6_close_13 rfl (lv_at hl 1 rfl) ?_
  refine lv_iconst (v := 0) hx hb dX6_close_14 (by decide) ?_
  obtain ⟨r2, qr2, hf⟩ := bd_some hf
  refine xt_callVi (As := [.int a1, .int 0]) (rest := [.ref (ad 0)]) (C := RX6) (ci := 6) ⟨hx, hb, hml, hown, hts⟩ 0 (mX6_setOpened l dC dI ad cy hJ r1 a1 0 r2 qr2) (cwV 2 hts gX6_close_X6_setOpened rfl rfl rfl dmX6_setOpened ⟨Nat.le_of_ble_eq_true rfl, Nat.le_of_ble_eq_true rfl⟩) hK hP hS (by decide) (LX6_obj ad cy _) rfl rfl rfl hl.1 (Nat.le_of_ble_eq_true rfl) ⟨Nat.zero_le _, Nat.zero_le _⟩ dX6_close_15 (fun H locs hP hS => ?_)
  obtain ⟨r3, qr3, hf⟩ := bd_some hf
  refine xt_callVi (As := [.int r2.1]) (rest := []) (C := RX6) (ci := 6) ⟨hx, hb, hml, hown, hts⟩ 0 (mX6_keepIfDone l dC dI ad cy hJ r2.2 r2.1 r3 qr3) (cwV 1 hts gX6_close_X6_keepIfDone rfl rfl rfl dmX6_keepIfDone ⟨Nat.le_of_ble_eq_true rfl, Nat.le_of_ble_eq_true rfl⟩) hK hP hS (by decide) (LX6_obj ad cy _) rfl rfl rfl hl.1 (Nat.le_of_ble_eq_true rfl) ⟨Nat.zero_le _, Nat.zero_le _⟩ dX6_close_18 (fun H locs hP hS => ?_)
  exact xt_iret hx hb hr hP hS (rs_1 hf) (rs_2 hf) dX6_close_21 hlocks
def fX6_open (σ : St) (a1 : Int32) : Option (Int32 × St) :=
  bd (fX2_draft 0 σ) fun r1 => bd (fX6_setOpened r1 a1 1) fun r2 => bd (fX6_keepIfDone r2.2 r2.1) fun r3 => some (r3.1, r3.2)
abbrev rmX6_open : Room := { frames := 5, cells := 0, slots := 0, locals := 155 }
theorem dmX6_open : yX6_open.cls = RX6 ∧ yX6_open.cls ≠ "java/lang/invoke/MethodHandle" ∧ yX6_open.cls ≠ "java/lang/invoke/VarHandle" ∧ (parseMethodDescriptor yX6_open.desc).map (fun d => d.parameters.length) = some 1 := by decide +kernel
theorem iX6_open_X6 : ∀ w ∈ wsX60, w ∈ wsX6_open := fun w h => List.mem_cons_of_mem _ (List.mem_append_left _ (List.mem_append_left _ (List.mem_append_left _ (List.mem_append_left _ (List.mem_append_right _ (h))))))
set_option maxHeartbeats 8000000 in
set_option maxRecDepth 100000 in
theorem mX6_open (l : Launch) (dC : Nat → ClassId) (dI : Nat → Nat → Nat) (ad : Nat → Nat) (cy : Nat → ClassId) (hJ : WJ 93 ad) (σ : St) (a1 : Int32) (res : (Int32 × St)) (hf : fX6_open σ a1 = some res) : CMi l yX6_open wsX6_open rmX6_open (dC, dI) (tysX cy) 93 ad (layX ad cy) [.ref (ad 0), .int a1] σ res.1 res.2 := by
  refine Met.ofW (cc := cX6_open) (maxL := 2) (ret := (some .int)) (by decide) rfl ?_
  intro p e s m args below meth c s₁ B hml hv
  obtain ⟨hargs, hP, hK⟩ := hv
  have hx := B.exec
  have hb := B.bytes
  have hr := B.returns
  have hts := atoms_spec (ws := wsX6_open) B.pre
  have hown : s.vm.findClass RX6 = some m.cls := findClass_of_methodNamed B.named
  have hlocks := B.notSynchronized
  have w1 := hts (.fieldLink RX6 39 "PierRings" "history" "LPierRings$History;") (List.mem_of_getElem? (i := 1) rfl)
  have w2 := hts (.fieldLink RX6 12 "PierRings" "harbour" "LPierRings$Harbour;") (List.mem_of_getElem? (i := 2) rfl)
  have hS : va_S (WA 93 ad) s.heap s.heap [] := va_S.rf
  have hfr : entryFrame m args 2 = F0 m 0 ((lg_sl [.ref (ad 0), .int a1] ++ List.replicate (2 - (lg_sl [.ref (ad 0), .int a1]).length) Slot.unset).toArray) [] := by rw [hargs]; exact lg_entry_eq _ _ _
  rw [hfr]
  have hl := lv_entry ([.ref (ad 0), .int a1]) (n := 2) (Nat.le_of_ble_eq_true rfl)
  generalize (lg_sl [.ref (ad 0), .int a1] ++ List.replicate (2 - (lg_sl [.ref (ad 0), .int a1]).length) Slot.unset).toArray = ls at hl ⊢
  have hl : lv_has ls 2 [(0, .ref (ad 0)), (1, .int a1)] := hl
  clear hfr hargs B
  show W p l e rmX6_open s m args below meth c s.heap [] 0 0 (MQ below (Qiw (dC, dI) 93 ad (layX ad cy) res.1 res.2) args s 0 0 (WA 93 ad)) (F0 m 0 ls [])
  unfold fX6_open at hf
  obtain ⟨H, eH⟩ : ∃ H : Heap, H = s.heap := ⟨_, rfl⟩
  rw [← eH] at hP
  have hS : va_S (WA 93 ad) s.heap H [] := by rw [eH]; exact hS
  suffices K : W p l e rmX6_open s m args below meth c H [] 0 0 (MQ below (Qiw (dC, dI) 93 ad (layX ad cy) res.1 res.2) args s 0 0 (WA 93 ad)) (F0 m 0 ls []) by rw [eH] at K; exact K
  clear eH
  obtain ⟨locs, elocs⟩ : ∃ z : List Loc, z = [] := ⟨_, rfl⟩
  rw [← elocs] at hS ⊢
  refine lv_aload_n hx hb dX6_open_0 rfl (lv_at hl 0 rfl) ?_
  refine xt_get (ci := 6) (C := RX6) (T := TX6) (n := 12) (v := .ref (ad 1)) hx hb hts iX6_open_X6 hown hK hP 0 (by decide) (LX6_obj ad cy _) rfl 5 (by decide) w1 rfl dX6_open_1 ?_
  refine lv_aload_n hx hb dX6_open_4 rfl (lv_at hl 0 rfl) ?_
  refine xt_get (ci := 6) (C := RX6) (T := TX6) (n := 12) (v := .ref (ad 33)) hx hb hts iX6_open_X6 hown hK hP 0 (by decide) (LX6_obj ad cy _) rfl 0 (by decide) w2 rfl dX6_open_5 ?_
  obtain ⟨r1, qr1, hf⟩ := bd_some hf
  refine xt_callVv (As := [.ref (ad 33)]) (rest := []) (C := RX2) (ci := 2) ⟨hx, hb, hml, hown, hts⟩ 1 (mX2_draft l dC dI ad cy hJ 0 (by decide) σ r1 qr1) (cwV 1 hts gX6_open_X2_draft rfl rfl rfl dmX2_draft ⟨Nat.le_of_ble_eq_true rfl, Nat.le_of_ble_eq_true rfl⟩) hK hP hS (by decide) (LX2_obj ad cy _) rfl rfl rfl hl.1 (Nat.le_of_ble_eq_true rfl) ⟨Nat.zero_le _, Nat.zero_le _⟩ dX6_open_8 (fun H locs hP hS => ?_)
  refine lv_aload_n hx hb dX6_open_11 rfl (lv_at hl 0 rfl) ?_
  refine lv_aload_n hx hb dX6_open_12 rfl (lv_at hl 0 rfl) ?_
  refine lv_iload_n hx hb dX6_open_13 rfl (lv_at hl 1 rfl) ?_
  refine lv_iconst (v := 1) hx hb dX6_open_14 (by decide) ?_
  obtain ⟨r2, qr2, hf⟩ := bd_some hf
  refine xt_callVi (As := [.int a1, .int 1]) (rest := [.ref (ad 0)]) (C := RX6) (ci := 6) ⟨hx, hb, hml, hown, hts⟩ 0 (mX6_setOpened l dC dI ad cy hJ r1 a1 1 r2 qr2) (cwV 2 hts gX6_open_X6_setOpened rfl rfl rfl dmX6_setOpened ⟨Nat.le_of_ble_eq_true rfl, Nat.le_of_ble_eq_true rfl⟩) hK hP hS (by decide) (LX6_obj ad cy _) rfl rfl rfl hl.1 (Nat.le_of_ble_eq_true rfl) ⟨Nat.zero_le _, Nat.zero_le _⟩ dX6_open_15 (fun H locs hP hS => ?_)
  obtain ⟨r3, qr3, hf⟩ := bd_some hf
  refine xt_callVi (As := [.int r2.1]) (rest := []) (C := RX6) (ci := 6) ⟨hx, hb, hml, hown, hts⟩ 0 (mX6_keepIfDone l dC dI ad cy hJ r2.2 r2.1 r3 qr3) (cwV 1 hts gX6_open_X6_keepIfDone rfl rfl rfl dmX6_keepIfDone ⟨Nat.le_of_ble_eq_true rfl, Nat.le_of_ble_eq_true rfl⟩) hK hP hS (by decide) (LX6_obj ad cy _) rfl rfl rfl hl.1 (Nat.le_of_ble_eq_true rfl) ⟨Nat.zero_le _, Nat.zero_le _⟩ dX6_open_18 (fun H locs hP hS => ?_)
  exact xt_iret hx hb hr hP hS (rs_1 hf) (rs_2 hf) dX6_open_21 hlocks
def fX6_setBerths (σ : St) (a1 : Int32) (a2 : Int32) : Option (Int32 × St) :=
  bd (fX1_hasPier 0 σ a1) fun r1 => if r1 = 0 then (some ((-11), σ)) else (if a2 < (1 : Int32) then (some ((-12), σ)) else (if a2 ≤ (5 : Int32) then (gd (okI a1 8) <| if (σ 34 a1.toNatClampNeg) = a2 then (bd (fX6_refuse σ 3 a2) fun r10 => some (r10.1, r10.2)) else (gd (okI a1 8) <| nm (su σ 34 a1.toNatClampNeg a2) fun σ8 => bd (fX6_moveHomes σ8) fun r9 => some (r9.1, r9.2))) else (some ((-12), σ))))
abbrev rmX6_setBerths : Room := { frames := 4, cells := 0, slots := 0, locals := 133 }
theorem dmX6_setBerths : yX6_setBerths.cls = RX6 ∧ yX6_setBerths.cls ≠ "java/lang/invoke/MethodHandle" ∧ yX6_setBerths.cls ≠ "java/lang/invoke/VarHandle" ∧ (parseMethodDescriptor yX6_setBerths.desc).map (fun d => d.parameters.length) = some 2 := by decide +kernel
theorem iX6_setBerths_X1 : ∀ w ∈ wsX10, w ∈ wsX6_setBerths := fun w h => List.mem_cons_of_mem _ (List.mem_append_left _ (List.mem_append_left _ (List.mem_append_right _ (h))))
theorem iX6_setBerths_X6 : ∀ w ∈ wsX60, w ∈ wsX6_setBerths := fun w h => List.mem_cons_of_mem _ (List.mem_append_left _ (List.mem_append_left _ (List.mem_append_left _ (List.mem_append_right _ (h)))))
set_option maxHeartbeats 8000000 in
set_option maxRecDepth 100000 in
theorem mX6_setBerths (l : Launch) (dC : Nat → ClassId) (dI : Nat → Nat → Nat) (ad : Nat → Nat) (cy : Nat → ClassId) (hJ : WJ 93 ad) (σ : St) (a1 : Int32) (a2 : Int32) (res : (Int32 × St)) (hf : fX6_setBerths σ a1 a2 = some res) : CMi l yX6_setBerths wsX6_setBerths rmX6_setBerths (dC, dI) (tysX cy) 93 ad (layX ad cy) [.ref (ad 0), .int a1, .int a2] σ res.1 res.2 := by
  refine Met.ofW (cc := cX6_setBerths) (maxL := 3) (ret := (some .int)) (by decide) rfl ?_
  intro p e s m args below meth c s₁ B hml hv
  obtain ⟨hargs, hP, hK⟩ := hv
  have hx := B.exec
  have hb := B.bytes
  have hr := B.returns
  have hts := atoms_spec (ws := wsX6_setBerths) B.pre
  have hown : s.vm.findClass RX6 = some m.cls := findClass_of_methodNamed B.named
  have hlocks := B.notSynchronized
  have w1 := hts (.fieldLink RX6 12 "PierRings" "harbour" "LPierRings$Harbour;") (List.mem_of_getElem? (i := 1) rfl)
  have w2 := hts (.fieldLink RX6 97 "PierRings$Harbour" "berths" "[I") (List.mem_of_getElem? (i := 2) rfl)
  have hS : va_S (WA 93 ad) s.heap s.heap [] := va_S.rf
  have hfr : entryFrame m args 3 = F0 m 0 ((lg_sl [.ref (ad 0), .int a1, .int a2] ++ List.replicate (3 - (lg_sl [.ref (ad 0), .int a1, .int a2]).length) Slot.unset).toArray) [] := by rw [hargs]; exact lg_entry_eq _ _ _
  rw [hfr]
  have hl := lv_entry ([.ref (ad 0), .int a1, .int a2]) (n := 3) (Nat.le_of_ble_eq_true rfl)
  generalize (lg_sl [.ref (ad 0), .int a1, .int a2] ++ List.replicate (3 - (lg_sl [.ref (ad 0), .int a1, .int a2]).length) Slot.unset).toArray = ls at hl ⊢
  have hl : lv_has ls 3 [(0, .ref (ad 0)), (1, .int a1), (2, .int a2)] := hl
  clear hfr hargs B
  show W p l e rmX6_setBerths s m args below meth c s.heap [] 0 0 (MQ below (Qiw (dC, dI) 93 ad (layX ad cy) res.1 res.2) args s 0 0 (WA 93 ad)) (F0 m 0 ls [])
  unfold fX6_setBerths at hf
  obtain ⟨H, eH⟩ : ∃ H : Heap, H = s.heap := ⟨_, rfl⟩
  rw [← eH] at hP
  have hS : va_S (WA 93 ad) s.heap H [] := by rw [eH]; exact hS
  suffices K : W p l e rmX6_setBerths s m args below meth c H [] 0 0 (MQ below (Qiw (dC, dI) 93 ad (layX ad cy) res.1 res.2) args s 0 0 (WA 93 ad)) (F0 m 0 ls []) by rw [eH] at K; exact K
  clear eH
  obtain ⟨locs, elocs⟩ : ∃ z : List Loc, z = [] := ⟨_, rfl⟩
  rw [← elocs] at hS ⊢
  refine lv_aload_n hx hb dX6_setBerths_0 rfl (lv_at hl 0 rfl) ?_
  refine xt_get (ci := 6) (C := RX6) (T := TX6) (n := 12) (v := .ref (ad 33)) hx hb hts iX6_setBerths_X6 hown hK hP 0 (by decide) (LX6_obj ad cy _) rfl 0 (by decide) w1 rfl dX6_setBerths_1 ?_
  refine lv_iload_n hx hb dX6_setBerths_4 rfl (lv_at hl 1 rfl) ?_
  obtain ⟨r1, qr1, hf⟩ := bd_some hf
  refine xt_callVi (As := [.int a1]) (rest := []) (C := RX1) (ci := 1) ⟨hx, hb, hml, hown, hts⟩ 33 (mX1_hasPier l dC dI ad cy hJ 0 (by decide) σ a1 r1 qr1) (cwV 1 hts gX6_setBerths_X1_hasPier rfl rfl rfl dmX1_hasPier ⟨Nat.le_of_ble_eq_true rfl, Nat.le_of_ble_eq_true rfl⟩) hK hP hS (by decide) (LX1_obj ad cy 0 (by decide) _) rfl rfl rfl hl.1 (Nat.le_of_ble_eq_true rfl) ⟨Nat.zero_le _, Nat.zero_le _⟩ dX6_setBerths_5 (fun H locs hP hS => ?_)
  refine lv_if_ne (tgt := 14) hx hb dX6_setBerths_8 (by decide) (fun c2 => ?_) (fun c2 => ?_)
  · have hf := (if_neg c2).symm.trans hf
    refine lv_iload_n hx hb dX6_setBerths_14 rfl (lv_at hl 2 rfl) ?_
    refine lv_iconst (v := 1) hx hb dX6_setBerths_15 (by decide) ?_
    refine lv_icmp_lt (tgt := 24) hx hb dX6_setBerths_16 (by decide) (fun c3 => ?_) (fun c3 => ?_)
    · have hf := (if_pos c3).symm.trans hf
      refine lv_bipush (v := (-12)) hx hb dX6_setBerths_24 (by decide) ?_
      exact xt_iret hx hb hr hP hS (rs_1 hf) (rs_2 hf) dX6_setBerths_26 hlocks
    · have hf := (if_neg c3).symm.trans hf
      refine lv_iload_n hx hb dX6_setBerths_19 rfl (lv_at hl 2 rfl) ?_
      refine lv_iconst (v := 5) hx hb dX6_setBerths_20 (by decide) ?_
      refine lv_icmp_le (tgt := 27) hx hb dX6_setBerths_21 (by decide) (fun c4 => ?_) (fun c4 => ?_)
      · have hf := (if_pos c4).symm.trans hf
        refine lv_aload_n hx hb dX6_setBerths_27 rfl (lv_at hl 0 rfl) ?_
        refine xt_get (ci := 6) (C := RX6) (T := TX6) (n := 12) (v := .ref (ad 33)) hx hb hts iX6_setBerths_X6 hown hK hP 0 (by decide) (LX6_obj ad cy _) rfl 0 (by decide) w1 rfl dX6_setBerths_28 ?_
        refine xt_get (ci := 1) (C := RX1) (T := TX1) (n := 8) (v := .ref (ad 34)) hx hb hts iX6_setBerths_X1 hown hK hP 33 (by decide) (LX1_obj ad cy 0 (by decide) _) rfl 0 (by decide) w2 rfl dX6_setBerths_31 ?_
        refine lv_iload_n hx hb dX6_setBerths_34 rfl (lv_at hl 1 rfl) ?_
        obtain ⟨g5, hf⟩ := gd_some hf
        refine xt_iald hx hb hK hP 34 (by decide) 0 (LX1_berths ad cy 0 (by decide) _) rfl g5 dX6_setBerths_35 ?_
        refine lv_iload_n hx hb dX6_setBerths_36 rfl (lv_at hl 2 rfl) ?_
        refine lv_icmp_ne (tgt := 47) hx hb dX6_setBerths_37 (by decide) (fun c6 => ?_) (fun c6 => ?_)
        · have hf := (if_neg c6).symm.trans hf
          refine lv_aload_n hx hb dX6_setBerths_47 rfl (lv_at hl 0 rfl) ?_
          refine xt_get (ci := 6) (C := RX6) (T := TX6) (n := 12) (v := .ref (ad 33)) hx hb hts iX6_setBerths_X6 hown hK hP 0 (by decide) (LX6_obj ad cy _) rfl 0 (by decide) w1 rfl dX6_setBerths_48 ?_
          refine xt_get (ci := 1) (C := RX1) (T := TX1) (n := 8) (v := .ref (ad 34)) hx hb hts iX6_setBerths_X1 hown hK hP 33 (by decide) (LX1_obj ad cy 0 (by decide) _) rfl 0 (by decide) w2 rfl dX6_setBerths_51 ?_
          refine lv_iload_n hx hb dX6_setBerths_54 rfl (lv_at hl 1 rfl) ?_
          refine lv_iload_n hx hb dX6_setBerths_55 rfl (lv_at hl 2 rfl) ?_
          obtain ⟨g7, hf⟩ := gd_some hf
          refine xt_iast hx hb hK hP hJ hS 34 (by decide) 0 (LX1_berths ad cy 0 (by decide)) rfl g7 dX6_setBerths_56 (fun H locs hP hS => ?_)
          obtain ⟨σ8, eσ8⟩ : ∃ z : St, z = su σ 34 a1.toNatClampNeg a2 := ⟨_, rfl⟩
          rw [← eσ8] at hP
          have hf := nm_to hf eσ8
          refine lv_aload_n hx hb dX6_setBerths_57 rfl (lv_at hl 0 rfl) ?_
          obtain ⟨r9, qr9, hf⟩ := bd_some hf
          refine xt_callVi (As := []) (rest := []) (C := RX6) (ci := 6) ⟨hx, hb, hml, hown, hts⟩ 0 (mX6_moveHomes l dC dI ad cy hJ σ8 r9 qr9) (cwV 0 hts gX6_setBerths_X6_moveHomes rfl rfl rfl dmX6_moveHomes ⟨Nat.le_of_ble_eq_true rfl, Nat.le_of_ble_eq_true rfl⟩) hK hP hS (by decide) (LX6_obj ad cy _) rfl rfl rfl hl.1 (Nat.le_of_ble_eq_true rfl) ⟨Nat.zero_le _, Nat.zero_le _⟩ dX6_setBerths_58 (fun H locs hP hS => ?_)
          exact xt_iret hx hb hr hP hS (rs_1 hf) (rs_2 hf) dX6_setBerths_61 hlocks
        · have hf := (if_pos c6).symm.trans hf
          refine lv_aload_n hx hb dX6_setBerths_40 rfl (lv_at hl 0 rfl) ?_
          refine lv_iconst (v := 3) hx hb dX6_setBerths_41 (by decide) ?_
          refine lv_iload_n hx hb dX6_setBerths_42 rfl (lv_at hl 2 rfl) ?_
          obtain ⟨r10, qr10, hf⟩ := bd_some hf
          refine xt_callVi (As := [.int 3, .int a2]) (rest := []) (C := RX6) (ci := 6) ⟨hx, hb, hml, hown, hts⟩ 0 (mX6_refuse l dC dI ad cy hJ σ 3 a2 r10 qr10) (cwV 2 hts gX6_setBerths_X6_refuse rfl rfl rfl dmX6_refuse ⟨Nat.le_of_ble_eq_true rfl, Nat.le_of_ble_eq_true rfl⟩) hK hP hS (by decide) (LX6_obj ad cy _) rfl rfl rfl hl.1 (Nat.le_of_ble_eq_true rfl) ⟨Nat.zero_le _, Nat.zero_le _⟩ dX6_setBerths_43 (fun H locs hP hS => ?_)
          exact xt_iret hx hb hr hP hS (rs_1 hf) (rs_2 hf) dX6_setBerths_46 hlocks
      · have hf := (if_neg c4).symm.trans hf
        refine lv_bipush (v := (-12)) hx hb dX6_setBerths_24 (by decide) ?_
        exact xt_iret hx hb hr hP hS (rs_1 hf) (rs_2 hf) dX6_setBerths_26 hlocks
  · have hf := (if_pos c2).symm.trans hf
    refine lv_bipush (v := (-11)) hx hb dX6_setBerths_11 (by decide) ?_
    exact xt_iret hx hb hr hP hS (rs_1 hf) (rs_2 hf) dX6_setBerths_13 hlocks
def fX6_weigh (σ : St) (a1 : Int32) (a2 : Int32) : Option (Int32 × St) :=
  bd (fX2_draft 0 σ) fun r1 => bd (fX6_setBerths r1 a1 a2) fun r2 => bd (fX6_keepIfDone r2.2 r2.1) fun r3 => some (r3.1, r3.2)
abbrev rmX6_weigh : Room := { frames := 5, cells := 0, slots := 0, locals := 155 }
theorem dmX6_weigh : yX6_weigh.cls = RX6 ∧ yX6_weigh.cls ≠ "java/lang/invoke/MethodHandle" ∧ yX6_weigh.cls ≠ "java/lang/invoke/VarHandle" ∧ (parseMethodDescriptor yX6_weigh.desc).map (fun d => d.parameters.length) = some 2 := by decide +kernel
theorem iX6_weigh_X6 : ∀ w ∈ wsX60, w ∈ wsX6_weigh := fun w h => List.mem_cons_of_mem _ (List.mem_append_left _ (List.mem_append_left _ (List.mem_append_left _ (List.mem_append_left _ (List.mem_append_right _ (h))))))
set_option maxHeartbeats 8000000 in
set_option maxRecDepth 100000 in
theorem mX6_weigh (l : Launch) (dC : Nat → ClassId) (dI : Nat → Nat → Nat) (ad : Nat → Nat) (cy : Nat → ClassId) (hJ : WJ 93 ad) (σ : St) (a1 : Int32) (a2 : Int32) (res : (Int32 × St)) (hf : fX6_weigh σ a1 a2 = some res) : CMi l yX6_weigh wsX6_weigh rmX6_weigh (dC, dI) (tysX cy) 93 ad (layX ad cy) [.ref (ad 0), .int a1, .int a2] σ res.1 res.2 := by
  refine Met.ofW (cc := cX6_weigh) (maxL := 3) (ret := (some .int)) (by decide) rfl ?_
  intro p e s m args below meth c s₁ B hml hv
  obtain ⟨hargs, hP, hK⟩ := hv
  have hx := B.exec
  have hb := B.bytes
  have hr := B.returns
  have hts := atoms_spec (ws := wsX6_weigh) B.pre
  have hown : s.vm.findClass RX6 = some m.cls := findClass_of_methodNamed B.named
  have hlocks := B.notSynchronized
  have w1 := hts (.fieldLink RX6 39 "PierRings" "history" "LPierRings$History;") (List.mem_of_getElem? (i := 1) rfl)
  have w2 := hts (.fieldLink RX6 12 "PierRings" "harbour" "LPierRings$Harbour;") (List.mem_of_getElem? (i := 2) rfl)
  have hS : va_S (WA 93 ad) s.heap s.heap [] := va_S.rf
  have hfr : entryFrame m args 3 = F0 m 0 ((lg_sl [.ref (ad 0), .int a1, .int a2] ++ List.replicate (3 - (lg_sl [.ref (ad 0), .int a1, .int a2]).length) Slot.unset).toArray) [] := by rw [hargs]; exact lg_entry_eq _ _ _
  rw [hfr]
  have hl := lv_entry ([.ref (ad 0), .int a1, .int a2]) (n := 3) (Nat.le_of_ble_eq_true rfl)
  generalize (lg_sl [.ref (ad 0), .int a1, .int a2] ++ List.replicate (3 - (lg_sl [.ref (ad 0), .int a1, .int a2]).length) Slot.unset).toArray = ls at hl ⊢
  have hl : lv_has ls 3 [(0, .ref (ad 0)), (1, .int a1), (2, .int a2)] := hl
  clear hfr hargs B
  show W p l e rmX6_weigh s m args below meth c s.heap [] 0 0 (MQ below (Qiw (dC, dI) 93 ad (layX ad cy) res.1 res.2) args s 0 0 (WA 93 ad)) (F0 m 0 ls [])
  unfold fX6_weigh at hf
  obtain ⟨H, eH⟩ : ∃ H : Heap, H = s.heap := ⟨_, rfl⟩
  rw [← eH] at hP
  have hS : va_S (WA 93 ad) s.heap H [] := by rw [eH]; exact hS
  suffices K : W p l e rmX6_weigh s m args below meth c H [] 0 0 (MQ below (Qiw (dC, dI) 93 ad (layX ad cy) res.1 res.2) args s 0 0 (WA 93 ad)) (F0 m 0 ls []) by rw [eH] at K; exact K
  clear eH
  obtain ⟨locs, elocs⟩ : ∃ z : List Loc, z = [] := ⟨_, rfl⟩
  rw [← elocs] at hS ⊢
  refine lv_aload_n hx hb dX6_weigh_0 rfl (lv_at hl 0 rfl) ?_
  refine xt_get (ci := 6) (C := RX6) (T := TX6) (n := 12) (v := .ref (ad 1)) hx hb hts iX6_weigh_X6 hown hK hP 0 (by decide) (LX6_obj ad cy _) rfl 5 (by decide) w1 rfl dX6_weigh_1 ?_
  refine lv_aload_n hx hb dX6_weigh_4 rfl (lv_at hl 0 rfl) ?_
  refine xt_get (ci := 6) (C := RX6) (T := TX6) (n := 12) (v := .ref (ad 33)) hx hb hts iX6_weigh_X6 hown hK hP 0 (by decide) (LX6_obj ad cy _) rfl 0 (by decide) w2 rfl dX6_weigh_5 ?_
  obtain ⟨r1, qr1, hf⟩ := bd_some hf
  refine xt_callVv (As := [.ref (ad 33)]) (rest := []) (C := RX2) (ci := 2) ⟨hx, hb, hml, hown, hts⟩ 1 (mX2_draft l dC dI ad cy hJ 0 (by decide) σ r1 qr1) (cwV 1 hts gX6_weigh_X2_draft rfl rfl rfl dmX2_draft ⟨Nat.le_of_ble_eq_true rfl, Nat.le_of_ble_eq_true rfl⟩) hK hP hS (by decide) (LX2_obj ad cy _) rfl rfl rfl hl.1 (Nat.le_of_ble_eq_true rfl) ⟨Nat.zero_le _, Nat.zero_le _⟩ dX6_weigh_8 (fun H locs hP hS => ?_)
  refine lv_aload_n hx hb dX6_weigh_11 rfl (lv_at hl 0 rfl) ?_
  refine lv_aload_n hx hb dX6_weigh_12 rfl (lv_at hl 0 rfl) ?_
  refine lv_iload_n hx hb dX6_weigh_13 rfl (lv_at hl 1 rfl) ?_
  refine lv_iload_n hx hb dX6_weigh_14 rfl (lv_at hl 2 rfl) ?_
  obtain ⟨r2, qr2, hf⟩ := bd_some hf
  refine xt_callVi (As := [.int a1, .int a2]) (rest := [.ref (ad 0)]) (C := RX6) (ci := 6) ⟨hx, hb, hml, hown, hts⟩ 0 (mX6_setBerths l dC dI ad cy hJ r1 a1 a2 r2 qr2) (cwV 2 hts gX6_weigh_X6_setBerths rfl rfl rfl dmX6_setBerths ⟨Nat.le_of_ble_eq_true rfl, Nat.le_of_ble_eq_true rfl⟩) hK hP hS (by decide) (LX6_obj ad cy _) rfl rfl rfl hl.1 (Nat.le_of_ble_eq_true rfl) ⟨Nat.zero_le _, Nat.zero_le _⟩ dX6_weigh_15 (fun H locs hP hS => ?_)
  obtain ⟨r3, qr3, hf⟩ := bd_some hf
  refine xt_callVi (As := [.int r2.1]) (rest := []) (C := RX6) (ci := 6) ⟨hx, hb, hml, hown, hts⟩ 0 (mX6_keepIfDone l dC dI ad cy hJ r2.2 r2.1 r3 qr3) (cwV 1 hts gX6_weigh_X6_keepIfDone rfl rfl rfl dmX6_keepIfDone ⟨Nat.le_of_ble_eq_true rfl, Nat.le_of_ble_eq_true rfl⟩) hK hP hS (by decide) (LX6_obj ad cy _) rfl rfl rfl hl.1 (Nat.le_of_ble_eq_true rfl) ⟨Nat.zero_le _, Nat.zero_le _⟩ dX6_weigh_18 (fun H locs hP hS => ?_)
  exact xt_iret hx hb hr hP hS (rs_1 hf) (rs_2 hf) dX6_weigh_21 hlocks
def fX6_setBerthTons (σ : St) (a1 : Int32) : Option (Int32 × St) :=
  if a1 < (10 : Int32) then (some ((-12), σ)) else (if a1 ≤ (200 : Int32) then (nm (σ 33 6) fun v3 => if v3 = a1 then (bd (fX6_refuse σ 3 a1) fun r7 => some (r7.1, r7.2)) else (nm (su σ 33 6 a1) fun σ5 => bd (fX4_settle 0 0 σ5) fun r6 => some (v3, r6))) else (some ((-12), σ)))
abbrev rmX6_setBerthTons : Room := { frames := 3, cells := 0, slots := 0, locals := 71 }
theorem dmX6_setBerthTons : yX6_setBerthTons.cls = RX6 ∧ yX6_setBerthTons.cls ≠ "java/lang/invoke/MethodHandle" ∧ yX6_setBerthTons.cls ≠ "java/lang/invoke/VarHandle" ∧ (parseMethodDescriptor yX6_setBerthTons.desc).map (fun d => d.parameters.length) = some 1 := by decide +kernel
theorem iX6_setBerthTons_X1 : ∀ w ∈ wsX10, w ∈ wsX6_setBerthTons := fun w h => List.mem_cons_of_mem _ (List.mem_append_left _ (List.mem_append_left _ (List.mem_append_right _ (h))))
theorem iX6_setBerthTons_X6 : ∀ w ∈ wsX60, w ∈ wsX6_setBerthTons := fun w h => List.mem_cons_of_mem _ (List.mem_append_left _ (List.mem_append_left _ (List.mem_append_left _ (List.mem_append_right _ (h)))))
set_option maxHeartbeats 8000000 in
set_option maxRecDepth 100000 in
theorem mX6_setBerthTons (l : Launch) (dC : Nat → ClassId) (dI : Nat → Nat → Nat) (ad : Nat → Nat) (cy : Nat → ClassId) (hJ : WJ 93 ad) (σ : St) (a1 : Int32) (res : (Int32 × St)) (hf : fX6_setBerthTons σ a1 = some res) : CMi l yX6_setBerthTons wsX6_setBerthTons rmX6_setBerthTons (dC, dI) (tysX cy) 93 ad (layX ad cy) [.ref (ad 0), .int a1] σ res.1 res.2 := by
  refine Met.ofW (cc := cX6_setBerthTons) (maxL := 3) (ret := (some .int)) (by decide) rfl ?_
  intro p e s m args below meth c s₁ B hml hv
  obtain ⟨hargs, hP, hK⟩ := hv
  have hx := B.exec
  have hb := B.bytes
  have hr := B.returns
  have hts := atoms_spec (ws := wsX6_setBerthTons) B.pre
  have hown : s.vm.findClass RX6 = some m.cls := findClass_of_methodNamed B.named
  have hlocks := B.notSynchronized
  have w1 := hts (.fieldLink RX6 12 "PierRings" "harbour" "LPierRings$Harbour;") (List.mem_of_getElem? (i := 1) rfl)
  have w2 := hts (.fieldLink RX6 281 "PierRings$Harbour" "berthTons" "I") (List.mem_of_getElem? (i := 2) rfl)
  have w3 := hts (.fieldLink RX6 26 "PierRings" "moorings" "LPierRings$Moorings;") (List.mem_of_getElem? (i := 3) rfl)
  have w4 := hts (.fieldLink RX6 19 "PierRings" "circle" "LPierRings$Circle;") (List.mem_of_getElem? (i := 4) rfl)
  have hS : va_S (WA 93 ad) s.heap s.heap [] := va_S.rf
  have hfr : entryFrame m args 3 = F0 m 0 ((lg_sl [.ref (ad 0), .int a1] ++ List.replicate (3 - (lg_sl [.ref (ad 0), .int a1]).length) Slot.unset).toArray) [] := by rw [hargs]; exact lg_entry_eq _ _ _
  rw [hfr]
  have hl := lv_entry ([.ref (ad 0), .int a1]) (n := 3) (Nat.le_of_ble_eq_true rfl)
  generalize (lg_sl [.ref (ad 0), .int a1] ++ List.replicate (3 - (lg_sl [.ref (ad 0), .int a1]).length) Slot.unset).toArray = ls at hl ⊢
  have hl : lv_has ls 3 [(0, .ref (ad 0)), (1, .int a1)] := hl
  clear hfr hargs B
  show W p l e rmX6_setBerthTons s m args below meth c s.heap [] 0 0 (MQ below (Qiw (dC, dI) 93 ad (layX ad cy) res.1 res.2) args s 0 0 (WA 93 ad)) (F0 m 0 ls [])
  unfold fX6_setBerthTons at hf
  obtain ⟨H, eH⟩ : ∃ H : Heap, H = s.heap := ⟨_, rfl⟩
  rw [← eH] at hP
  have hS : va_S (WA 93 ad) s.heap H [] := by rw [eH]; exact hS
  suffices K : W p l e rmX6_setBerthTons s m args below meth c H [] 0 0 (MQ below (Qiw (dC, dI) 93 ad (layX ad cy) res.1 res.2) args s 0 0 (WA 93 ad)) (F0 m 0 ls []) by rw [eH] at K; exact K
  clear eH
  obtain ⟨locs, elocs⟩ : ∃ z : List Loc, z = [] := ⟨_, rfl⟩
  rw [← elocs] at hS ⊢
  refine lv_iload_n hx hb dX6_setBerthTons_0 rfl (lv_at hl 1 rfl) ?_
  refine lv_bipush (v := 10) hx hb dX6_setBerthTons_1 (by decide) ?_
  refine lv_icmp_lt (tgt := 13) hx hb dX6_setBerthTons_3 (by decide) (fun c1 => ?_) (fun c1 => ?_)
  · have hf := (if_pos c1).symm.trans hf
    refine lv_bipush (v := (-12)) hx hb dX6_setBerthTons_13 (by decide) ?_
    exact xt_iret hx hb hr hP hS (rs_1 hf) (rs_2 hf) dX6_setBerthTons_15 hlocks
  · have hf := (if_neg c1).symm.trans hf
    refine lv_iload_n hx hb dX6_setBerthTons_6 rfl (lv_at hl 1 rfl) ?_
    refine lv_sipush (v := 200) hx hb dX6_setBerthTons_7 (by decide) ?_
    refine lv_icmp_le (tgt := 16) hx hb dX6_setBerthTons_10 (by decide) (fun c2 => ?_) (fun c2 => ?_)
    · have hf := (if_pos c2).symm.trans hf
      refine lv_aload_n hx hb dX6_setBerthTons_16 rfl (lv_at hl 0 rfl) ?_
      refine xt_get (ci := 6) (C := RX6) (T := TX6) (n := 12) (v := .ref (ad 33)) hx hb hts iX6_setBerthTons_X6 hown hK hP 0 (by decide) (LX6_obj ad cy _) rfl 0 (by decide) w1 rfl dX6_setBerthTons_17 ?_
      refine xt_get (ci := 1) (C := RX1) (T := TX1) (n := 8) (v := .int (σ 33 6)) hx hb hts iX6_setBerthTons_X1 hown hK hP 33 (by decide) (LX1_obj ad cy 0 (by decide) _) rfl 6 (by decide) w2 rfl dX6_setBerthTons_20 ?_
      refine lv_topi (fun v3 ev3 => ?_)
      have hf := nm_to hf ev3
      refine lv_istore_n (lv' := [(2, .int v3), (0, .ref (ad 0)), (1, .int a1)]) hx hb dX6_setBerthTons_23 rfl hl (by decide) rfl (fun ls hl => ?_)
      refine lv_iload_n hx hb dX6_setBerthTons_24 rfl (lv_at hl 0 rfl) ?_
      refine lv_iload_n hx hb dX6_setBerthTons_25 rfl (lv_at hl 2 rfl) ?_
      refine lv_icmp_ne (tgt := 36) hx hb dX6_setBerthTons_26 (by decide) (fun c4 => ?_) (fun c4 => ?_)
      · have hf := (if_neg c4).symm.trans hf
        refine lv_aload_n hx hb dX6_setBerthTons_36 rfl (lv_at hl 1 rfl) ?_
        refine xt_get (ci := 6) (C := RX6) (T := TX6) (n := 12) (v := .ref (ad 33)) hx hb hts iX6_setBerthTons_X6 hown hK hP 0 (by decide) (LX6_obj ad cy _) rfl 0 (by decide) w1 rfl dX6_setBerthTons_37 ?_
        refine lv_iload_n hx hb dX6_setBerthTons_40 rfl (lv_at hl 2 rfl) ?_
        refine xt_put (ci := 1) (C := RX1) (T := TX1) (n := 8) hx hb hts iX6_setBerthTons_X1 tyX1 tyX1_ok nmX1 hown hK hP hJ hS 33 (by decide) (LX1_obj ad cy 0 (by decide) _) rfl 6 (by decide) w2 rfl (v := a1) rfl rfl (Nat.le_of_ble_eq_true rfl) (LX1_obj ad cy 0 (by decide) _) dX6_setBerthTons_41 (fun H locs hP hS => ?_)
        obtain ⟨σ5, eσ5⟩ : ∃ z : St, z = su σ 33 6 a1 := ⟨_, rfl⟩
        rw [← eσ5] at hP
        have hf := nm_to hf eσ5
        refine lv_aload_n hx hb dX6_setBerthTons_44 rfl (lv_at hl 1 rfl) ?_
        refine xt_get (ci := 6) (C := RX6) (T := TX6) (n := 12) (v := .ref (ad 7)) hx hb hts iX6_setBerthTons_X6 hown hK hP 0 (by decide) (LX6_obj ad cy _) rfl 2 (by decide) w3 rfl dX6_setBerthTons_45 ?_
        refine lv_aload_n hx hb dX6_setBerthTons_48 rfl (lv_at hl 1 rfl) ?_
        refine xt_get (ci := 6) (C := RX6) (T := TX6) (n := 12) (v := .ref (ad 33)) hx hb hts iX6_setBerthTons_X6 hown hK hP 0 (by decide) (LX6_obj ad cy _) rfl 0 (by decide) w1 rfl dX6_setBerthTons_49 ?_
        refine lv_aload_n hx hb dX6_setBerthTons_52 rfl (lv_at hl 1 rfl) ?_
        refine xt_get (ci := 6) (C := RX6) (T := TX6) (n := 12) (v := .ref (ad 15)) hx hb hts iX6_setBerthTons_X6 hown hK hP 0 (by decide) (LX6_obj ad cy _) rfl 1 (by decide) w4 rfl dX6_setBerthTons_53 ?_
        obtain ⟨r6, qr6, hf⟩ := bd_some hf
        refine xt_callVv (As := [.ref (ad 33), .ref (ad 15)]) (rest := []) (C := RX4) (ci := 4) ⟨hx, hb, hml, hown, hts⟩ 7 (mX4_settle l dC dI ad cy hJ 0 (by decide) 0 (by decide) σ5 r6 qr6) (cwV 2 hts gX6_setBerthTons_X4_settle rfl rfl rfl dmX4_settle ⟨Nat.le_of_ble_eq_true rfl, Nat.le_of_ble_eq_true rfl⟩) hK hP hS (by decide) (LX4_obj ad cy _) rfl rfl rfl hl.1 (Nat.le_of_ble_eq_true rfl) ⟨Nat.zero_le _, Nat.zero_le _⟩ dX6_setBerthTons_56 (fun H locs hP hS => ?_)
        refine lv_iload_n hx hb dX6_setBerthTons_59 rfl (lv_at hl 0 rfl) ?_
        exact xt_iret hx hb hr hP hS (rs_1 hf) (rs_2 hf) dX6_setBerthTons_60 hlocks
      · have hf := (if_pos c4).symm.trans hf
        refine lv_aload_n hx hb dX6_setBerthTons_29 rfl (lv_at hl 1 rfl) ?_
        refine lv_iconst (v := 3) hx hb dX6_setBerthTons_30 (by decide) ?_
        refine lv_iload_n hx hb dX6_setBerthTons_31 rfl (lv_at hl 2 rfl) ?_
        obtain ⟨r7, qr7, hf⟩ := bd_some hf
        refine xt_callVi (As := [.int 3, .int a1]) (rest := []) (C := RX6) (ci := 6) ⟨hx, hb, hml, hown, hts⟩ 0 (mX6_refuse l dC dI ad cy hJ σ 3 a1 r7 qr7) (cwV 2 hts gX6_setBerthTons_X6_refuse rfl rfl rfl dmX6_refuse ⟨Nat.le_of_ble_eq_true rfl, Nat.le_of_ble_eq_true rfl⟩) hK hP hS (by decide) (LX6_obj ad cy _) rfl rfl rfl hl.1 (Nat.le_of_ble_eq_true rfl) ⟨Nat.zero_le _, Nat.zero_le _⟩ dX6_setBerthTons_32 (fun H locs hP hS => ?_)
        exact xt_iret hx hb hr hP hS (rs_1 hf) (rs_2 hf) dX6_setBerthTons_35 hlocks
    · have hf := (if_neg c2).symm.trans hf
      refine lv_bipush (v := (-12)) hx hb dX6_setBerthTons_13 (by decide) ?_
      exact xt_iret hx hb hr hP hS (rs_1 hf) (rs_2 hf) dX6_setBerthTons_15 hlocks
def fX6_berth (σ : St) (a1 : Int32) : Option (Int32 × St) :=
  bd (fX2_draft 0 σ) fun r1 => bd (fX6_setBerthTons r1 a1) fun r2 => bd (fX6_keepIfDone r2.2 r2.1) fun r3 => some (r3.1, r3.2)
abbrev rmX6_berth : Room := { frames := 4, cells := 0, slots := 0, locals := 106 }
theorem dmX6_berth : yX6_berth.cls = RX6 ∧ yX6_berth.cls ≠ "java/lang/invoke/MethodHandle" ∧ yX6_berth.cls ≠ "java/lang/invoke/VarHandle" ∧ (parseMethodDescriptor yX6_berth.desc).map (fun d => d.parameters.length) = some 1 := by decide +kernel
theorem iX6_berth_X6 : ∀ w ∈ wsX60, w ∈ wsX6_berth := fun w h => List.mem_cons_of_mem _ (List.mem_append_left _ (List.mem_append_left _ (List.mem_append_left _ (List.mem_append_left _ (List.mem_append_right _ (h))))))
set_option maxHeartbeats 8000000 in
set_option maxRecDepth 100000 in
theorem mX6_berth (l : Launch) (dC : Nat → ClassId) (dI : Nat → Nat → Nat) (ad : Nat → Nat) (cy : Nat → ClassId) (hJ : WJ 93 ad) (σ : St) (a1 : Int32) (res : (Int32 × St)) (hf : fX6_berth σ a1 = some res) : CMi l yX6_berth wsX6_berth rmX6_berth (dC, dI) (tysX cy) 93 ad (layX ad cy) [.ref (ad 0), .int a1] σ res.1 res.2 := by
  refine Met.ofW (cc := cX6_berth) (maxL := 2) (ret := (some .int)) (by decide) rfl ?_
  intro p e s m args below meth c s₁ B hml hv
  obtain ⟨hargs, hP, hK⟩ := hv
  have hx := B.exec
  have hb := B.bytes
  have hr := B.returns
  have hts := atoms_spec (ws := wsX6_berth) B.pre
  have hown : s.vm.findClass RX6 = some m.cls := findClass_of_methodNamed B.named
  have hlocks := B.notSynchronized
  have w1 := hts (.fieldLink RX6 39 "PierRings" "history" "LPierRings$History;") (List.mem_of_getElem? (i := 1) rfl)
  have w2 := hts (.fieldLink RX6 12 "PierRings" "harbour" "LPierRings$Harbour;") (List.mem_of_getElem? (i := 2) rfl)
  have hS : va_S (WA 93 ad) s.heap s.heap [] := va_S.rf
  have hfr : entryFrame m args 2 = F0 m 0 ((lg_sl [.ref (ad 0), .int a1] ++ List.replicate (2 - (lg_sl [.ref (ad 0), .int a1]).length) Slot.unset).toArray) [] := by rw [hargs]; exact lg_entry_eq _ _ _
  rw [hfr]
  have hl := lv_entry ([.ref (ad 0), .int a1]) (n := 2) (Nat.le_of_ble_eq_true rfl)
  generalize (lg_sl [.ref (ad 0), .int a1] ++ List.replicate (2 - (lg_sl [.ref (ad 0), .int a1]).length) Slot.unset).toArray = ls at hl ⊢
  have hl : lv_has ls 2 [(0, .ref (ad 0)), (1, .int a1)] := hl
  clear hfr hargs B
  show W p l e rmX6_berth s m args below meth c s.heap [] 0 0 (MQ below (Qiw (dC, dI) 93 ad (layX ad cy) res.1 res.2) args s 0 0 (WA 93 ad)) (F0 m 0 ls [])
  unfold fX6_berth at hf
  obtain ⟨H, eH⟩ : ∃ H : Heap, H = s.heap := ⟨_, rfl⟩
  rw [← eH] at hP
  have hS : va_S (WA 93 ad) s.heap H [] := by rw [eH]; exact hS
  suffices K : W p l e rmX6_berth s m args below meth c H [] 0 0 (MQ below (Qiw (dC, dI) 93 ad (layX ad cy) res.1 res.2) args s 0 0 (WA 93 ad)) (F0 m 0 ls []) by rw [eH] at K; exact K
  clear eH
  obtain ⟨locs, elocs⟩ : ∃ z : List Loc, z = [] := ⟨_, rfl⟩
  rw [← elocs] at hS ⊢
  refine lv_aload_n hx hb dX6_berth_0 rfl (lv_at hl 0 rfl) ?_
  refine xt_get (ci := 6) (C := RX6) (T := TX6) (n := 12) (v := .ref (ad 1)) hx hb hts iX6_berth_X6 hown hK hP 0 (by decide) (LX6_obj ad cy _) rfl 5 (by decide) w1 rfl dX6_berth_1 ?_
  refine lv_aload_n hx hb dX6_berth_4 rfl (lv_at hl 0 rfl) ?_
  refine xt_get (ci := 6) (C := RX6) (T := TX6) (n := 12) (v := .ref (ad 33)) hx hb hts iX6_berth_X6 hown hK hP 0 (by decide) (LX6_obj ad cy _) rfl 0 (by decide) w2 rfl dX6_berth_5 ?_
  obtain ⟨r1, qr1, hf⟩ := bd_some hf
  refine xt_callVv (As := [.ref (ad 33)]) (rest := []) (C := RX2) (ci := 2) ⟨hx, hb, hml, hown, hts⟩ 1 (mX2_draft l dC dI ad cy hJ 0 (by decide) σ r1 qr1) (cwV 1 hts gX6_berth_X2_draft rfl rfl rfl dmX2_draft ⟨Nat.le_of_ble_eq_true rfl, Nat.le_of_ble_eq_true rfl⟩) hK hP hS (by decide) (LX2_obj ad cy _) rfl rfl rfl hl.1 (Nat.le_of_ble_eq_true rfl) ⟨Nat.zero_le _, Nat.zero_le _⟩ dX6_berth_8 (fun H locs hP hS => ?_)
  refine lv_aload_n hx hb dX6_berth_11 rfl (lv_at hl 0 rfl) ?_
  refine lv_aload_n hx hb dX6_berth_12 rfl (lv_at hl 0 rfl) ?_
  refine lv_iload_n hx hb dX6_berth_13 rfl (lv_at hl 1 rfl) ?_
  obtain ⟨r2, qr2, hf⟩ := bd_some hf
  refine xt_callVi (As := [.int a1]) (rest := [.ref (ad 0)]) (C := RX6) (ci := 6) ⟨hx, hb, hml, hown, hts⟩ 0 (mX6_setBerthTons l dC dI ad cy hJ r1 a1 r2 qr2) (cwV 1 hts gX6_berth_X6_setBerthTons rfl rfl rfl dmX6_setBerthTons ⟨Nat.le_of_ble_eq_true rfl, Nat.le_of_ble_eq_true rfl⟩) hK hP hS (by decide) (LX6_obj ad cy _) rfl rfl rfl hl.1 (Nat.le_of_ble_eq_true rfl) ⟨Nat.zero_le _, Nat.zero_le _⟩ dX6_berth_14 (fun H locs hP hS => ?_)
  obtain ⟨r3, qr3, hf⟩ := bd_some hf
  refine xt_callVi (As := [.int r2.1]) (rest := []) (C := RX6) (ci := 6) ⟨hx, hb, hml, hown, hts⟩ 0 (mX6_keepIfDone l dC dI ad cy hJ r2.2 r2.1 r3 qr3) (cwV 1 hts gX6_berth_X6_keepIfDone rfl rfl rfl dmX6_keepIfDone ⟨Nat.le_of_ble_eq_true rfl, Nat.le_of_ble_eq_true rfl⟩) hK hP hS (by decide) (LX6_obj ad cy _) rfl rfl rfl hl.1 (Nat.le_of_ble_eq_true rfl) ⟨Nat.zero_le _, Nat.zero_le _⟩ dX6_berth_17 (fun H locs hP hS => ?_)
  exact xt_iret hx hb hr hP hS (rs_1 hf) (rs_2 hf) dX6_berth_20 hlocks
def fX6_tonsBeyond (σ : St) (a1 : Int32) : Option Int32 :=
  gd (okI a1 8) <| bd (fX1_roomOf 0 σ a1) fun r2 => some ((σ 12 a1.toNatClampNeg) - r2)
abbrev rmX6_tonsBeyond : Room := { frames := 1, cells := 0, slots := 0, locals := 21 }
theorem dmX6_tonsBeyond : yX6_tonsBeyond.cls = RX6 ∧ yX6_tonsBeyond.cls ≠ "java/lang/invoke/MethodHandle" ∧ yX6_tonsBeyond.cls ≠ "java/lang/invoke/VarHandle" ∧ (parseMethodDescriptor yX6_tonsBeyond.desc).map (fun d => d.parameters.length) = some 1 := by decide +kernel
theorem iX6_tonsBeyond_X4 : ∀ w ∈ wsX40, w ∈ wsX6_tonsBeyond := fun w h => List.mem_cons_of_mem _ (List.mem_append_left _ (List.mem_append_right _ (h)))
theorem iX6_tonsBeyond_X6 : ∀ w ∈ wsX60, w ∈ wsX6_tonsBeyond := fun w h => List.mem_cons_of_mem _ (List.mem_append_left _ (List.mem_append_left _ (List.mem_append_right _ (h))))
set_option maxHeartbeats 8000000 in
set_option maxRecDepth 100000 in
theorem mX6_tonsBeyond (l : Launch) (dC : Nat → ClassId) (dI : Nat → Nat → Nat) (ad : Nat → Nat) (cy : Nat → ClassId) (hJ : WJ 93 ad) (σ : St) (a1 : Int32) (res : Int32) (hf : fX6_tonsBeyond σ a1 = some res) : CMi l yX6_tonsBeyond wsX6_tonsBeyond rmX6_tonsBeyond (dC, dI) (tysX cy) 93 ad (layX ad cy) [.ref (ad 0), .int a1] σ res σ := by
  refine Met.ofW (cc := cX6_tonsBeyond) (maxL := 2) (ret := (some .int)) (by decide) rfl ?_
  intro p e s m args below meth c s₁ B hml hv
  obtain ⟨hargs, hP, hK⟩ := hv
  have hx := B.exec
  have hb := B.bytes
  have hr := B.returns
  have hts := atoms_spec (ws := wsX6_tonsBeyond) B.pre
  have hown : s.vm.findClass RX6 = some m.cls := findClass_of_methodNamed B.named
  have hlocks := B.notSynchronized
  have w1 := hts (.fieldLink RX6 26 "PierRings" "moorings" "LPierRings$Moorings;") (List.mem_of_getElem? (i := 1) rfl)
  have w2 := hts (.fieldLink RX6 114 "PierRings$Moorings" "homeTons" "[I") (List.mem_of_getElem? (i := 2) rfl)
  have w3 := hts (.fieldLink RX6 12 "PierRings" "harbour" "LPierRings$Harbour;") (List.mem_of_getElem? (i := 3) rfl)
  have hS : va_S (WA 93 ad) s.heap s.heap [] := va_S.rf
  have hfr : entryFrame m args 2 = F0 m 0 ((lg_sl [.ref (ad 0), .int a1] ++ List.replicate (2 - (lg_sl [.ref (ad 0), .int a1]).length) Slot.unset).toArray) [] := by rw [hargs]; exact lg_entry_eq _ _ _
  rw [hfr]
  have hl := lv_entry ([.ref (ad 0), .int a1]) (n := 2) (Nat.le_of_ble_eq_true rfl)
  generalize (lg_sl [.ref (ad 0), .int a1] ++ List.replicate (2 - (lg_sl [.ref (ad 0), .int a1]).length) Slot.unset).toArray = ls at hl ⊢
  have hl : lv_has ls 2 [(0, .ref (ad 0)), (1, .int a1)] := hl
  clear hfr hargs B
  show W p l e rmX6_tonsBeyond s m args below meth c s.heap [] 0 0 (MQ below (Qiw (dC, dI) 93 ad (layX ad cy) res σ) args s 0 0 (WA 93 ad)) (F0 m 0 ls [])
  unfold fX6_tonsBeyond at hf
  obtain ⟨H, eH⟩ : ∃ H : Heap, H = s.heap := ⟨_, rfl⟩
  rw [← eH] at hP
  have hS : va_S (WA 93 ad) s.heap H [] := by rw [eH]; exact hS
  suffices K : W p l e rmX6_tonsBeyond s m args below meth c H [] 0 0 (MQ below (Qiw (dC, dI) 93 ad (layX ad cy) res σ) args s 0 0 (WA 93 ad)) (F0 m 0 ls []) by rw [eH] at K; exact K
  clear eH
  obtain ⟨locs, elocs⟩ : ∃ z : List Loc, z = [] := ⟨_, rfl⟩
  rw [← elocs] at hS ⊢
  refine lv_aload_n hx hb dX6_tonsBeyond_0 rfl (lv_at hl 0 rfl) ?_
  refine xt_get (ci := 6) (C := RX6) (T := TX6) (n := 12) (v := .ref (ad 7)) hx hb hts iX6_tonsBeyond_X6 hown hK hP 0 (by decide) (LX6_obj ad cy _) rfl 2 (by decide) w1 rfl dX6_tonsBeyond_1 ?_
  refine xt_get (ci := 4) (C := RX4) (T := TX4) (n := 9) (v := .ref (ad 12)) hx hb hts iX6_tonsBeyond_X4 hown hK hP 7 (by decide) (LX4_obj ad cy _) rfl 4 (by decide) w2 rfl dX6_tonsBeyond_4 ?_
  refine lv_iload_n hx hb dX6_tonsBeyond_7 rfl (lv_at hl 1 rfl) ?_
  obtain ⟨g1, hf⟩ := gd_some hf
  refine xt_iald hx hb hK hP 12 (by decide) 0 (LX4_homeTons ad cy _) rfl g1 dX6_tonsBeyond_8 ?_
  refine lv_aload_n hx hb dX6_tonsBeyond_9 rfl (lv_at hl 0 rfl) ?_
  refine xt_get (ci := 6) (C := RX6) (T := TX6) (n := 12) (v := .ref (ad 33)) hx hb hts iX6_tonsBeyond_X6 hown hK hP 0 (by decide) (LX6_obj ad cy _) rfl 0 (by decide) w3 rfl dX6_tonsBeyond_10 ?_
  refine lv_iload_n hx hb dX6_tonsBeyond_13 rfl (lv_at hl 1 rfl) ?_
  obtain ⟨r2, qr2, hf⟩ := bd_some hf
  refine xt_callVi (As := [.int a1]) (rest := [.int (σ 12 a1.toNatClampNeg)]) (C := RX1) (ci := 1) ⟨hx, hb, hml, hown, hts⟩ 33 (mX1_roomOf l dC dI ad cy hJ 0 (by decide) σ a1 r2 qr2) (cwV 1 hts gX6_tonsBeyond_X1_roomOf rfl rfl rfl dmX1_roomOf ⟨Nat.le_of_ble_eq_true rfl, Nat.le_of_ble_eq_true rfl⟩) hK hP hS (by decide) (LX1_obj ad cy 0 (by decide) _) rfl rfl rfl hl.1 (Nat.le_of_ble_eq_true rfl) ⟨Nat.zero_le _, Nat.zero_le _⟩ dX6_tonsBeyond_14 (fun H locs hP hS => ?_)
  refine lv_isub hx hb dX6_tonsBeyond_17 ?_
  exact xt_iret hx hb hr hP hS (Option.some.inj hf) rfl dX6_tonsBeyond_18 hlocks
def fX6_isHot (σ : St) (a1 : Int32) : Option Int32 :=
  bd (fX6_tonsBeyond σ a1) fun r1 => if r1 ≤ 0 then (some (0 : Int32)) else (some (1 : Int32))
abbrev rmX6_isHot : Room := { frames := 2, cells := 0, slots := 0, locals := 42 }
theorem dmX6_isHot : yX6_isHot.cls = RX6 ∧ yX6_isHot.cls ≠ "java/lang/invoke/MethodHandle" ∧ yX6_isHot.cls ≠ "java/lang/invoke/VarHandle" ∧ (parseMethodDescriptor yX6_isHot.desc).map (fun d => d.parameters.length) = some 1 := by decide +kernel
set_option maxHeartbeats 8000000 in
set_option maxRecDepth 100000 in
theorem mX6_isHot (l : Launch) (dC : Nat → ClassId) (dI : Nat → Nat → Nat) (ad : Nat → Nat) (cy : Nat → ClassId) (hJ : WJ 93 ad) (σ : St) (a1 : Int32) (res : Int32) (hf : fX6_isHot σ a1 = some res) : CMi l yX6_isHot wsX6_isHot rmX6_isHot (dC, dI) (tysX cy) 93 ad (layX ad cy) [.ref (ad 0), .int a1] σ res σ := by
  refine Met.ofW (cc := cX6_isHot) (maxL := 2) (ret := (some .boolean)) (by decide) rfl ?_
  intro p e s m args below meth c s₁ B hml hv
  obtain ⟨hargs, hP, hK⟩ := hv
  have hx := B.exec
  have hb := B.bytes
  have hr := B.returns
  have hts := atoms_spec (ws := wsX6_isHot) B.pre
  have hown : s.vm.findClass RX6 = some m.cls := findClass_of_methodNamed B.named
  have hlocks := B.notSynchronized
  have hS : va_S (WA 93 ad) s.heap s.heap [] := va_S.rf
  have hfr : entryFrame m args 2 = F0 m 0 ((lg_sl [.ref (ad 0), .int a1] ++ List.replicate (2 - (lg_sl [.ref (ad 0), .int a1]).length) Slot.unset).toArray) [] := by rw [hargs]; exact lg_entry_eq _ _ _
  rw [hfr]
  have hl := lv_entry ([.ref (ad 0), .int a1]) (n := 2) (Nat.le_of_ble_eq_true rfl)
  generalize (lg_sl [.ref (ad 0), .int a1] ++ List.replicate (2 - (lg_sl [.ref (ad 0), .int a1]).length) Slot.unset).toArray = ls at hl ⊢
  have hl : lv_has ls 2 [(0, .ref (ad 0)), (1, .int a1)] := hl
  clear hfr hargs B
  show W p l e rmX6_isHot s m args below meth c s.heap [] 0 0 (MQ below (Qiw (dC, dI) 93 ad (layX ad cy) res σ) args s 0 0 (WA 93 ad)) (F0 m 0 ls [])
  unfold fX6_isHot at hf
  obtain ⟨H, eH⟩ : ∃ H : Heap, H = s.heap := ⟨_, rfl⟩
  rw [← eH] at hP
  have hS : va_S (WA 93 ad) s.heap H [] := by rw [eH]; exact hS
  suffices K : W p l e rmX6_isHot s m args below meth c H [] 0 0 (MQ below (Qiw (dC, dI) 93 ad (layX ad cy) res σ) args s 0 0 (WA 93 ad)) (F0 m 0 ls []) by rw [eH] at K; exact K
  clear eH
  obtain ⟨locs, elocs⟩ : ∃ z : List Loc, z = [] := ⟨_, rfl⟩
  rw [← elocs] at hS ⊢
  refine lv_aload_n hx hb dX6_isHot_0 rfl (lv_at hl 0 rfl) ?_
  refine lv_iload_n hx hb dX6_isHot_1 rfl (lv_at hl 1 rfl) ?_
  obtain ⟨r1, qr1, hf⟩ := bd_some hf
  refine xt_callVi (As := [.int a1]) (rest := []) (C := RX6) (ci := 6) ⟨hx, hb, hml, hown, hts⟩ 0 (mX6_tonsBeyond l dC dI ad cy hJ σ a1 r1 qr1) (cwV 1 hts gX6_isHot_X6_tonsBeyond rfl rfl rfl dmX6_tonsBeyond ⟨Nat.le_of_ble_eq_true rfl, Nat.le_of_ble_eq_true rfl⟩) hK hP hS (by decide) (LX6_obj ad cy _) rfl rfl rfl hl.1 (Nat.le_of_ble_eq_true rfl) ⟨Nat.zero_le _, Nat.zero_le _⟩ dX6_isHot_2 (fun H locs hP hS => ?_)
  refine lv_if_le (tgt := 12) hx hb dX6_isHot_5 (by decide) (fun c2 => ?_) (fun c2 => ?_)
  · have hf := (if_pos c2).symm.trans hf
    refine lv_iconst (v := 0) hx hb dX6_isHot_12 (by decide) ?_
    exact xt_zret hx hb hr rfl hP hS (Option.some.inj hf) rfl dX6_isHot_13 hlocks
  · have hf := (if_neg c2).symm.trans hf
    refine lv_iconst (v := 1) hx hb dX6_isHot_8 (by decide) ?_
    refine lv_goto (tgt := 13) hx hb dX6_isHot_9 (by decide) ?_
    exact xt_zret hx hb hr rfl hP hS (Option.some.inj hf) rfl dX6_isHot_13 hlocks
def fX6_pierOf (σ : St) (a1 : Int32) (a2 : Int32) : Option Int32 :=
  bd (fX1_hasPier 0 σ a1) fun r1 => if r1 = 0 then (some (-11 : Int32)) else (if a2 = 0 then (gd (okI a1 8) <| some (σ 34 a1.toNatClampNeg)) else (if a2 = 1 then (gd (okI a1 8) <| if (σ 35 a1.toNatClampNeg) = 0 then (some (0 : Int32)) else (some (1 : Int32))) else (if a2 = 2 then (bd (fX1_pointsOf 0 σ a1) fun r9 => some r9) else (if a2 = 3 then (bd (fX0_stretchOf 0 σ a1) fun r11 => some r11) else (if a2 = 4 then (gd (okI a1 8) <| some (σ 11 a1.toNatClampNeg)) else (if a2 = 5 then (gd (okI a1 8) <| some (σ 12 a1.toNatClampNeg)) else (if a2 = 6 then (gd (okI a1 8) <| some (σ 13 a1.toNatClampNeg)) else (if a2 = 7 then (gd (okI a1 8) <| some (σ 14 a1.toNatClampNeg)) else (if a2 = 8 then (bd (fX1_roomOf 0 σ a1) fun r21 => some r21) else (if a2 = 9 then (bd (fX6_isHot σ a1) fun r23 => if r23 = 0 then (some (0 : Int32)) else (some (1 : Int32))) else (some (-12 : Int32))))))))))))
abbrev rmX6_pierOf : Room := { frames := 3, cells := 0, slots := 0, locals := 63 }
theorem dmX6_pierOf : yX6_pierOf.cls = RX6 ∧ yX6_pierOf.cls ≠ "java/lang/invoke/MethodHandle" ∧ yX6_pierOf.cls ≠ "java/lang/invoke/VarHandle" ∧ (parseMethodDescriptor yX6_pierOf.desc).map (fun d => d.parameters.length) = some 2 := by decide +kernel
theorem iX6_pierOf_X1 : ∀ w ∈ wsX10, w ∈ wsX6_pierOf := fun w h => List.mem_cons_of_mem _ (List.mem_append_left _ (List.mem_append_left _ (List.mem_append_right _ (h))))
theorem iX6_pierOf_X4 : ∀ w ∈ wsX40, w ∈ wsX6_pierOf := fun w h => List.mem_cons_of_mem _ (List.mem_append_left _ (List.mem_append_right _ (h)))
theorem iX6_pierOf_X6 : ∀ w ∈ wsX60, w ∈ wsX6_pierOf := fun w h => List.mem_cons_of_mem _ (List.mem_append_left _ (List.mem_append_left _ (List.mem_append_left _ (List.mem_append_right _ (h)))))
set_option maxHeartbeats 8000000 in
set_option maxRecDepth 100000 in
theorem mX6_pierOf (l : Launch) (dC : Nat → ClassId) (dI : Nat → Nat → Nat) (ad : Nat → Nat) (cy : Nat → ClassId) (hJ : WJ 93 ad) (σ : St) (a1 : Int32) (a2 : Int32) (res : Int32) (hf : fX6_pierOf σ a1 a2 = some res) : CMi l yX6_pierOf wsX6_pierOf rmX6_pierOf (dC, dI) (tysX cy) 93 ad (layX ad cy) [.ref (ad 0), .int a1, .int a2] σ res σ := by
  refine Met.ofW (cc := cX6_pierOf) (maxL := 3) (ret := (some .int)) (by decide) rfl ?_
  intro p e s m args below meth c s₁ B hml hv
  obtain ⟨hargs, hP, hK⟩ := hv
  have hx := B.exec
  have hb := B.bytes
  have hr := B.returns
  have hts := atoms_spec (ws := wsX6_pierOf) B.pre
  have hown : s.vm.findClass RX6 = some m.cls := findClass_of_methodNamed B.named
  have hlocks := B.notSynchronized
  have w1 := hts (.fieldLink RX6 12 "PierRings" "harbour" "LPierRings$Harbour;") (List.mem_of_getElem? (i := 1) rfl)
  have w2 := hts (.fieldLink RX6 97 "PierRings$Harbour" "berths" "[I") (List.mem_of_getElem? (i := 2) rfl)
  have w3 := hts (.fieldLink RX6 101 "PierRings$Harbour" "opened" "[Z") (List.mem_of_getElem? (i := 3) rfl)
  have w4 := hts (.fieldLink RX6 19 "PierRings" "circle" "LPierRings$Circle;") (List.mem_of_getElem? (i := 4) rfl)
  have w5 := hts (.fieldLink RX6 26 "PierRings" "moorings" "LPierRings$Moorings;") (List.mem_of_getElem? (i := 5) rfl)
  have w6 := hts (.fieldLink RX6 111 "PierRings$Moorings" "homeBarges" "[I") (List.mem_of_getElem? (i := 6) rfl)
  have w7 := hts (.fieldLink RX6 114 "PierRings$Moorings" "homeTons" "[I") (List.mem_of_getElem? (i := 7) rfl)
  have w8 := hts (.fieldLink RX6 117 "PierRings$Moorings" "lyingBarges" "[I") (List.mem_of_getElem? (i := 8) rfl)
  have w9 := hts (.fieldLink RX6 120 "PierRings$Moorings" "lyingTons" "[I") (List.mem_of_getElem? (i := 9) rfl)
  have hS : va_S (WA 93 ad) s.heap s.heap [] := va_S.rf
  have hfr : entryFrame m args 3 = F0 m 0 ((lg_sl [.ref (ad 0), .int a1, .int a2] ++ List.replicate (3 - (lg_sl [.ref (ad 0), .int a1, .int a2]).length) Slot.unset).toArray) [] := by rw [hargs]; exact lg_entry_eq _ _ _
  rw [hfr]
  have hl := lv_entry ([.ref (ad 0), .int a1, .int a2]) (n := 3) (Nat.le_of_ble_eq_true rfl)
  generalize (lg_sl [.ref (ad 0), .int a1, .int a2] ++ List.replicate (3 - (lg_sl [.ref (ad 0), .int a1, .int a2]).length) Slot.unset).toArray = ls at hl ⊢
  have hl : lv_has ls 3 [(0, .ref (ad 0)), (1, .int a1), (2, .int a2)] := hl
  clear hfr hargs B
  show W p l e rmX6_pierOf s m args below meth c s.heap [] 0 0 (MQ below (Qiw (dC, dI) 93 ad (layX ad cy) res σ) args s 0 0 (WA 93 ad)) (F0 m 0 ls [])
  unfold fX6_pierOf at hf
  obtain ⟨H, eH⟩ : ∃ H : Heap, H = s.heap := ⟨_, rfl⟩
  rw [← eH] at hP
  have hS : va_S (WA 93 ad) s.heap H [] := by rw [eH]; exact hS
  suffices K : W p l e rmX6_pierOf s m args below meth c H [] 0 0 (MQ below (Qiw (dC, dI) 93 ad (layX ad cy) res σ) args s 0 0 (WA 93 ad)) (F0 m 0 ls []) by rw [eH] at K; exact K
  clear eH
  obtain ⟨locs, elocs⟩ : ∃ z : List Loc, z = [] := ⟨_, rfl⟩
  rw [← elocs] at hS ⊢
  refine lv_aload_n hx hb dX6_pierOf_0 rfl (lv_at hl 0 rfl) ?_
  refine xt_get (ci := 6) (C := RX6) (T := TX6) (n := 12) (v := .ref (ad 33)) hx hb hts iX6_pierOf_X6 hown hK hP 0 (by decide) (LX6_obj ad cy _) rfl 0 (by decide) w1 rfl dX6_pierOf_1 ?_
  refine lv_iload_n hx hb dX6_pierOf_4 rfl (lv_at hl 1 rfl) ?_
  obtain ⟨r1, qr1, hf⟩ := bd_some hf
  refine xt_callVi (As := [.int a1]) (rest := []) (C := RX1) (ci := 1) ⟨hx, hb, hml, hown, hts⟩ 33 (mX1_hasPier l dC dI ad cy hJ 0 (by decide) σ a1 r1 qr1) (cwV 1 hts gX6_pierOf_X1_hasPier rfl rfl rfl dmX1_hasPier ⟨Nat.le_of_ble_eq_true rfl, Nat.le_of_ble_eq_true rfl⟩) hK hP hS (by decide) (LX1_obj ad cy 0 (by decide) _) rfl rfl rfl hl.1 (Nat.le_of_ble_eq_true rfl) ⟨Nat.zero_le _, Nat.zero_le _⟩ dX6_pierOf_5 (fun H locs hP hS => ?_)
  refine lv_if_ne (tgt := 14) hx hb dX6_pierOf_8 (by decide) (fun c2 => ?_) (fun c2 => ?_)
  · have hf := (if_neg c2).symm.trans hf
    refine lv_iload_n hx hb dX6_pierOf_14 rfl (lv_at hl 2 rfl) ?_
    by_cases c3 : a2 = 0
    · have hf := (if_pos c3).symm.trans hf
      refine lv_tableIn (tgt := 68) (off := 53) hx hb dX6_pierOf_15 (by rw [c3]; decide) (by rw [c3]; decide) (by rw [c3]; rfl) (by decide) ?_
      refine lv_aload_n hx hb dX6_pierOf_68 rfl (lv_at hl 0 rfl) ?_
      refine xt_get (ci := 6) (C := RX6) (T := TX6) (n := 12) (v := .ref (ad 33)) hx hb hts iX6_pierOf_X6 hown hK hP 0 (by decide) (LX6_obj ad cy _) rfl 0 (by decide) w1 rfl dX6_pierOf_69 ?_
      refine xt_get (ci := 1) (C := RX1) (T := TX1) (n := 8) (v := .ref (ad 34)) hx hb hts iX6_pierOf_X1 hown hK hP 33 (by decide) (LX1_obj ad cy 0 (by decide) _) rfl 0 (by decide) w2 rfl dX6_pierOf_72 ?_
      refine lv_iload_n hx hb dX6_pierOf_75 rfl (lv_at hl 1 rfl) ?_
      obtain ⟨g4, hf⟩ := gd_some hf
      refine xt_iald hx hb hK hP 34 (by decide) 0 (LX1_berths ad cy 0 (by decide) _) rfl g4 dX6_pierOf_76 ?_
      exact xt_iret hx hb hr hP hS (Option.some.inj hf) rfl dX6_pierOf_77 hlocks
    · have hf := (if_neg c3).symm.trans hf
      by_cases c5 : a2 = 1
      · have hf := (if_pos c5).symm.trans hf
        refine lv_tableIn (tgt := 78) (off := 63) hx hb dX6_pierOf_15 (by rw [c5]; decide) (by rw [c5]; decide) (by rw [c5]; rfl) (by decide) ?_
        refine lv_aload_n hx hb dX6_pierOf_78 rfl (lv_at hl 0 rfl) ?_
        refine xt_get (ci := 6) (C := RX6) (T := TX6) (n := 12) (v := .ref (ad 33)) hx hb hts iX6_pierOf_X6 hown hK hP 0 (by decide) (LX6_obj ad cy _) rfl 0 (by decide) w1 rfl dX6_pierOf_79 ?_
        refine xt_get (ci := 1) (C := RX1) (T := TX1) (n := 8) (v := .ref (ad 35)) hx hb hts iX6_pierOf_X1 hown hK hP 33 (by decide) (LX1_obj ad cy 0 (by decide) _) rfl 1 (by decide) w3 rfl dX6_pierOf_82 ?_
        refine lv_iload_n hx hb dX6_pierOf_85 rfl (lv_at hl 1 rfl) ?_
        obtain ⟨g6, hf⟩ := gd_some hf
        refine xt_zald hx hb hK hP 35 (by decide) 1 (LX1_opened ad cy 0 (by decide) _) rfl g6 dX6_pierOf_86 ?_
        refine lv_if_eq (tgt := 94) hx hb dX6_pierOf_87 (by decide) (fun c7 => ?_) (fun c7 => ?_)
        · have hf := (if_pos c7).symm.trans hf
          refine lv_iconst (v := 0) hx hb dX6_pierOf_94 (by decide) ?_
          exact xt_iret hx hb hr hP hS (Option.some.inj hf) rfl dX6_pierOf_95 hlocks
        · have hf := (if_neg c7).symm.trans hf
          refine lv_iconst (v := 1) hx hb dX6_pierOf_90 (by decide) ?_
          refine lv_goto (tgt := 95) hx hb dX6_pierOf_91 (by decide) ?_
          exact xt_iret hx hb hr hP hS (Option.some.inj hf) rfl dX6_pierOf_95 hlocks
      · have hf := (if_neg c5).symm.trans hf
        by_cases c8 : a2 = 2
        · have hf := (if_pos c8).symm.trans hf
          refine lv_tableIn (tgt := 96) (off := 81) hx hb dX6_pierOf_15 (by rw [c8]; decide) (by rw [c8]; decide) (by rw [c8]; rfl) (by decide) ?_
          refine lv_aload_n hx hb dX6_pierOf_96 rfl (lv_at hl 0 rfl) ?_
          refine xt_get (ci := 6) (C := RX6) (T := TX6) (n := 12) (v := .ref (ad 33)) hx hb hts iX6_pierOf_X6 hown hK hP 0 (by decide) (LX6_obj ad cy _) rfl 0 (by decide) w1 rfl dX6_pierOf_97 ?_
          refine lv_iload_n hx hb dX6_pierOf_100 rfl (lv_at hl 1 rfl) ?_
          obtain ⟨r9, qr9, hf⟩ := bd_some hf
          refine xt_callVi (As := [.int a1]) (rest := []) (C := RX1) (ci := 1) ⟨hx, hb, hml, hown, hts⟩ 33 (mX1_pointsOf l dC dI ad cy hJ 0 (by decide) σ a1 r9 qr9) (cwV 1 hts gX6_pierOf_X1_pointsOf rfl rfl rfl dmX1_pointsOf ⟨Nat.le_of_ble_eq_true rfl, Nat.le_of_ble_eq_true rfl⟩) hK hP hS (by decide) (LX1_obj ad cy 0 (by decide) _) rfl rfl rfl hl.1 (Nat.le_of_ble_eq_true rfl) ⟨Nat.zero_le _, Nat.zero_le _⟩ dX6_pierOf_101 (fun H locs hP hS => ?_)
          exact xt_iret hx hb hr hP hS (Option.some.inj hf) rfl dX6_pierOf_104 hlocks
        · have hf := (if_neg c8).symm.trans hf
          by_cases c10 : a2 = 3
          · have hf := (if_pos c10).symm.trans hf
            refine lv_tableIn (tgt := 105) (off := 90) hx hb dX6_pierOf_15 (by rw [c10]; decide) (by rw [c10]; decide) (by rw [c10]; rfl) (by decide) ?_
            refine lv_aload_n hx hb dX6_pierOf_105 rfl (lv_at hl 0 rfl) ?_
            refine xt_get (ci := 6) (C := RX6) (T := TX6) (n := 12) (v := .ref (ad 15)) hx hb hts iX6_pierOf_X6 hown hK hP 0 (by decide) (LX6_obj ad cy _) rfl 1 (by decide) w4 rfl dX6_pierOf_106 ?_
            refine lv_iload_n hx hb dX6_pierOf_109 rfl (lv_at hl 1 rfl) ?_
            obtain ⟨r11, qr11, hf⟩ := bd_some hf
            refine xt_callVi (As := [.int a1]) (rest := []) (C := RX0) (ci := 0) ⟨hx, hb, hml, hown, hts⟩ 15 (mX0_stretchOf l dC dI ad cy hJ 0 (by decide) σ a1 r11 qr11) (cwV 1 hts gX6_pierOf_X0_stretchOf rfl rfl rfl dmX0_stretchOf ⟨Nat.le_of_ble_eq_true rfl, Nat.le_of_ble_eq_true rfl⟩) hK hP hS (by decide) (LX0_obj ad cy 0 (by decide) _) rfl rfl rfl hl.1 (Nat.le_of_ble_eq_true rfl) ⟨Nat.zero_le _, Nat.zero_le _⟩ dX6_pierOf_110 (fun H locs hP hS => ?_)
            exact xt_iret hx hb hr hP hS (Option.some.inj hf) rfl dX6_pierOf_113 hlocks
          · have hf := (if_neg c10).symm.trans hf
            by_cases c12 : a2 = 4
            · have hf := (if_pos c12).symm.trans hf
              refine lv_tableIn (tgt := 114) (off := 99) hx hb dX6_pierOf_15 (by rw [c12]; decide) (by rw [c12]; decide) (by rw [c12]; rfl) (by decide) ?_
              refine lv_aload_n hx hb dX6_pierOf_114 rfl (lv_at hl 0 rfl) ?_
              refine xt_get (ci := 6) (C := RX6) (T := TX6) (n := 12) (v := .ref (ad 7)) hx hb hts iX6_pierOf_X6 hown hK hP 0 (by decide) (LX6_obj ad cy _) rfl 2 (by decide) w5 rfl dX6_pierOf_115 ?_
              refine xt_get (ci := 4) (C := RX4) (T := TX4) (n := 9) (v := .ref (ad 11)) hx hb hts iX6_pierOf_X4 hown hK hP 7 (by decide) (LX4_obj ad cy _) rfl 3 (by decide) w6 rfl dX6_pierOf_118 ?_
              refine lv_iload_n hx hb dX6_pierOf_121 rfl (lv_at hl 1 rfl) ?_
              obtain ⟨g13, hf⟩ := gd_some hf
              refine xt_iald hx hb hK hP 11 (by decide) 0 (LX4_homeBarges ad cy _) rfl g13 dX6_pierOf_122 ?_
              exact xt_iret hx hb hr hP hS (Option.some.inj hf) rfl dX6_pierOf_123 hlocks
            · have hf := (if_neg c12).symm.trans hf
              by_cases c14 : a2 = 5
              · have hf := (if_pos c14).symm.trans hf
                refine lv_tableIn (tgt := 124) (off := 109) hx hb dX6_pierOf_15 (by rw [c14]; decide) (by rw [c14]; decide) (by rw [c14]; rfl) (by decide) ?_
                refine lv_aload_n hx hb dX6_pierOf_124 rfl (lv_at hl 0 rfl) ?_
                refine xt_get (ci := 6) (C := RX6) (T := TX6) (n := 12) (v := .ref (ad 7)) hx hb hts iX6_pierOf_X6 hown hK hP 0 (by decide) (LX6_obj ad cy _) rfl 2 (by decide) w5 rfl dX6_pierOf_125 ?_
                refine xt_get (ci := 4) (C := RX4) (T := TX4) (n := 9) (v := .ref (ad 12)) hx hb hts iX6_pierOf_X4 hown hK hP 7 (by decide) (LX4_obj ad cy _) rfl 4 (by decide) w7 rfl dX6_pierOf_128 ?_
                refine lv_iload_n hx hb dX6_pierOf_131 rfl (lv_at hl 1 rfl) ?_
                obtain ⟨g15, hf⟩ := gd_some hf
                refine xt_iald hx hb hK hP 12 (by decide) 0 (LX4_homeTons ad cy _) rfl g15 dX6_pierOf_132 ?_
                exact xt_iret hx hb hr hP hS (Option.some.inj hf) rfl dX6_pierOf_133 hlocks
              · have hf := (if_neg c14).symm.trans hf
                by_cases c16 : a2 = 6
                · have hf := (if_pos c16).symm.trans hf
                  refine lv_tableIn (tgt := 134) (off := 119) hx hb dX6_pierOf_15 (by rw [c16]; decide) (by rw [c16]; decide) (by rw [c16]; rfl) (by decide) ?_
                  refine lv_aload_n hx hb dX6_pierOf_134 rfl (lv_at hl 0 rfl) ?_
                  refine xt_get (ci := 6) (C := RX6) (T := TX6) (n := 12) (v := .ref (ad 7)) hx hb hts iX6_pierOf_X6 hown hK hP 0 (by decide) (LX6_obj ad cy _) rfl 2 (by decide) w5 rfl dX6_pierOf_135 ?_
                  refine xt_get (ci := 4) (C := RX4) (T := TX4) (n := 9) (v := .ref (ad 13)) hx hb hts iX6_pierOf_X4 hown hK hP 7 (by decide) (LX4_obj ad cy _) rfl 5 (by decide) w8 rfl dX6_pierOf_138 ?_
                  refine lv_iload_n hx hb dX6_pierOf_141 rfl (lv_at hl 1 rfl) ?_
                  obtain ⟨g17, hf⟩ := gd_some hf
                  refine xt_iald hx hb hK hP 13 (by decide) 0 (LX4_lyingBarges ad cy _) rfl g17 dX6_pierOf_142 ?_
                  exact xt_iret hx hb hr hP hS (Option.some.inj hf) rfl dX6_pierOf_143 hlocks
                · have hf := (if_neg c16).symm.trans hf
                  by_cases c18 : a2 = 7
                  · have hf := (if_pos c18).symm.trans hf
                    refine lv_tableIn (tgt := 144) (off := 129) hx hb dX6_pierOf_15 (by rw [c18]; decide) (by rw [c18]; decide) (by rw [c18]; rfl) (by decide) ?_
                    refine lv_aload_n hx hb dX6_pierOf_144 rfl (lv_at hl 0 rfl) ?_
                    refine xt_get (ci := 6) (C := RX6) (T := TX6) (n := 12) (v := .ref (ad 7)) hx hb hts iX6_pierOf_X6 hown hK hP 0 (by decide) (LX6_obj ad cy _) rfl 2 (by decide) w5 rfl dX6_pierOf_145 ?_
                    refine xt_get (ci := 4) (C := RX4) (T := TX4) (n := 9) (v := .ref (ad 14)) hx hb hts iX6_pierOf_X4 hown hK hP 7 (by decide) (LX4_obj ad cy _) rfl 6 (by decide) w9 rfl dX6_pierOf_148 ?_
                    refine lv_iload_n hx hb dX6_pierOf_151 rfl (lv_at hl 1 rfl) ?_
                    obtain ⟨g19, hf⟩ := gd_some hf
                    refine xt_iald hx hb hK hP 14 (by decide) 0 (LX4_lyingTons ad cy _) rfl g19 dX6_pierOf_152 ?_
                    exact xt_iret hx hb hr hP hS (Option.some.inj hf) rfl dX6_pierOf_153 hlocks
                  · have hf := (if_neg c18).symm.trans hf
                    by_cases c20 : a2 = 8
                    · have hf := (if_pos c20).symm.trans hf
                      refine lv_tableIn (tgt := 154) (off := 139) hx hb dX6_pierOf_15 (by rw [c20]; decide) (by rw [c20]; decide) (by rw [c20]; rfl) (by decide) ?_
                      refine lv_aload_n hx hb dX6_pierOf_154 rfl (lv_at hl 0 rfl) ?_
                      refine xt_get (ci := 6) (C := RX6) (T := TX6) (n := 12) (v := .ref (ad 33)) hx hb hts iX6_pierOf_X6 hown hK hP 0 (by decide) (LX6_obj ad cy _) rfl 0 (by decide) w1 rfl dX6_pierOf_155 ?_
                      refine lv_iload_n hx hb dX6_pierOf_158 rfl (lv_at hl 1 rfl) ?_
                      obtain ⟨r21, qr21, hf⟩ := bd_some hf
                      refine xt_callVi (As := [.int a1]) (rest := []) (C := RX1) (ci := 1) ⟨hx, hb, hml, hown, hts⟩ 33 (mX1_roomOf l dC dI ad cy hJ 0 (by decide) σ a1 r21 qr21) (cwV 1 hts gX6_pierOf_X1_roomOf rfl rfl rfl dmX1_roomOf ⟨Nat.le_of_ble_eq_true rfl, Nat.le_of_ble_eq_true rfl⟩) hK hP hS (by decide) (LX1_obj ad cy 0 (by decide) _) rfl rfl rfl hl.1 (Nat.le_of_ble_eq_true rfl) ⟨Nat.zero_le _, Nat.zero_le _⟩ dX6_pierOf_159 (fun H locs hP hS => ?_)
                      exact xt_iret hx hb hr hP hS (Option.some.inj hf) rfl dX6_pierOf_162 hlocks
                    · have hf := (if_neg c20).symm.trans hf
                      by_cases c22 : a2 = 9
                      · have hf := (if_pos c22).symm.trans hf
                        refine lv_tableIn (tgt := 163) (off := 148) hx hb dX6_pierOf_15 (by rw [c22]; decide) (by rw [c22]; decide) (by rw [c22]; rfl) (by decide) ?_
                        refine lv_aload_n hx hb dX6_pierOf_163 rfl (lv_at hl 0 rfl) ?_
                        refine lv_iload_n hx hb dX6_pierOf_164 rfl (lv_at hl 1 rfl) ?_
                        obtain ⟨r23, qr23, hf⟩ := bd_some hf
                        refine xt_callVi (As := [.int a1]) (rest := []) (C := RX6) (ci := 6) ⟨hx, hb, hml, hown, hts⟩ 0 (mX6_isHot l dC dI ad cy hJ σ a1 r23 qr23) (cwV 1 hts gX6_pierOf_X6_isHot rfl rfl rfl dmX6_isHot ⟨Nat.le_of_ble_eq_true rfl, Nat.le_of_ble_eq_true rfl⟩) hK hP hS (by decide) (LX6_obj ad cy _) rfl rfl rfl hl.1 (Nat.le_of_ble_eq_true rfl) ⟨Nat.zero_le _, Nat.zero_le _⟩ dX6_pierOf_165 (fun H locs hP hS => ?_)
                        refine lv_if_eq (tgt := 175) hx hb dX6_pierOf_168 (by decide) (fun c24 => ?_) (fun c24 => ?_)
                        · have hf := (if_pos c24).symm.trans hf
                          refine lv_iconst (v := 0) hx hb dX6_pierOf_175 (by decide) ?_
                          exact xt_iret hx hb hr hP hS (Option.some.inj hf) rfl dX6_pierOf_176 hlocks
                        · have hf := (if_neg c24).symm.trans hf
                          refine lv_iconst (v := 1) hx hb dX6_pierOf_171 (by decide) ?_
                          refine lv_goto (tgt := 176) hx hb dX6_pierOf_172 (by decide) ?_
                          exact xt_iret hx hb hr hP hS (Option.some.inj hf) rfl dX6_pierOf_176 hlocks
                      · have hf := (if_neg c22).symm.trans hf
                        refine lv_tableOut (tgt := 177) hx hb dX6_pierOf_15 (by have ic3 : ¬ Int32.toInt a2 = 0 := lv_neT c3 (by decide); have ic5 : ¬ Int32.toInt a2 = 1 := lv_neT c5 (by decide); have ic8 : ¬ Int32.toInt a2 = 2 := lv_neT c8 (by decide); have ic10 : ¬ Int32.toInt a2 = 3 := lv_neT c10 (by decide); have ic12 : ¬ Int32.toInt a2 = 4 := lv_neT c12 (by decide); have ic14 : ¬ Int32.toInt a2 = 5 := lv_neT c14 (by decide); have ic16 : ¬ Int32.toInt a2 = 6 := lv_neT c16 (by decide); have ic18 : ¬ Int32.toInt a2 = 7 := lv_neT c18 (by decide); have ic20 : ¬ Int32.toInt a2 = 8 := lv_neT c20 (by decide); have ic22 : ¬ Int32.toInt a2 = 9 := lv_neT c22 (by decide); omega) (by decide) ?_
                        refine lv_bipush (v := (-12)) hx hb dX6_pierOf_177 (by decide) ?_
                        exact xt_iret hx hb hr hP hS (Option.some.inj hf) rfl dX6_pierOf_179 hlocks
  · have hf := (if_pos c2).symm.trans hf
    refine lv_bipush (v := (-11)) hx hb dX6_pierOf_11 (by decide) ?_
    exact xt_iret hx hb hr hP hS (Option.some.inj hf) rfl dX6_pierOf_13 hlocks
def fX6_letCome (σ : St) (a1 : Int32) (a2 : Int32) : Option (Int32 × St) :=
  if a1 < 0 then (some ((-12), σ)) else (if (9999 : Int32) < a1 then (some ((-12), σ)) else (if a2 < (1 : Int32) then (some ((-12), σ)) else (if a2 ≤ (99 : Int32) then (bd (fX1_bargeNamed 0 σ a1) fun r5 => if r5 = (-1 : Int32) then (if (σ 33 5) = (24 : Int32) then (bd (fX6_refuse σ 1 24) fun r10 => some (r10.1, r10.2)) else (bd (fX1_addBarge 0 σ a1 a2) fun r8 => bd (fX4_settle 0 0 r8) fun r9 => some (((r9 33 5) - 1), r9))) else (bd (fX6_refuse σ 2 r5) fun r11 => some (r11.1, r11.2))) else (some ((-12), σ)))))
abbrev rmX6_letCome : Room := { frames := 3, cells := 0, slots := 0, locals := 71 }
theorem dmX6_letCome : yX6_letCome.cls = RX6 ∧ yX6_letCome.cls ≠ "java/lang/invoke/MethodHandle" ∧ yX6_letCome.cls ≠ "java/lang/invoke/VarHandle" ∧ (parseMethodDescriptor yX6_letCome.desc).map (fun d => d.parameters.length) = some 2 := by decide +kernel
theorem iX6_letCome_X1 : ∀ w ∈ wsX10, w ∈ wsX6_letCome := fun w h => List.mem_cons_of_mem _ (List.mem_append_left _ (List.mem_append_left _ (List.mem_append_right _ (h))))
theorem iX6_letCome_X6 : ∀ w ∈ wsX60, w ∈ wsX6_letCome := fun w h => List.mem_cons_of_mem _ (List.mem_append_left _ (List.mem_append_left _ (List.mem_append_left _ (List.mem_append_right _ (h)))))
set_option maxHeartbeats 8000000 in
set_option maxRecDepth 100000 in
theorem mX6_letCome (l : Launch) (dC : Nat → ClassId) (dI : Nat → Nat → Nat) (ad : Nat → Nat) (cy : Nat → ClassId) (hJ : WJ 93 ad) (σ : St) (a1 : Int32) (a2 : Int32) (res : (Int32 × St)) (hf : fX6_letCome σ a1 a2 = some res) : CMi l yX6_letCome wsX6_letCome rmX6_letCome (dC, dI) (tysX cy) 93 ad (layX ad cy) [.ref (ad 0), .int a1, .int a2] σ res.1 res.2 := by
  refine Met.ofW (cc := cX6_letCome) (maxL := 4) (ret := (some .int)) (by decide) rfl ?_
  intro p e s m args below meth c s₁ B hml hv
  obtain ⟨hargs, hP, hK⟩ := hv
  have hx := B.exec
  have hb := B.bytes
  have hr := B.returns
  have hts := atoms_spec (ws := wsX6_letCome) B.pre
  have hown : s.vm.findClass RX6 = some m.cls := findClass_of_methodNamed B.named
  have hlocks := B.notSynchronized
  have w1 := hts (.fieldLink RX6 12 "PierRings" "harbour" "LPierRings$Harbour;") (List.mem_of_getElem? (i := 1) rfl)
  have w2 := hts (.fieldLink RX6 252 "PierRings$Harbour" "barges" "I") (List.mem_of_getElem? (i := 2) rfl)
  have w3 := hts (.fieldLink RX6 26 "PierRings" "moorings" "LPierRings$Moorings;") (List.mem_of_getElem? (i := 3) rfl)
  have w4 := hts (.fieldLink RX6 19 "PierRings" "circle" "LPierRings$Circle;") (List.mem_of_getElem? (i := 4) rfl)
  have hS : va_S (WA 93 ad) s.heap s.heap [] := va_S.rf
  have hfr : entryFrame m args 4 = F0 m 0 ((lg_sl [.ref (ad 0), .int a1, .int a2] ++ List.replicate (4 - (lg_sl [.ref (ad 0), .int a1, .int a2]).length) Slot.unset).toArray) [] := by rw [hargs]; exact lg_entry_eq _ _ _
  rw [hfr]
  have hl := lv_entry ([.ref (ad 0), .int a1, .int a2]) (n := 4) (Nat.le_of_ble_eq_true rfl)
  generalize (lg_sl [.ref (ad 0), .int a1, .int a2] ++ List.replicate (4 - (lg_sl [.ref (ad 0), .int a1, .int a2]).length) Slot.unset).toArray = ls at hl ⊢
  have hl : lv_has ls 4 [(0, .ref (ad 0)), (1, .int a1), (2, .int a2)] := hl
  clear hfr hargs B
  show W p l e rmX6_letCome s m args below meth c s.heap [] 0 0 (MQ below (Qiw (dC, dI) 93 ad (layX ad cy) res.1 res.2) args s 0 0 (WA 93 ad)) (F0 m 0 ls [])
  unfold fX6_letCome at hf
  obtain ⟨H, eH⟩ : ∃ H : Heap, H = s.heap := ⟨_, rfl⟩
  rw [← eH] at hP
  have hS : va_S (WA 93 ad) s.heap H [] := by rw [eH]; exact hS
  suffices K : W p l e rmX6_letCome s m args below meth c H [] 0 0 (MQ below (Qiw (dC, dI) 93 ad (layX ad cy) res.1 res.2) args s 0 0 (WA 93 ad)) (F0 m 0 ls []) by rw [eH] at K; exact K
  clear eH
  obtain ⟨locs, elocs⟩ : ∃ z : List Loc, z = [] := ⟨_, rfl⟩
  rw [← elocs] at hS ⊢
  refine lv_iload_n hx hb dX6_letCome_0 rfl (lv_at hl 1 rfl) ?_
  refine lv_if_lt (tgt := 22) hx hb dX6_letCome_1 (by decide) (fun c1 => ?_) (fun c1 => ?_)
  · have hf := (if_pos c1).symm.trans hf
    refine lv_bipush (v := (-12)) hx hb dX6_letCome_22 (by decide) ?_
    exact xt_iret hx hb hr hP hS (rs_1 hf) (rs_2 hf) dX6_letCome_24 hlocks
  · have hf := (if_neg c1).symm.trans hf
    refine lv_iload_n hx hb dX6_letCome_4 rfl (lv_at hl 1 rfl) ?_
    refine lv_sipush (v := 9999) hx hb dX6_letCome_5 (by decide) ?_
    refine lv_icmp_gt (tgt := 22) hx hb dX6_letCome_8 (by decide) (fun c2 => ?_) (fun c2 => ?_)
    · have hf := (if_pos c2).symm.trans hf
      refine lv_bipush (v := (-12)) hx hb dX6_letCome_22 (by decide) ?_
      exact xt_iret hx hb hr hP hS (rs_1 hf) (rs_2 hf) dX6_letCome_24 hlocks
    · have hf := (if_neg c2).symm.trans hf
      refine lv_iload_n hx hb dX6_letCome_11 rfl (lv_at hl 2 rfl) ?_
      refine lv_iconst (v := 1) hx hb dX6_letCome_12 (by decide) ?_
      refine lv_icmp_lt (tgt := 22) hx hb dX6_letCome_13 (by decide) (fun c3 => ?_) (fun c3 => ?_)
      · have hf := (if_pos c3).symm.trans hf
        refine lv_bipush (v := (-12)) hx hb dX6_letCome_22 (by decide) ?_
        exact xt_iret hx hb hr hP hS (rs_1 hf) (rs_2 hf) dX6_letCome_24 hlocks
      · have hf := (if_neg c3).symm.trans hf
        refine lv_iload_n hx hb dX6_letCome_16 rfl (lv_at hl 2 rfl) ?_
        refine lv_bipush (v := 99) hx hb dX6_letCome_17 (by decide) ?_
        refine lv_icmp_le (tgt := 25) hx hb dX6_letCome_19 (by decide) (fun c4 => ?_) (fun c4 => ?_)
        · have hf := (if_pos c4).symm.trans hf
          refine lv_aload_n hx hb dX6_letCome_25 rfl (lv_at hl 0 rfl) ?_
          refine xt_get (ci := 6) (C := RX6) (T := TX6) (n := 12) (v := .ref (ad 33)) hx hb hts iX6_letCome_X6 hown hK hP 0 (by decide) (LX6_obj ad cy _) rfl 0 (by decide) w1 rfl dX6_letCome_26 ?_
          refine lv_iload_n hx hb dX6_letCome_29 rfl (lv_at hl 1 rfl) ?_
          obtain ⟨r5, qr5, hf⟩ := bd_some hf
          refine xt_callVi (As := [.int a1]) (rest := []) (C := RX1) (ci := 1) ⟨hx, hb, hml, hown, hts⟩ 33 (mX1_bargeNamed l dC dI ad cy hJ 0 (by decide) σ a1 r5 qr5) (cwV 1 hts gX6_letCome_X1_bargeNamed rfl rfl rfl dmX1_bargeNamed ⟨Nat.le_of_ble_eq_true rfl, Nat.le_of_ble_eq_true rfl⟩) hK hP hS (by decide) (LX1_obj ad cy 0 (by decide) _) rfl rfl rfl hl.1 (Nat.le_of_ble_eq_true rfl) ⟨Nat.zero_le _, Nat.zero_le _⟩ dX6_letCome_30 (fun H locs hP hS => ?_)
          refine lv_istore_n (lv' := [(3, .int r5), (0, .ref (ad 0)), (1, .int a1), (2, .int a2)]) hx hb dX6_letCome_33 rfl hl (by decide) rfl (fun ls hl => ?_)
          refine lv_iload_n hx hb dX6_letCome_34 rfl (lv_at hl 0 rfl) ?_
          refine lv_iconst (v := (-1)) hx hb dX6_letCome_35 (by decide) ?_
          refine lv_icmp_eq (tgt := 46) hx hb dX6_letCome_36 (by decide) (fun c6 => ?_) (fun c6 => ?_)
          · have hf := (if_pos c6).symm.trans hf
            refine lv_aload_n hx hb dX6_letCome_46 rfl (lv_at hl 1 rfl) ?_
            refine xt_get (ci := 6) (C := RX6) (T := TX6) (n := 12) (v := .ref (ad 33)) hx hb hts iX6_letCome_X6 hown hK hP 0 (by decide) (LX6_obj ad cy _) rfl 0 (by decide) w1 rfl dX6_letCome_47 ?_
            refine xt_get (ci := 1) (C := RX1) (T := TX1) (n := 8) (v := .int (σ 33 5)) hx hb hts iX6_letCome_X1 hown hK hP 33 (by decide) (LX1_obj ad cy 0 (by decide) _) rfl 5 (by decide) w2 rfl dX6_letCome_50 ?_
            refine lv_bipush (v := 24) hx hb dX6_letCome_53 (by decide) ?_
            refine lv_icmp_ne (tgt := 66) hx hb dX6_letCome_55 (by decide) (fun c7 => ?_) (fun c7 => ?_)
            · have hf := (if_neg c7).symm.trans hf
              refine lv_aload_n hx hb dX6_letCome_66 rfl (lv_at hl 1 rfl) ?_
              refine xt_get (ci := 6) (C := RX6) (T := TX6) (n := 12) (v := .ref (ad 33)) hx hb hts iX6_letCome_X6 hown hK hP 0 (by decide) (LX6_obj ad cy _) rfl 0 (by decide) w1 rfl dX6_letCome_67 ?_
              refine lv_iload_n hx hb dX6_letCome_70 rfl (lv_at hl 2 rfl) ?_
              refine lv_iload_n hx hb dX6_letCome_71 rfl (lv_at hl 3 rfl) ?_
              obtain ⟨r8, qr8, hf⟩ := bd_some hf
              refine xt_callVv (As := [.int a1, .int a2]) (rest := []) (C := RX1) (ci := 1) ⟨hx, hb, hml, hown, hts⟩ 33 (mX1_addBarge l dC dI ad cy hJ 0 (by decide) σ a1 a2 r8 qr8) (cwV 2 hts gX6_letCome_X1_addBarge rfl rfl rfl dmX1_addBarge ⟨Nat.le_of_ble_eq_true rfl, Nat.le_of_ble_eq_true rfl⟩) hK hP hS (by decide) (LX1_obj ad cy 0 (by decide) _) rfl rfl rfl hl.1 (Nat.le_of_ble_eq_true rfl) ⟨Nat.zero_le _, Nat.zero_le _⟩ dX6_letCome_72 (fun H locs hP hS => ?_)
              refine lv_aload_n hx hb dX6_letCome_75 rfl (lv_at hl 1 rfl) ?_
              refine xt_get (ci := 6) (C := RX6) (T := TX6) (n := 12) (v := .ref (ad 7)) hx hb hts iX6_letCome_X6 hown hK hP 0 (by decide) (LX6_obj ad cy _) rfl 2 (by decide) w3 rfl dX6_letCome_76 ?_
              refine lv_aload_n hx hb dX6_letCome_79 rfl (lv_at hl 1 rfl) ?_
              refine xt_get (ci := 6) (C := RX6) (T := TX6) (n := 12) (v := .ref (ad 33)) hx hb hts iX6_letCome_X6 hown hK hP 0 (by decide) (LX6_obj ad cy _) rfl 0 (by decide) w1 rfl dX6_letCome_80 ?_
              refine lv_aload_n hx hb dX6_letCome_83 rfl (lv_at hl 1 rfl) ?_
              refine xt_get (ci := 6) (C := RX6) (T := TX6) (n := 12) (v := .ref (ad 15)) hx hb hts iX6_letCome_X6 hown hK hP 0 (by decide) (LX6_obj ad cy _) rfl 1 (by decide) w4 rfl dX6_letCome_84 ?_
              obtain ⟨r9, qr9, hf⟩ := bd_some hf
              refine xt_callVv (As := [.ref (ad 33), .ref (ad 15)]) (rest := []) (C := RX4) (ci := 4) ⟨hx, hb, hml, hown, hts⟩ 7 (mX4_settle l dC dI ad cy hJ 0 (by decide) 0 (by decide) r8 r9 qr9) (cwV 2 hts gX6_letCome_X4_settle rfl rfl rfl dmX4_settle ⟨Nat.le_of_ble_eq_true rfl, Nat.le_of_ble_eq_true rfl⟩) hK hP hS (by decide) (LX4_obj ad cy _) rfl rfl rfl hl.1 (Nat.le_of_ble_eq_true rfl) ⟨Nat.zero_le _, Nat.zero_le _⟩ dX6_letCome_87 (fun H locs hP hS => ?_)
              refine lv_aload_n hx hb dX6_letCome_90 rfl (lv_at hl 1 rfl) ?_
              refine xt_get (ci := 6) (C := RX6) (T := TX6) (n := 12) (v := .ref (ad 33)) hx hb hts iX6_letCome_X6 hown hK hP 0 (by decide) (LX6_obj ad cy _) rfl 0 (by decide) w1 rfl dX6_letCome_91 ?_
              refine xt_get (ci := 1) (C := RX1) (T := TX1) (n := 8) (v := .int (r9 33 5)) hx hb hts iX6_letCome_X1 hown hK hP 33 (by decide) (LX1_obj ad cy 0 (by decide) _) rfl 5 (by decide) w2 rfl dX6_letCome_94 ?_
              refine lv_iconst (v := 1) hx hb dX6_letCome_97 (by decide) ?_
              refine lv_isub hx hb dX6_letCome_98 ?_
              exact xt_iret hx hb hr hP hS (rs_1 hf) (rs_2 hf) dX6_letCome_99 hlocks
            · have hf := (if_pos c7).symm.trans hf
              refine lv_aload_n hx hb dX6_letCome_58 rfl (lv_at hl 1 rfl) ?_
              refine lv_iconst (v := 1) hx hb dX6_letCome_59 (by decide) ?_
              refine lv_bipush (v := 24) hx hb dX6_letCome_60 (by decide) ?_
              obtain ⟨r10, qr10, hf⟩ := bd_some hf
              refine xt_callVi (As := [.int 1, .int 24]) (rest := []) (C := RX6) (ci := 6) ⟨hx, hb, hml, hown, hts⟩ 0 (mX6_refuse l dC dI ad cy hJ σ 1 24 r10 qr10) (cwV 2 hts gX6_letCome_X6_refuse rfl rfl rfl dmX6_refuse ⟨Nat.le_of_ble_eq_true rfl, Nat.le_of_ble_eq_true rfl⟩) hK hP hS (by decide) (LX6_obj ad cy _) rfl rfl rfl hl.1 (Nat.le_of_ble_eq_true rfl) ⟨Nat.zero_le _, Nat.zero_le _⟩ dX6_letCome_62 (fun H locs hP hS => ?_)
              exact xt_iret hx hb hr hP hS (rs_1 hf) (rs_2 hf) dX6_letCome_65 hlocks
          · have hf := (if_neg c6).symm.trans hf
            refine lv_aload_n hx hb dX6_letCome_39 rfl (lv_at hl 1 rfl) ?_
            refine lv_iconst (v := 2) hx hb dX6_letCome_40 (by decide) ?_
            refine lv_iload_n hx hb dX6_letCome_41 rfl (lv_at hl 0 rfl) ?_
            obtain ⟨r11, qr11, hf⟩ := bd_some hf
            refine xt_callVi (As := [.int 2, .int r5]) (rest := []) (C := RX6) (ci := 6) ⟨hx, hb, hml, hown, hts⟩ 0 (mX6_refuse l dC dI ad cy hJ σ 2 r5 r11 qr11) (cwV 2 hts gX6_letCome_X6_refuse rfl rfl rfl dmX6_refuse ⟨Nat.le_of_ble_eq_true rfl, Nat.le_of_ble_eq_true rfl⟩) hK hP hS (by decide) (LX6_obj ad cy _) rfl rfl rfl hl.1 (Nat.le_of_ble_eq_true rfl) ⟨Nat.zero_le _, Nat.zero_le _⟩ dX6_letCome_42 (fun H locs hP hS => ?_)
            exact xt_iret hx hb hr hP hS (rs_1 hf) (rs_2 hf) dX6_letCome_45 hlocks
        · have hf := (if_neg c4).symm.trans hf
          refine lv_bipush (v := (-12)) hx hb dX6_letCome_22 (by decide) ?_
          exact xt_iret hx hb hr hP hS (rs_1 hf) (rs_2 hf) dX6_letCome_24 hlocks
def fX6_barge (σ : St) (a1 : Int32) (a2 : Int32) : Option (Int32 × St) :=
  bd (fX2_draft 0 σ) fun r1 => bd (fX6_letCome r1 a1 a2) fun r2 => bd (fX6_keepIfDone r2.2 r2.1) fun r3 => some (r3.1, r3.2)
abbrev rmX6_barge : Room := { frames := 4, cells := 0, slots := 0, locals := 106 }
theorem dmX6_barge : yX6_barge.cls = RX6 ∧ yX6_barge.cls ≠ "java/lang/invoke/MethodHandle" ∧ yX6_barge.cls ≠ "java/lang/invoke/VarHandle" ∧ (parseMethodDescriptor yX6_barge.desc).map (fun d => d.parameters.length) = some 2 := by decide +kernel
theorem iX6_barge_X6 : ∀ w ∈ wsX60, w ∈ wsX6_barge := fun w h => List.mem_cons_of_mem _ (List.mem_append_left _ (List.mem_append_left _ (List.mem_append_left _ (List.mem_append_left _ (List.mem_append_right _ (h))))))
set_option maxHeartbeats 8000000 in
set_option maxRecDepth 100000 in
theorem mX6_barge (l : Launch) (dC : Nat → ClassId) (dI : Nat → Nat → Nat) (ad : Nat → Nat) (cy : Nat → ClassId) (hJ : WJ 93 ad) (σ : St) (a1 : Int32) (a2 : Int32) (res : (Int32 × St)) (hf : fX6_barge σ a1 a2 = some res) : CMi l yX6_barge wsX6_barge rmX6_barge (dC, dI) (tysX cy) 93 ad (layX ad cy) [.ref (ad 0), .int a1, .int a2] σ res.1 res.2 := by
  refine Met.ofW (cc := cX6_barge) (maxL := 3) (ret := (some .int)) (by decide) rfl ?_
  intro p e s m args below meth c s₁ B hml hv
  obtain ⟨hargs, hP, hK⟩ := hv
  have hx := B.exec
  have hb := B.bytes
  have hr := B.returns
  have hts := atoms_spec (ws := wsX6_barge) B.pre
  have hown : s.vm.findClass RX6 = some m.cls := findClass_of_methodNamed B.named
  have hlocks := B.notSynchronized
  have w1 := hts (.fieldLink RX6 39 "PierRings" "history" "LPierRings$History;") (List.mem_of_getElem? (i := 1) rfl)
  have w2 := hts (.fieldLink RX6 12 "PierRings" "harbour" "LPierRings$Harbour;") (List.mem_of_getElem? (i := 2) rfl)
  have hS : va_S (WA 93 ad) s.heap s.heap [] := va_S.rf
  have hfr : entryFrame m args 3 = F0 m 0 ((lg_sl [.ref (ad 0), .int a1, .int a2] ++ List.replicate (3 - (lg_sl [.ref (ad 0), .int a1, .int a2]).length) Slot.unset).toArray) [] := by rw [hargs]; exact lg_entry_eq _ _ _
  rw [hfr]
  have hl := lv_entry ([.ref (ad 0), .int a1, .int a2]) (n := 3) (Nat.le_of_ble_eq_true rfl)
  generalize (lg_sl [.ref (ad 0), .int a1, .int a2] ++ List.replicate (3 - (lg_sl [.ref (ad 0), .int a1, .int a2]).length) Slot.unset).toArray = ls at hl ⊢
  have hl : lv_has ls 3 [(0, .ref (ad 0)), (1, .int a1), (2, .int a2)] := hl
  clear hfr hargs B
  show W p l e rmX6_barge s m args below meth c s.heap [] 0 0 (MQ below (Qiw (dC, dI) 93 ad (layX ad cy) res.1 res.2) args s 0 0 (WA 93 ad)) (F0 m 0 ls [])
  unfold fX6_barge at hf
  obtain ⟨H, eH⟩ : ∃ H : Heap, H = s.heap := ⟨_, rfl⟩
  rw [← eH] at hP
  have hS : va_S (WA 93 ad) s.heap H [] := by rw [eH]; exact hS
  suffices K : W p l e rmX6_barge s m args below meth c H [] 0 0 (MQ below (Qiw (dC, dI) 93 ad (layX ad cy) res.1 res.2) args s 0 0 (WA 93 ad)) (F0 m 0 ls []) by rw [eH] at K; exact K
  clear eH
  obtain ⟨locs, elocs⟩ : ∃ z : List Loc, z = [] := ⟨_, rfl⟩
  rw [← elocs] at hS ⊢
  refine lv_aload_n hx hb dX6_barge_0 rfl (lv_at hl 0 rfl) ?_
  refine xt_get (ci := 6) (C := RX6) (T := TX6) (n := 12) (v := .ref (ad 1)) hx hb hts iX6_barge_X6 hown hK hP 0 (by decide) (LX6_obj ad cy _) rfl 5 (by decide) w1 rfl dX6_barge_1 ?_
  refine lv_aload_n hx hb dX6_barge_4 rfl (lv_at hl 0 rfl) ?_
  refine xt_get (ci := 6) (C := RX6) (T := TX6) (n := 12) (v := .ref (ad 33)) hx hb hts iX6_barge_X6 hown hK hP 0 (by decide) (LX6_obj ad cy _) rfl 0 (by decide) w2 rfl dX6_barge_5 ?_
  obtain ⟨r1, qr1, hf⟩ := bd_some hf
  refine xt_callVv (As := [.ref (ad 33)]) (rest := []) (C := RX2) (ci := 2) ⟨hx, hb, hml, hown, hts⟩ 1 (mX2_draft l dC dI ad cy hJ 0 (by decide) σ r1 qr1) (cwV 1 hts gX6_barge_X2_draft rfl rfl rfl dmX2_draft ⟨Nat.le_of_ble_eq_true rfl, Nat.le_of_ble_eq_true rfl⟩) hK hP hS (by decide) (LX2_obj ad cy _) rfl rfl rfl hl.1 (Nat.le_of_ble_eq_true rfl) ⟨Nat.zero_le _, Nat.zero_le _⟩ dX6_barge_8 (fun H locs hP hS => ?_)
  refine lv_aload_n hx hb dX6_barge_11 rfl (lv_at hl 0 rfl) ?_
  refine lv_aload_n hx hb dX6_barge_12 rfl (lv_at hl 0 rfl) ?_
  refine lv_iload_n hx hb dX6_barge_13 rfl (lv_at hl 1 rfl) ?_
  refine lv_iload_n hx hb dX6_barge_14 rfl (lv_at hl 2 rfl) ?_
  obtain ⟨r2, qr2, hf⟩ := bd_some hf
  refine xt_callVi (As := [.int a1, .int a2]) (rest := [.ref (ad 0)]) (C := RX6) (ci := 6) ⟨hx, hb, hml, hown, hts⟩ 0 (mX6_letCome l dC dI ad cy hJ r1 a1 a2 r2 qr2) (cwV 2 hts gX6_barge_X6_letCome rfl rfl rfl dmX6_letCome ⟨Nat.le_of_ble_eq_true rfl, Nat.le_of_ble_eq_true rfl⟩) hK hP hS (by decide) (LX6_obj ad cy _) rfl rfl rfl hl.1 (Nat.le_of_ble_eq_true rfl) ⟨Nat.zero_le _, Nat.zero_le _⟩ dX6_barge_15 (fun H locs hP hS => ?_)
  obtain ⟨r3, qr3, hf⟩ := bd_some hf
  refine xt_callVi (As := [.int r2.1]) (rest := []) (C := RX6) (ci := 6) ⟨hx, hb, hml, hown, hts⟩ 0 (mX6_keepIfDone l dC dI ad cy hJ r2.2 r2.1 r3 qr3) (cwV 1 hts gX6_barge_X6_keepIfDone rfl rfl rfl dmX6_keepIfDone ⟨Nat.le_of_ble_eq_true rfl, Nat.le_of_ble_eq_true rfl⟩) hK hP hS (by decide) (LX6_obj ad cy _) rfl rfl rfl hl.1 (Nat.le_of_ble_eq_true rfl) ⟨Nat.zero_le _, Nat.zero_le _⟩ dX6_barge_18 (fun H locs hP hS => ?_)
  exact xt_iret hx hb hr hP hS (rs_1 hf) (rs_2 hf) dX6_barge_21 hlocks
def fX6_letGo (σ : St) (a1 : Int32) : Option (Int32 × St) :=
  bd (fX1_hasBarge 0 σ a1) fun r1 => if r1 = 0 then (some ((-11), σ)) else (bd (fX1_removeBarge 0 σ a1) fun r3 => bd (fX4_settle 0 0 r3) fun r4 => some ((r4 33 5), r4))
abbrev rmX6_letGo : Room := { frames := 3, cells := 0, slots := 0, locals := 86 }
theorem dmX6_letGo : yX6_letGo.cls = RX6 ∧ yX6_letGo.cls ≠ "java/lang/invoke/MethodHandle" ∧ yX6_letGo.cls ≠ "java/lang/invoke/VarHandle" ∧ (parseMethodDescriptor yX6_letGo.desc).map (fun d => d.parameters.length) = some 1 := by decide +kernel
theorem iX6_letGo_X1 : ∀ w ∈ wsX10, w ∈ wsX6_letGo := fun w h => List.mem_cons_of_mem _ (List.mem_append_left _ (List.mem_append_left _ (List.mem_append_right _ (h))))
theorem iX6_letGo_X6 : ∀ w ∈ wsX60, w ∈ wsX6_letGo := fun w h => List.mem_cons_of_mem _ (List.mem_append_left _ (List.mem_append_left _ (List.mem_append_left _ (List.mem_append_right _ (h)))))
set_option maxHeartbeats 8000000 in
set_option maxRecDepth 100000 in
theorem mX6_letGo (l : Launch) (dC : Nat → ClassId) (dI : Nat → Nat → Nat) (ad : Nat → Nat) (cy : Nat → ClassId) (hJ : WJ 93 ad) (σ : St) (a1 : Int32) (res : (Int32 × St)) (hf : fX6_letGo σ a1 = some res) : CMi l yX6_letGo wsX6_letGo rmX6_letGo (dC, dI) (tysX cy) 93 ad (layX ad cy) [.ref (ad 0), .int a1] σ res.1 res.2 := by
  refine Met.ofW (cc := cX6_letGo) (maxL := 2) (ret := (some .int)) (by decide) rfl ?_
  intro p e s m args below meth c s₁ B hml hv
  obtain ⟨hargs, hP, hK⟩ := hv
  have hx := B.exec
  have hb := B.bytes
  have hr := B.returns
  have hts := atoms_spec (ws := wsX6_letGo) B.pre
  have hown : s.vm.findClass RX6 = some m.cls := findClass_of_methodNamed B.named
  have hlocks := B.notSynchronized
  have w1 := hts (.fieldLink RX6 12 "PierRings" "harbour" "LPierRings$Harbour;") (List.mem_of_getElem? (i := 1) rfl)
  have w2 := hts (.fieldLink RX6 26 "PierRings" "moorings" "LPierRings$Moorings;") (List.mem_of_getElem? (i := 2) rfl)
  have w3 := hts (.fieldLink RX6 19 "PierRings" "circle" "LPierRings$Circle;") (List.mem_of_getElem? (i := 3) rfl)
  have w4 := hts (.fieldLink RX6 252 "PierRings$Harbour" "barges" "I") (List.mem_of_getElem? (i := 4) rfl)
  have hS : va_S (WA 93 ad) s.heap s.heap [] := va_S.rf
  have hfr : entryFrame m args 2 = F0 m 0 ((lg_sl [.ref (ad 0), .int a1] ++ List.replicate (2 - (lg_sl [.ref (ad 0), .int a1]).length) Slot.unset).toArray) [] := by rw [hargs]; exact lg_entry_eq _ _ _
  rw [hfr]
  have hl := lv_entry ([.ref (ad 0), .int a1]) (n := 2) (Nat.le_of_ble_eq_true rfl)
  generalize (lg_sl [.ref (ad 0), .int a1] ++ List.replicate (2 - (lg_sl [.ref (ad 0), .int a1]).length) Slot.unset).toArray = ls at hl ⊢
  have hl : lv_has ls 2 [(0, .ref (ad 0)), (1, .int a1)] := hl
  clear hfr hargs B
  show W p l e rmX6_letGo s m args below meth c s.heap [] 0 0 (MQ below (Qiw (dC, dI) 93 ad (layX ad cy) res.1 res.2) args s 0 0 (WA 93 ad)) (F0 m 0 ls [])
  unfold fX6_letGo at hf
  obtain ⟨H, eH⟩ : ∃ H : Heap, H = s.heap := ⟨_, rfl⟩
  rw [← eH] at hP
  have hS : va_S (WA 93 ad) s.heap H [] := by rw [eH]; exact hS
  suffices K : W p l e rmX6_letGo s m args below meth c H [] 0 0 (MQ below (Qiw (dC, dI) 93 ad (layX ad cy) res.1 res.2) args s 0 0 (WA 93 ad)) (F0 m 0 ls []) by rw [eH] at K; exact K
  clear eH
  obtain ⟨locs, elocs⟩ : ∃ z : List Loc, z = [] := ⟨_, rfl⟩
  rw [← elocs] at hS ⊢
  refine lv_aload_n hx hb dX6_letGo_0 rfl (lv_at hl 0 rfl) ?_
  refine xt_get (ci := 6) (C := RX6) (T := TX6) (n := 12) (v := .ref (ad 33)) hx hb hts iX6_letGo_X6 hown hK hP 0 (by decide) (LX6_obj ad cy _) rfl 0 (by decide) w1 rfl dX6_letGo_1 ?_
  refine lv_iload_n hx hb dX6_letGo_4 rfl (lv_at hl 1 rfl) ?_
  obtain ⟨r1, qr1, hf⟩ := bd_some hf
  refine xt_callVi (As := [.int a1]) (rest := []) (C := RX1) (ci := 1) ⟨hx, hb, hml, hown, hts⟩ 33 (mX1_hasBarge l dC dI ad cy hJ 0 (by decide) σ a1 r1 qr1) (cwV 1 hts gX6_letGo_X1_hasBarge rfl rfl rfl dmX1_hasBarge ⟨Nat.le_of_ble_eq_true rfl, Nat.le_of_ble_eq_true rfl⟩) hK hP hS (by decide) (LX1_obj ad cy 0 (by decide) _) rfl rfl rfl hl.1 (Nat.le_of_ble_eq_true rfl) ⟨Nat.zero_le _, Nat.zero_le _⟩ dX6_letGo_5 (fun H locs hP hS => ?_)
  refine lv_if_ne (tgt := 14) hx hb dX6_letGo_8 (by decide) (fun c2 => ?_) (fun c2 => ?_)
  · have hf := (if_neg c2).symm.trans hf
    refine lv_aload_n hx hb dX6_letGo_14 rfl (lv_at hl 0 rfl) ?_
    refine xt_get (ci := 6) (C := RX6) (T := TX6) (n := 12) (v := .ref (ad 33)) hx hb hts iX6_letGo_X6 hown hK hP 0 (by decide) (LX6_obj ad cy _) rfl 0 (by decide) w1 rfl dX6_letGo_15 ?_
    refine lv_iload_n hx hb dX6_letGo_18 rfl (lv_at hl 1 rfl) ?_
    obtain ⟨r3, qr3, hf⟩ := bd_some hf
    refine xt_callVv (As := [.int a1]) (rest := []) (C := RX1) (ci := 1) ⟨hx, hb, hml, hown, hts⟩ 33 (mX1_removeBarge l dC dI ad cy hJ 0 (by decide) σ a1 r3 qr3) (cwV 1 hts gX6_letGo_X1_removeBarge rfl rfl rfl dmX1_removeBarge ⟨Nat.le_of_ble_eq_true rfl, Nat.le_of_ble_eq_true rfl⟩) hK hP hS (by decide) (LX1_obj ad cy 0 (by decide) _) rfl rfl rfl hl.1 (Nat.le_of_ble_eq_true rfl) ⟨Nat.zero_le _, Nat.zero_le _⟩ dX6_letGo_19 (fun H locs hP hS => ?_)
    refine lv_aload_n hx hb dX6_letGo_22 rfl (lv_at hl 0 rfl) ?_
    refine xt_get (ci := 6) (C := RX6) (T := TX6) (n := 12) (v := .ref (ad 7)) hx hb hts iX6_letGo_X6 hown hK hP 0 (by decide) (LX6_obj ad cy _) rfl 2 (by decide) w2 rfl dX6_letGo_23 ?_
    refine lv_aload_n hx hb dX6_letGo_26 rfl (lv_at hl 0 rfl) ?_
    refine xt_get (ci := 6) (C := RX6) (T := TX6) (n := 12) (v := .ref (ad 33)) hx hb hts iX6_letGo_X6 hown hK hP 0 (by decide) (LX6_obj ad cy _) rfl 0 (by decide) w1 rfl dX6_letGo_27 ?_
    refine lv_aload_n hx hb dX6_letGo_30 rfl (lv_at hl 0 rfl) ?_
    refine xt_get (ci := 6) (C := RX6) (T := TX6) (n := 12) (v := .ref (ad 15)) hx hb hts iX6_letGo_X6 hown hK hP 0 (by decide) (LX6_obj ad cy _) rfl 1 (by decide) w3 rfl dX6_letGo_31 ?_
    obtain ⟨r4, qr4, hf⟩ := bd_some hf
    refine xt_callVv (As := [.ref (ad 33), .ref (ad 15)]) (rest := []) (C := RX4) (ci := 4) ⟨hx, hb, hml, hown, hts⟩ 7 (mX4_settle l dC dI ad cy hJ 0 (by decide) 0 (by decide) r3 r4 qr4) (cwV 2 hts gX6_letGo_X4_settle rfl rfl rfl dmX4_settle ⟨Nat.le_of_ble_eq_true rfl, Nat.le_of_ble_eq_true rfl⟩) hK hP hS (by decide) (LX4_obj ad cy _) rfl rfl rfl hl.1 (Nat.le_of_ble_eq_true rfl) ⟨Nat.zero_le _, Nat.zero_le _⟩ dX6_letGo_34 (fun H locs hP hS => ?_)
    refine lv_aload_n hx hb dX6_letGo_37 rfl (lv_at hl 0 rfl) ?_
    refine xt_get (ci := 6) (C := RX6) (T := TX6) (n := 12) (v := .ref (ad 33)) hx hb hts iX6_letGo_X6 hown hK hP 0 (by decide) (LX6_obj ad cy _) rfl 0 (by decide) w1 rfl dX6_letGo_38 ?_
    refine xt_get (ci := 1) (C := RX1) (T := TX1) (n := 8) (v := .int (r4 33 5)) hx hb hts iX6_letGo_X1 hown hK hP 33 (by decide) (LX1_obj ad cy 0 (by decide) _) rfl 5 (by decide) w4 rfl dX6_letGo_41 ?_
    exact xt_iret hx hb hr hP hS (rs_1 hf) (rs_2 hf) dX6_letGo_44 hlocks
  · have hf := (if_pos c2).symm.trans hf
    refine lv_bipush (v := (-11)) hx hb dX6_letGo_11 (by decide) ?_
    exact xt_iret hx hb hr hP hS (rs_1 hf) (rs_2 hf) dX6_letGo_13 hlocks
def fX6_leave (σ : St) (a1 : Int32) : Option (Int32 × St) :=
  bd (fX2_draft 0 σ) fun r1 => bd (fX6_letGo r1 a1) fun r2 => bd (fX6_keepIfDone r2.2 r2.1) fun r3 => some (r3.1, r3.2)
abbrev rmX6_leave : Room := { frames := 4, cells := 0, slots := 0, locals := 107 }
theorem dmX6_leave : yX6_leave.cls = RX6 ∧ yX6_leave.cls ≠ "java/lang/invoke/MethodHandle" ∧ yX6_leave.cls ≠ "java/lang/invoke/VarHandle" ∧ (parseMethodDescriptor yX6_leave.desc).map (fun d => d.parameters.length) = some 1 := by decide +kernel
theorem iX6_leave_X6 : ∀ w ∈ wsX60, w ∈ wsX6_leave := fun w h => List.mem_cons_of_mem _ (List.mem_append_left _ (List.mem_append_left _ (List.mem_append_left _ (List.mem_append_left _ (List.mem_append_right _ (h))))))
set_option maxHeartbeats 8000000 in
set_option maxRecDepth 100000 in
theorem mX6_leave (l : Launch) (dC : Nat → ClassId) (dI : Nat → Nat → Nat) (ad : Nat → Nat) (cy : Nat → ClassId) (hJ : WJ 93 ad) (σ : St) (a1 : Int32) (res : (Int32 × St)) (hf : fX6_leave σ a1 = some res) : CMi l yX6_leave wsX6_leave rmX6_leave (dC, dI) (tysX cy) 93 ad (layX ad cy) [.ref (ad 0), .int a1] σ res.1 res.2 := by
  refine Met.ofW (cc := cX6_leave) (maxL := 2) (ret := (some .int)) (by decide) rfl ?_
  intro p e s m args below meth c s₁ B hml hv
  obtain ⟨hargs, hP, hK⟩ := hv
  have hx := B.exec
  have hb := B.bytes
  have hr := B.returns
  have hts := atoms_spec (ws := wsX6_leave) B.pre
  have hown : s.vm.findClass RX6 = some m.cls := findClass_of_methodNamed B.named
  have hlocks := B.notSynchronized
  have w1 := hts (.fieldLink RX6 39 "PierRings" "history" "LPierRings$History;") (List.mem_of_getElem? (i := 1) rfl)
  have w2 := hts (.fieldLink RX6 12 "PierRings" "harbour" "LPierRings$Harbour;") (List.mem_of_getElem? (i := 2) rfl)
  have hS : va_S (WA 93 ad) s.heap s.heap [] := va_S.rf
  have hfr : entryFrame m args 2 = F0 m 0 ((lg_sl [.ref (ad 0), .int a1] ++ List.replicate (2 - (lg_sl [.ref (ad 0), .int a1]).length) Slot.unset).toArray) [] := by rw [hargs]; exact lg_entry_eq _ _ _
  rw [hfr]
  have hl := lv_entry ([.ref (ad 0), .int a1]) (n := 2) (Nat.le_of_ble_eq_true rfl)
  generalize (lg_sl [.ref (ad 0), .int a1] ++ List.replicate (2 - (lg_sl [.ref (ad 0), .int a1]).length) Slot.unset).toArray = ls at hl ⊢
  have hl : lv_has ls 2 [(0, .ref (ad 0)), (1, .int a1)] := hl
  clear hfr hargs B
  show W p l e rmX6_leave s m args below meth c s.heap [] 0 0 (MQ below (Qiw (dC, dI) 93 ad (layX ad cy) res.1 res.2) args s 0 0 (WA 93 ad)) (F0 m 0 ls [])
  unfold fX6_leave at hf
  obtain ⟨H, eH⟩ : ∃ H : Heap, H = s.heap := ⟨_, rfl⟩
  rw [← eH] at hP
  have hS : va_S (WA 93 ad) s.heap H [] := by rw [eH]; exact hS
  suffices K : W p l e rmX6_leave s m args below meth c H [] 0 0 (MQ below (Qiw (dC, dI) 93 ad (layX ad cy) res.1 res.2) args s 0 0 (WA 93 ad)) (F0 m 0 ls []) by rw [eH] at K; exact K
  clear eH
  obtain ⟨locs, elocs⟩ : ∃ z : List Loc, z = [] := ⟨_, rfl⟩
  rw [← elocs] at hS ⊢
  refine lv_aload_n hx hb dX6_leave_0 rfl (lv_at hl 0 rfl) ?_
  refine xt_get (ci := 6) (C := RX6) (T := TX6) (n := 12) (v := .ref (ad 1)) hx hb hts iX6_leave_X6 hown hK hP 0 (by decide) (LX6_obj ad cy _) rfl 5 (by decide) w1 rfl dX6_leave_1 ?_
  refine lv_aload_n hx hb dX6_leave_4 rfl (lv_at hl 0 rfl) ?_
  refine xt_get (ci := 6) (C := RX6) (T := TX6) (n := 12) (v := .ref (ad 33)) hx hb hts iX6_leave_X6 hown hK hP 0 (by decide) (LX6_obj ad cy _) rfl 0 (by decide) w2 rfl dX6_leave_5 ?_
  obtain ⟨r1, qr1, hf⟩ := bd_some hf
  refine xt_callVv (As := [.ref (ad 33)]) (rest := []) (C := RX2) (ci := 2) ⟨hx, hb, hml, hown, hts⟩ 1 (mX2_draft l dC dI ad cy hJ 0 (by decide) σ r1 qr1) (cwV 1 hts gX6_leave_X2_draft rfl rfl rfl dmX2_draft ⟨Nat.le_of_ble_eq_true rfl, Nat.le_of_ble_eq_true rfl⟩) hK hP hS (by decide) (LX2_obj ad cy _) rfl rfl rfl hl.1 (Nat.le_of_ble_eq_true rfl) ⟨Nat.zero_le _, Nat.zero_le _⟩ dX6_leave_8 (fun H locs hP hS => ?_)
  refine lv_aload_n hx hb dX6_leave_11 rfl (lv_at hl 0 rfl) ?_
  refine lv_aload_n hx hb dX6_leave_12 rfl (lv_at hl 0 rfl) ?_
  refine lv_iload_n hx hb dX6_leave_13 rfl (lv_at hl 1 rfl) ?_
  obtain ⟨r2, qr2, hf⟩ := bd_some hf
  refine xt_callVi (As := [.int a1]) (rest := [.ref (ad 0)]) (C := RX6) (ci := 6) ⟨hx, hb, hml, hown, hts⟩ 0 (mX6_letGo l dC dI ad cy hJ r1 a1 r2 qr2) (cwV 1 hts gX6_leave_X6_letGo rfl rfl rfl dmX6_letGo ⟨Nat.le_of_ble_eq_true rfl, Nat.le_of_ble_eq_true rfl⟩) hK hP hS (by decide) (LX6_obj ad cy _) rfl rfl rfl hl.1 (Nat.le_of_ble_eq_true rfl) ⟨Nat.zero_le _, Nat.zero_le _⟩ dX6_leave_14 (fun H locs hP hS => ?_)
  obtain ⟨r3, qr3, hf⟩ := bd_some hf
  refine xt_callVi (As := [.int r2.1]) (rest := []) (C := RX6) (ci := 6) ⟨hx, hb, hml, hown, hts⟩ 0 (mX6_keepIfDone l dC dI ad cy hJ r2.2 r2.1 r3 qr3) (cwV 1 hts gX6_leave_X6_keepIfDone rfl rfl rfl dmX6_keepIfDone ⟨Nat.le_of_ble_eq_true rfl, Nat.le_of_ble_eq_true rfl⟩) hK hP hS (by decide) (LX6_obj ad cy _) rfl rfl rfl hl.1 (Nat.le_of_ble_eq_true rfl) ⟨Nat.zero_le _, Nat.zero_le _⟩ dX6_leave_17 (fun H locs hP hS => ?_)
  exact xt_iret hx hb hr hP hS (rs_1 hf) (rs_2 hf) dX6_leave_20 hlocks
def fX6_setTons (σ : St) (a1 : Int32) (a2 : Int32) : Option (Int32 × St) :=
  bd (fX1_hasBarge 0 σ a1) fun r1 => if r1 = 0 then (some ((-11), σ)) else (if a2 < (1 : Int32) then (some ((-12), σ)) else (if a2 ≤ (99 : Int32) then (gd (okI a1 24) <| nm (σ 37 a1.toNatClampNeg) fun v6 => if v6 = a2 then (bd (fX6_refuse σ 3 a2) fun r11 => some (r11.1, r11.2)) else (gd (okI a1 24) <| nm (su σ 37 a1.toNatClampNeg a2) fun σ9 => bd (fX4_settle 0 0 σ9) fun r10 => some (v6, r10))) else (some ((-12), σ))))
abbrev rmX6_setTons : Room := { frames := 3, cells := 0, slots := 0, locals := 71 }
theorem dmX6_setTons : yX6_setTons.cls = RX6 ∧ yX6_setTons.cls ≠ "java/lang/invoke/MethodHandle" ∧ yX6_setTons.cls ≠ "java/lang/invoke/VarHandle" ∧ (parseMethodDescriptor yX6_setTons.desc).map (fun d => d.parameters.length) = some 2 := by decide +kernel
theorem iX6_setTons_X1 : ∀ w ∈ wsX10, w ∈ wsX6_setTons := fun w h => List.mem_cons_of_mem _ (List.mem_append_left _ (List.mem_append_left _ (List.mem_append_right _ (h))))
theorem iX6_setTons_X6 : ∀ w ∈ wsX60, w ∈ wsX6_setTons := fun w h => List.mem_cons_of_mem _ (List.mem_append_left _ (List.mem_append_left _ (List.mem_append_left _ (List.mem_append_right _ (h)))))
set_option maxHeartbeats 8000000 in
set_option maxRecDepth 100000 in
theorem mX6_setTons (l : Launch) (dC : Nat → ClassId) (dI : Nat → Nat → Nat) (ad : Nat → Nat) (cy : Nat → ClassId) (hJ : WJ 93 ad) (σ : St) (a1 : Int32) (a2 : Int32) (res : (Int32 × St)) (hf : fX6_setTons σ a1 a2 = some res) : CMi l yX6_setTons wsX6_setTons rmX6_setTons (dC, dI) (tysX cy) 93 ad (layX ad cy) [.ref (ad 0), .int a1, .int a2] σ res.1 res.2 := by
  refine Met.ofW (cc := cX6_setTons) (maxL := 4) (ret := (some .int)) (by decide) rfl ?_
  intro p e s m args below meth c s₁ B hml hv
  obtain ⟨hargs, hP, hK⟩ := hv
  have hx := B.exec
  have hb := B.bytes
  have hr := B.returns
  have hts := atoms_spec (ws := wsX6_setTons) B.pre
  have hown : s.vm.findClass RX6 = some m.cls := findClass_of_methodNamed B.named
  have hlocks := B.notSynchronized
  have w1 := hts (.fieldLink RX6 12 "PierRings" "harbour" "LPierRings$Harbour;") (List.mem_of_getElem? (i := 1) rfl)
  have w2 := hts (.fieldLink RX6 147 "PierRings$Harbour" "tons" "[I") (List.mem_of_getElem? (i := 2) rfl)
  have w3 := hts (.fieldLink RX6 26 "PierRings" "moorings" "LPierRings$Moorings;") (List.mem_of_getElem? (i := 3) rfl)
  have w4 := hts (.fieldLink RX6 19 "PierRings" "circle" "LPierRings$Circle;") (List.mem_of_getElem? (i := 4) rfl)
  have hS : va_S (WA 93 ad) s.heap s.heap [] := va_S.rf
  have hfr : entryFrame m args 4 = F0 m 0 ((lg_sl [.ref (ad 0), .int a1, .int a2] ++ List.replicate (4 - (lg_sl [.ref (ad 0), .int a1, .int a2]).length) Slot.unset).toArray) [] := by rw [hargs]; exact lg_entry_eq _ _ _
  rw [hfr]
  have hl := lv_entry ([.ref (ad 0), .int a1, .int a2]) (n := 4) (Nat.le_of_ble_eq_true rfl)
  generalize (lg_sl [.ref (ad 0), .int a1, .int a2] ++ List.replicate (4 - (lg_sl [.ref (ad 0), .int a1, .int a2]).length) Slot.unset).toArray = ls at hl ⊢
  have hl : lv_has ls 4 [(0, .ref (ad 0)), (1, .int a1), (2, .int a2)] := hl
  clear hfr hargs B
  show W p l e rmX6_setTons s m args below meth c s.heap [] 0 0 (MQ below (Qiw (dC, dI) 93 ad (layX ad cy) res.1 res.2) args s 0 0 (WA 93 ad)) (F0 m 0 ls [])
  unfold fX6_setTons at hf
  obtain ⟨H, eH⟩ : ∃ H : Heap, H = s.heap := ⟨_, rfl⟩
  rw [← eH] at hP
  have hS : va_S (WA 93 ad) s.heap H [] := by rw [eH]; exact hS
  suffices K : W p l e rmX6_setTons s m args below meth c H [] 0 0 (MQ below (Qiw (dC, dI) 93 ad (layX ad cy) res.1 res.2) args s 0 0 (WA 93 ad)) (F0 m 0 ls []) by rw [eH] at K; exact K
  clear eH
  obtain ⟨locs, elocs⟩ : ∃ z : List Loc, z = [] := ⟨_, rfl⟩
  rw [← elocs] at hS ⊢
  refine lv_aload_n hx hb dX6_setTons_0 rfl (lv_at hl 0 rfl) ?_
  refine xt_get (ci := 6) (C := RX6) (T := TX6) (n := 12) (v := .ref (ad 33)) hx hb hts iX6_setTons_X6 hown hK hP 0 (by decide) (LX6_obj ad cy _) rfl 0 (by decide) w1 rfl dX6_setTons_1 ?_
  refine lv_iload_n hx hb dX6_setTons_4 rfl (lv_at hl 1 rfl) ?_
  obtain ⟨r1, qr1, hf⟩ := bd_some hf
  refine xt_callVi (As := [.int a1]) (rest := []) (C := RX1) (ci := 1) ⟨hx, hb, hml, hown, hts⟩ 33 (mX1_hasBarge l dC dI ad cy hJ 0 (by decide) σ a1 r1 qr1) (cwV 1 hts gX6_setTons_X1_hasBarge rfl rfl rfl dmX1_hasBarge ⟨Nat.le_of_ble_eq_true rfl, Nat.le_of_ble_eq_true rfl⟩) hK hP hS (by decide) (LX1_obj ad cy 0 (by decide) _) rfl rfl rfl hl.1 (Nat.le_of_ble_eq_true rfl) ⟨Nat.zero_le _, Nat.zero_le _⟩ dX6_setTons_5 (fun H locs hP hS => ?_)
  refine lv_if_ne (tgt := 14) hx hb dX6_setTons_8 (by decide) (fun c2 => ?_) (fun c2 => ?_)
  · have hf := (if_neg c2).symm.trans hf
    refine lv_iload_n hx hb dX6_setTons_14 rfl (lv_at hl 2 rfl) ?_
    refine lv_iconst (v := 1) hx hb dX6_setTons_15 (by decide) ?_
    refine lv_icmp_lt (tgt := 25) hx hb dX6_setTons_16 (by decide) (fun c3 => ?_) (fun c3 => ?_)
    · have hf := (if_pos c3).symm.trans hf
      refine lv_bipush (v := (-12)) hx hb dX6_setTons_25 (by decide) ?_
      exact xt_iret hx hb hr hP hS (rs_1 hf) (rs_2 hf) dX6_setTons_27 hlocks
    · have hf := (if_neg c3).symm.trans hf
      refine lv_iload_n hx hb dX6_setTons_19 rfl (lv_at hl 2 rfl) ?_
      refine lv_bipush (v := 99) hx hb dX6_setTons_20 (by decide) ?_
      refine lv_icmp_le (tgt := 28) hx hb dX6_setTons_22 (by decide) (fun c4 => ?_) (fun c4 => ?_)
      · have hf := (if_pos c4).symm.trans hf
        refine lv_aload_n hx hb dX6_setTons_28 rfl (lv_at hl 0 rfl) ?_
        refine xt_get (ci := 6) (C := RX6) (T := TX6) (n := 12) (v := .ref (ad 33)) hx hb hts iX6_setTons_X6 hown hK hP 0 (by decide) (LX6_obj ad cy _) rfl 0 (by decide) w1 rfl dX6_setTons_29 ?_
        refine xt_get (ci := 1) (C := RX1) (T := TX1) (n := 8) (v := .ref (ad 37)) hx hb hts iX6_setTons_X1 hown hK hP 33 (by decide) (LX1_obj ad cy 0 (by decide) _) rfl 3 (by decide) w2 rfl dX6_setTons_32 ?_
        refine lv_iload_n hx hb dX6_setTons_35 rfl (lv_at hl 1 rfl) ?_
        obtain ⟨g5, hf⟩ := gd_some hf
        refine xt_iald hx hb hK hP 37 (by decide) 0 (LX1_tons ad cy 0 (by decide) _) rfl g5 dX6_setTons_36 ?_
        refine lv_topi (fun v6 ev6 => ?_)
        have hf := nm_to hf ev6
        refine lv_istore_n (lv' := [(3, .int v6), (0, .ref (ad 0)), (1, .int a1), (2, .int a2)]) hx hb dX6_setTons_37 rfl hl (by decide) rfl (fun ls hl => ?_)
        refine lv_iload_n hx hb dX6_setTons_38 rfl (lv_at hl 0 rfl) ?_
        refine lv_iload_n hx hb dX6_setTons_39 rfl (lv_at hl 3 rfl) ?_
        refine lv_icmp_ne (tgt := 50) hx hb dX6_setTons_40 (by decide) (fun c7 => ?_) (fun c7 => ?_)
        · have hf := (if_neg c7).symm.trans hf
          refine lv_aload_n hx hb dX6_setTons_50 rfl (lv_at hl 1 rfl) ?_
          refine xt_get (ci := 6) (C := RX6) (T := TX6) (n := 12) (v := .ref (ad 33)) hx hb hts iX6_setTons_X6 hown hK hP 0 (by decide) (LX6_obj ad cy _) rfl 0 (by decide) w1 rfl dX6_setTons_51 ?_
          refine xt_get (ci := 1) (C := RX1) (T := TX1) (n := 8) (v := .ref (ad 37)) hx hb hts iX6_setTons_X1 hown hK hP 33 (by decide) (LX1_obj ad cy 0 (by decide) _) rfl 3 (by decide) w2 rfl dX6_setTons_54 ?_
          refine lv_iload_n hx hb dX6_setTons_57 rfl (lv_at hl 2 rfl) ?_
          refine lv_iload_n hx hb dX6_setTons_58 rfl (lv_at hl 3 rfl) ?_
          obtain ⟨g8, hf⟩ := gd_some hf
          refine xt_iast hx hb hK hP hJ hS 37 (by decide) 0 (LX1_tons ad cy 0 (by decide)) rfl g8 dX6_setTons_59 (fun H locs hP hS => ?_)
          obtain ⟨σ9, eσ9⟩ : ∃ z : St, z = su σ 37 a1.toNatClampNeg a2 := ⟨_, rfl⟩
          rw [← eσ9] at hP
          have hf := nm_to hf eσ9
          refine lv_aload_n hx hb dX6_setTons_60 rfl (lv_at hl 1 rfl) ?_
          refine xt_get (ci := 6) (C := RX6) (T := TX6) (n := 12) (v := .ref (ad 7)) hx hb hts iX6_setTons_X6 hown hK hP 0 (by decide) (LX6_obj ad cy _) rfl 2 (by decide) w3 rfl dX6_setTons_61 ?_
          refine lv_aload_n hx hb dX6_setTons_64 rfl (lv_at hl 1 rfl) ?_
          refine xt_get (ci := 6) (C := RX6) (T := TX6) (n := 12) (v := .ref (ad 33)) hx hb hts iX6_setTons_X6 hown hK hP 0 (by decide) (LX6_obj ad cy _) rfl 0 (by decide) w1 rfl dX6_setTons_65 ?_
          refine lv_aload_n hx hb dX6_setTons_68 rfl (lv_at hl 1 rfl) ?_
          refine xt_get (ci := 6) (C := RX6) (T := TX6) (n := 12) (v := .ref (ad 15)) hx hb hts iX6_setTons_X6 hown hK hP 0 (by decide) (LX6_obj ad cy _) rfl 1 (by decide) w4 rfl dX6_setTons_69 ?_
          obtain ⟨r10, qr10, hf⟩ := bd_some hf
          refine xt_callVv (As := [.ref (ad 33), .ref (ad 15)]) (rest := []) (C := RX4) (ci := 4) ⟨hx, hb, hml, hown, hts⟩ 7 (mX4_settle l dC dI ad cy hJ 0 (by decide) 0 (by decide) σ9 r10 qr10) (cwV 2 hts gX6_setTons_X4_settle rfl rfl rfl dmX4_settle ⟨Nat.le_of_ble_eq_true rfl, Nat.le_of_ble_eq_true rfl⟩) hK hP hS (by decide) (LX4_obj ad cy _) rfl rfl rfl hl.1 (Nat.le_of_ble_eq_true rfl) ⟨Nat.zero_le _, Nat.zero_le _⟩ dX6_setTons_72 (fun H locs hP hS => ?_)
          refine lv_iload_n hx hb dX6_setTons_75 rfl (lv_at hl 0 rfl) ?_
          exact xt_iret hx hb hr hP hS (rs_1 hf) (rs_2 hf) dX6_setTons_76 hlocks
        · have hf := (if_pos c7).symm.trans hf
          refine lv_aload_n hx hb dX6_setTons_43 rfl (lv_at hl 1 rfl) ?_
          refine lv_iconst (v := 3) hx hb dX6_setTons_44 (by decide) ?_
          refine lv_iload_n hx hb dX6_setTons_45 rfl (lv_at hl 3 rfl) ?_
          obtain ⟨r11, qr11, hf⟩ := bd_some hf
          refine xt_callVi (As := [.int 3, .int a2]) (rest := []) (C := RX6) (ci := 6) ⟨hx, hb, hml, hown, hts⟩ 0 (mX6_refuse l dC dI ad cy hJ σ 3 a2 r11 qr11) (cwV 2 hts gX6_setTons_X6_refuse rfl rfl rfl dmX6_refuse ⟨Nat.le_of_ble_eq_true rfl, Nat.le_of_ble_eq_true rfl⟩) hK hP hS (by decide) (LX6_obj ad cy _) rfl rfl rfl hl.1 (Nat.le_of_ble_eq_true rfl) ⟨Nat.zero_le _, Nat.zero_le _⟩ dX6_setTons_46 (fun H locs hP hS => ?_)
          exact xt_iret hx hb hr hP hS (rs_1 hf) (rs_2 hf) dX6_setTons_49 hlocks
      · have hf := (if_neg c4).symm.trans hf
        refine lv_bipush (v := (-12)) hx hb dX6_setTons_25 (by decide) ?_
        exact xt_iret hx hb hr hP hS (rs_1 hf) (rs_2 hf) dX6_setTons_27 hlocks
  · have hf := (if_pos c2).symm.trans hf
    refine lv_bipush (v := (-11)) hx hb dX6_setTons_11 (by decide) ?_
    exact xt_iret hx hb hr hP hS (rs_1 hf) (rs_2 hf) dX6_setTons_13 hlocks
