def fX1_takeFrom (h : Nat) (h2 : Nat) (σ : St) : Option St :=
  gd (okC 0 0 8 8 8) <| nm (sr σ ((33 + 5 * h) + 1) (va_cpy (σ ((33 + 5 * h2) + 1)) (σ ((33 + 5 * h) + 1)) (0 : Int32).toNatClampNeg (0 : Int32).toNatClampNeg (8 : Int32).toNatClampNeg)) fun σ2 => gd (okC 0 0 8 8 8) <| gd (okBs (σ2 ((33 + 5 * h2) + 2)) (0 : Int32).toNatClampNeg (8 : Int32).toNatClampNeg) <| nm (sr σ2 ((33 + 5 * h) + 2) (va_cpy (σ2 ((33 + 5 * h2) + 2)) (σ2 ((33 + 5 * h) + 2)) (0 : Int32).toNatClampNeg (0 : Int32).toNatClampNeg (8 : Int32).toNatClampNeg)) fun σ5 => gd (okC 0 0 24 24 24) <| nm (sr σ5 ((33 + 5 * h) + 3) (va_cpy (σ5 ((33 + 5 * h2) + 3)) (σ5 ((33 + 5 * h) + 3)) (0 : Int32).toNatClampNeg (0 : Int32).toNatClampNeg (24 : Int32).toNatClampNeg)) fun σ7 => gd (okC 0 0 24 24 24) <| nm (sr σ7 ((33 + 5 * h) + 4) (va_cpy (σ7 ((33 + 5 * h2) + 4)) (σ7 ((33 + 5 * h) + 4)) (0 : Int32).toNatClampNeg (0 : Int32).toNatClampNeg (24 : Int32).toNatClampNeg)) fun σ9 => nm (su σ9 (33 + 5 * h) 4 (σ9 (33 + 5 * h2) 4)) fun σ10 => nm (su σ10 (33 + 5 * h) 5 (σ10 (33 + 5 * h2) 5)) fun σ11 => nm (su σ11 (33 + 5 * h) 6 (σ11 (33 + 5 * h2) 6)) fun σ12 => nm (su σ12 (33 + 5 * h) 7 (σ12 (33 + 5 * h2) 7)) fun σ13 => some σ13
abbrev rmX1_takeFrom : Room := { frames := 1, cells := 0, slots := 0, locals := 64 }
theorem dmX1_takeFrom : yX1_takeFrom.cls = RX1 ∧ yX1_takeFrom.cls ≠ "java/lang/invoke/MethodHandle" ∧ yX1_takeFrom.cls ≠ "java/lang/invoke/VarHandle" ∧ (parseMethodDescriptor yX1_takeFrom.desc).map (fun d => d.parameters.length) = some 1 := by decide +kernel
theorem iX1_takeFrom_X1 : ∀ w ∈ wsX10, w ∈ wsX1_takeFrom := fun w h => List.mem_cons_of_mem _ (List.mem_append_right _ (h))
set_option maxHeartbeats 8000000 in
set_option maxRecDepth 100000 in
theorem mX1_takeFrom (l : Launch) (dC : Nat → ClassId) (dI : Nat → Nat → Nat) (ad : Nat → Nat) (cy : Nat → ClassId) (hJ : WJ 93 ad) (h : Nat) (hh : h < 12) (h2 : Nat) (hh2 : h2 < 12) (σ : St) (res : St) (hf : fX1_takeFrom h h2 σ = some res) : CMv l yX1_takeFrom wsX1_takeFrom rmX1_takeFrom (dC, dI) (tysX cy) 93 ad (layX ad cy) [.ref (ad (33 + 5 * h)), .ref (ad (33 + 5 * h2))] σ res := by
  refine Met.ofW (cc := cX1_takeFrom) (maxL := 2) (ret := none) (by decide) rfl ?_
  intro p e s m args below meth c s₁ B hml hv
  obtain ⟨hargs, hP, hK⟩ := hv
  have hx := B.exec
  have hb := B.bytes
  have hr := B.returns
  have hts := atoms_spec (ws := wsX1_takeFrom) B.pre
  have hown : s.vm.findClass RX1 = some m.cls := findClass_of_methodNamed B.named
  have hlocks := B.notSynchronized
  have w1 := hts (.fieldLink RX1 9 "PierRings$Harbour" "berths" "[I") (List.mem_of_getElem? (i := 1) rfl)
  have w2 := hts (.methodLink RX1 38 arraycopyName) (List.mem_of_getElem? (i := 2) rfl)
  have w3 := hts (.native arraycopyName) (List.mem_of_getElem? (i := 3) rfl)
  have w4 := hts (.static arraycopyName) (List.mem_of_getElem? (i := 4) rfl)
  have w5 := hts (.initialized "java/lang/System") (List.mem_of_getElem? (i := 5) rfl)
  have w6 := hts (.fieldLink RX1 15 "PierRings$Harbour" "opened" "[Z") (List.mem_of_getElem? (i := 6) rfl)
  have w7 := hts (.fieldLink RX1 19 "PierRings$Harbour" "names" "[I") (List.mem_of_getElem? (i := 7) rfl)
  have w8 := hts (.fieldLink RX1 22 "PierRings$Harbour" "tons" "[I") (List.mem_of_getElem? (i := 8) rfl)
  have w9 := hts (.fieldLink RX1 25 "PierRings$Harbour" "piers" "I") (List.mem_of_getElem? (i := 9) rfl)
  have w10 := hts (.fieldLink RX1 29 "PierRings$Harbour" "barges" "I") (List.mem_of_getElem? (i := 10) rfl)
  have w11 := hts (.fieldLink RX1 32 "PierRings$Harbour" "berthTons" "I") (List.mem_of_getElem? (i := 11) rfl)
  have w12 := hts (.fieldLink RX1 35 "PierRings$Harbour" "movedHomes" "I") (List.mem_of_getElem? (i := 12) rfl)
  have hS : va_S (WA 93 ad) s.heap s.heap [] := va_S.rf
  have hfr : entryFrame m args 2 = F0 m 0 ((lg_sl [.ref (ad (33 + 5 * h)), .ref (ad (33 + 5 * h2))] ++ List.replicate (2 - (lg_sl [.ref (ad (33 + 5 * h)), .ref (ad (33 + 5 * h2))]).length) Slot.unset).toArray) [] := by rw [hargs]; exact lg_entry_eq _ _ _
  rw [hfr]
  have hl := lv_entry ([.ref (ad (33 + 5 * h)), .ref (ad (33 + 5 * h2))]) (n := 2) (Nat.le_of_ble_eq_true rfl)
  generalize (lg_sl [.ref (ad (33 + 5 * h)), .ref (ad (33 + 5 * h2))] ++ List.replicate (2 - (lg_sl [.ref (ad (33 + 5 * h)), .ref (ad (33 + 5 * h2))]).length) Slot.unset).toArray = ls at hl ⊢
  have hl : lv_has ls 2 [(0, .ref (ad (33 + 5 * h))), (1, .ref (ad (33 + 5 * h2)))] := hl
  clear hfr hargs B
  show W p l e rmX1_takeFrom s m args below meth c s.heap [] 0 0 (MQ below (Qvw (dC, dI) 93 ad (layX ad cy) res) args s 0 0 (WA 93 ad)) (F0 m 0 ls [])
  unfold fX1_takeFrom at hf
  obtain ⟨H, eH⟩ : ∃ H : Heap, H = s.heap := ⟨_, rfl⟩
  rw [← eH] at hP
  have hS : va_S (WA 93 ad) s.heap H [] := by rw [eH]; exact hS
  suffices K : W p l e rmX1_takeFrom s m args below meth c H [] 0 0 (MQ below (Qvw (dC, dI) 93 ad (layX ad cy) res) args s 0 0 (WA 93 ad)) (F0 m 0 ls []) by rw [eH] at K; exact K
  clear eH
  obtain ⟨locs, elocs⟩ : ∃ z : List Loc, z = [] := ⟨_, rfl⟩
  rw [← elocs] at hS ⊢
  refine lv_aload_n hx hb dX1_takeFrom_0 rfl (lv_at hl 1 rfl) ?_
  refine xt_get (ci := 1) (C := RX1) (T := TX1) (n := 8) (v := .ref (ad ((33 + 5 * h2) + 1))) hx hb hts iX1_takeFrom_X1 hown hK hP (33 + 5 * h2) (by omega) (LX1_obj ad cy h2 hh2 _) rfl 0 (by decide) w1 rfl dX1_takeFrom_1 ?_
  refine lv_iconst (v := 0) hx hb dX1_takeFrom_4 (by decide) ?_
  refine lv_aload_n hx hb dX1_takeFrom_5 rfl (lv_at hl 0 rfl) ?_
  refine xt_get (ci := 1) (C := RX1) (T := TX1) (n := 8) (v := .ref (ad ((33 + 5 * h) + 1))) hx hb hts iX1_takeFrom_X1 hown hK hP (33 + 5 * h) (by omega) (LX1_obj ad cy h hh _) rfl 0 (by decide) w1 rfl dX1_takeFrom_6 ?_
  refine lv_iconst (v := 0) hx hb dX1_takeFrom_9 (by decide) ?_
  refine lv_bipush (v := 8) hx hb dX1_takeFrom_10 (by decide) ?_
  obtain ⟨g1, hf⟩ := gd_some hf
  refine xt_copy (ty := .int) hx hb (hml.trans hl.1.symm) hown w2 w3 w4 w5 hK hP hJ hS ((33 + 5 * h2) + 1) ((33 + 5 * h) + 1) 0 (by omega) (by omega) (LX1_berths ad cy h2 hh2) (LX1_berths ad cy h hh) rfl rfl g1 (fun _ _ => rfl) (Nat.le_of_ble_eq_true rfl) (Nat.le_of_ble_eq_true rfl) dX1_takeFrom_12 (fun H locs hP hS => ?_)
  obtain ⟨σ2, eσ2⟩ : ∃ z : St, z = sr σ ((33 + 5 * h) + 1) (va_cpy (σ ((33 + 5 * h2) + 1)) (σ ((33 + 5 * h) + 1)) (0 : Int32).toNatClampNeg (0 : Int32).toNatClampNeg (8 : Int32).toNatClampNeg) := ⟨_, rfl⟩
  rw [← eσ2] at hP
  have hf := nm_to hf eσ2
  refine lv_aload_n hx hb dX1_takeFrom_15 rfl (lv_at hl 1 rfl) ?_
  refine xt_get (ci := 1) (C := RX1) (T := TX1) (n := 8) (v := .ref (ad ((33 + 5 * h2) + 2))) hx hb hts iX1_takeFrom_X1 hown hK hP (33 + 5 * h2) (by omega) (LX1_obj ad cy h2 hh2 _) rfl 1 (by decide) w6 rfl dX1_takeFrom_16 ?_
  refine lv_iconst (v := 0) hx hb dX1_takeFrom_19 (by decide) ?_
  refine lv_aload_n hx hb dX1_takeFrom_20 rfl (lv_at hl 0 rfl) ?_
  refine xt_get (ci := 1) (C := RX1) (T := TX1) (n := 8) (v := .ref (ad ((33 + 5 * h) + 2))) hx hb hts iX1_takeFrom_X1 hown hK hP (33 + 5 * h) (by omega) (LX1_obj ad cy h hh _) rfl 1 (by decide) w6 rfl dX1_takeFrom_21 ?_
  refine lv_iconst (v := 0) hx hb dX1_takeFrom_24 (by decide) ?_
  refine lv_bipush (v := 8) hx hb dX1_takeFrom_25 (by decide) ?_
  obtain ⟨g3, hf⟩ := gd_some hf
  obtain ⟨g4, hf⟩ := gd_some hf
  refine xt_copy (ty := .boolean) hx hb (hml.trans hl.1.symm) hown w2 w3 w4 w5 hK hP hJ hS ((33 + 5 * h2) + 2) ((33 + 5 * h) + 2) 1 (by omega) (by omega) (LX1_opened ad cy h2 hh2) (LX1_opened ad cy h hh) rfl rfl g3 (okBs_fit g4) (Nat.le_of_ble_eq_true rfl) (Nat.le_of_ble_eq_true rfl) dX1_takeFrom_27 (fun H locs hP hS => ?_)
  obtain ⟨σ5, eσ5⟩ : ∃ z : St, z = sr σ2 ((33 + 5 * h) + 2) (va_cpy (σ2 ((33 + 5 * h2) + 2)) (σ2 ((33 + 5 * h) + 2)) (0 : Int32).toNatClampNeg (0 : Int32).toNatClampNeg (8 : Int32).toNatClampNeg) := ⟨_, rfl⟩
  rw [← eσ5] at hP
  have hf := nm_to hf eσ5
  refine lv_aload_n hx hb dX1_takeFrom_30 rfl (lv_at hl 1 rfl) ?_
  refine xt_get (ci := 1) (C := RX1) (T := TX1) (n := 8) (v := .ref (ad ((33 + 5 * h2) + 3))) hx hb hts iX1_takeFrom_X1 hown hK hP (33 + 5 * h2) (by omega) (LX1_obj ad cy h2 hh2 _) rfl 2 (by decide) w7 rfl dX1_takeFrom_31 ?_
  refine lv_iconst (v := 0) hx hb dX1_takeFrom_34 (by decide) ?_
  refine lv_aload_n hx hb dX1_takeFrom_35 rfl (lv_at hl 0 rfl) ?_
  refine xt_get (ci := 1) (C := RX1) (T := TX1) (n := 8) (v := .ref (ad ((33 + 5 * h) + 3))) hx hb hts iX1_takeFrom_X1 hown hK hP (33 + 5 * h) (by omega) (LX1_obj ad cy h hh _) rfl 2 (by decide) w7 rfl dX1_takeFrom_36 ?_
  refine lv_iconst (v := 0) hx hb dX1_takeFrom_39 (by decide) ?_
  refine lv_bipush (v := 24) hx hb dX1_takeFrom_40 (by decide) ?_
  obtain ⟨g6, hf⟩ := gd_some hf
  refine xt_copy (ty := .int) hx hb (hml.trans hl.1.symm) hown w2 w3 w4 w5 hK hP hJ hS ((33 + 5 * h2) + 3) ((33 + 5 * h) + 3) 0 (by omega) (by omega) (LX1_names ad cy h2 hh2) (LX1_names ad cy h hh) rfl rfl g6 (fun _ _ => rfl) (Nat.le_of_ble_eq_true rfl) (Nat.le_of_ble_eq_true rfl) dX1_takeFrom_42 (fun H locs hP hS => ?_)
  obtain ⟨σ7, eσ7⟩ : ∃ z : St, z = sr σ5 ((33 + 5 * h) + 3) (va_cpy (σ5 ((33 + 5 * h2) + 3)) (σ5 ((33 + 5 * h) + 3)) (0 : Int32).toNatClampNeg (0 : Int32).toNatClampNeg (24 : Int32).toNatClampNeg) := ⟨_, rfl⟩
  rw [← eσ7] at hP
  have hf := nm_to hf eσ7
  refine lv_aload_n hx hb dX1_takeFrom_45 rfl (lv_at hl 1 rfl) ?_
  refine xt_get (ci := 1) (C := RX1) (T := TX1) (n := 8) (v := .ref (ad ((33 + 5 * h2) + 4))) hx hb hts iX1_takeFrom_X1 hown hK hP (33 + 5 * h2) (by omega) (LX1_obj ad cy h2 hh2 _) rfl 3 (by decide) w8 rfl dX1_takeFrom_46 ?_
  refine lv_iconst (v := 0) hx hb dX1_takeFrom_49 (by decide) ?_
  refine lv_aload_n hx hb dX1_takeFrom_50 rfl (lv_at hl 0 rfl) ?_
  refine xt_get (ci := 1) (C := RX1) (T := TX1) (n := 8) (v := .ref (ad ((33 + 5 * h) + 4))) hx hb hts iX1_takeFrom_X1 hown hK hP (33 + 5 * h) (by omega) (LX1_obj ad cy h hh _) rfl 3 (by decide) w8 rfl dX1_takeFrom_51 ?_
  refine lv_iconst (v := 0) hx hb dX1_takeFrom_54 (by decide) ?_
  refine lv_bipush (v := 24) hx hb dX1_takeFrom_55 (by decide) ?_
  obtain ⟨g8, hf⟩ := gd_some hf
  refine xt_copy (ty := .int) hx hb (hml.trans hl.1.symm) hown w2 w3 w4 w5 hK hP hJ hS ((33 + 5 * h2) + 4) ((33 + 5 * h) + 4) 0 (by omega) (by omega) (LX1_tons ad cy h2 hh2) (LX1_tons ad cy h hh) rfl rfl g8 (fun _ _ => rfl) (Nat.le_of_ble_eq_true rfl) (Nat.le_of_ble_eq_true rfl) dX1_takeFrom_57 (fun H locs hP hS => ?_)
  obtain ⟨σ9, eσ9⟩ : ∃ z : St, z = sr σ7 ((33 + 5 * h) + 4) (va_cpy (σ7 ((33 + 5 * h2) + 4)) (σ7 ((33 + 5 * h) + 4)) (0 : Int32).toNatClampNeg (0 : Int32).toNatClampNeg (24 : Int32).toNatClampNeg) := ⟨_, rfl⟩
  rw [← eσ9] at hP
  have hf := nm_to hf eσ9
  refine lv_aload_n hx hb dX1_takeFrom_60 rfl (lv_at hl 0 rfl) ?_
  refine lv_aload_n hx hb dX1_takeFrom_61 rfl (lv_at hl 1 rfl) ?_
  refine xt_get (ci := 1) (C := RX1) (T := TX1) (n := 8) (v := .int (σ9 (33 + 5 * h2) 4)) hx hb hts iX1_takeFrom_X1 hown hK hP (33 + 5 * h2) (by omega) (LX1_obj ad cy h2 hh2 _) rfl 4 (by decide) w9 rfl dX1_takeFrom_62 ?_
  refine xt_put (ci := 1) (C := RX1) (T := TX1) (n := 8) hx hb hts iX1_takeFrom_X1 tyX1 tyX1_ok nmX1 hown hK hP hJ hS (33 + 5 * h) (by omega) (LX1_obj ad cy h hh _) rfl 4 (by decide) w9 rfl (v := (σ9 (33 + 5 * h2) 4)) rfl rfl (Nat.le_of_ble_eq_true rfl) (LX1_obj ad cy h hh _) dX1_takeFrom_65 (fun H locs hP hS => ?_)
  obtain ⟨σ10, eσ10⟩ : ∃ z : St, z = su σ9 (33 + 5 * h) 4 (σ9 (33 + 5 * h2) 4) := ⟨_, rfl⟩
  rw [← eσ10] at hP
  have hf := nm_to hf eσ10
  refine lv_aload_n hx hb dX1_takeFrom_68 rfl (lv_at hl 0 rfl) ?_
  refine lv_aload_n hx hb dX1_takeFrom_69 rfl (lv_at hl 1 rfl) ?_
  refine xt_get (ci := 1) (C := RX1) (T := TX1) (n := 8) (v := .int (σ10 (33 + 5 * h2) 5)) hx hb hts iX1_takeFrom_X1 hown hK hP (33 + 5 * h2) (by omega) (LX1_obj ad cy h2 hh2 _) rfl 5 (by decide) w10 rfl dX1_takeFrom_70 ?_
  refine xt_put (ci := 1) (C := RX1) (T := TX1) (n := 8) hx hb hts iX1_takeFrom_X1 tyX1 tyX1_ok nmX1 hown hK hP hJ hS (33 + 5 * h) (by omega) (LX1_obj ad cy h hh _) rfl 5 (by decide) w10 rfl (v := (σ10 (33 + 5 * h2) 5)) rfl rfl (Nat.le_of_ble_eq_true rfl) (LX1_obj ad cy h hh _) dX1_takeFrom_73 (fun H locs hP hS => ?_)
  obtain ⟨σ11, eσ11⟩ : ∃ z : St, z = su σ10 (33 + 5 * h) 5 (σ10 (33 + 5 * h2) 5) := ⟨_, rfl⟩
  rw [← eσ11] at hP
  have hf := nm_to hf eσ11
  refine lv_aload_n hx hb dX1_takeFrom_76 rfl (lv_at hl 0 rfl) ?_
  refine lv_aload_n hx hb dX1_takeFrom_77 rfl (lv_at hl 1 rfl) ?_
  refine xt_get (ci := 1) (C := RX1) (T := TX1) (n := 8) (v := .int (σ11 (33 + 5 * h2) 6)) hx hb hts iX1_takeFrom_X1 hown hK hP (33 + 5 * h2) (by omega) (LX1_obj ad cy h2 hh2 _) rfl 6 (by decide) w11 rfl dX1_takeFrom_78 ?_
  refine xt_put (ci := 1) (C := RX1) (T := TX1) (n := 8) hx hb hts iX1_takeFrom_X1 tyX1 tyX1_ok nmX1 hown hK hP hJ hS (33 + 5 * h) (by omega) (LX1_obj ad cy h hh _) rfl 6 (by decide) w11 rfl (v := (σ11 (33 + 5 * h2) 6)) rfl rfl (Nat.le_of_ble_eq_true rfl) (LX1_obj ad cy h hh _) dX1_takeFrom_81 (fun H locs hP hS => ?_)
  obtain ⟨σ12, eσ12⟩ : ∃ z : St, z = su σ11 (33 + 5 * h) 6 (σ11 (33 + 5 * h2) 6) := ⟨_, rfl⟩
  rw [← eσ12] at hP
  have hf := nm_to hf eσ12
  refine lv_aload_n hx hb dX1_takeFrom_84 rfl (lv_at hl 0 rfl) ?_
  refine lv_aload_n hx hb dX1_takeFrom_85 rfl (lv_at hl 1 rfl) ?_
  refine xt_get (ci := 1) (C := RX1) (T := TX1) (n := 8) (v := .int (σ12 (33 + 5 * h2) 7)) hx hb hts iX1_takeFrom_X1 hown hK hP (33 + 5 * h2) (by omega) (LX1_obj ad cy h2 hh2 _) rfl 7 (by decide) w12 rfl dX1_takeFrom_86 ?_
  refine xt_put (ci := 1) (C := RX1) (T := TX1) (n := 8) hx hb hts iX1_takeFrom_X1 tyX1 tyX1_ok nmX1 hown hK hP hJ hS (33 + 5 * h) (by omega) (LX1_obj ad cy h hh _) rfl 7 (by decide) w12 rfl (v := (σ12 (33 + 5 * h2) 7)) rfl rfl (Nat.le_of_ble_eq_true rfl) (LX1_obj ad cy h hh _) dX1_takeFrom_89 (fun H locs hP hS => ?_)
  obtain ⟨σ13, eσ13⟩ : ∃ z : St, z = su σ12 (33 + 5 * h) 7 (σ12 (33 + 5 * h2) 7) := ⟨_, rfl⟩
  rw [← eσ13] at hP
  have hf := nm_to hf eσ13
  exact xt_vret hx hb hr hP hS (Option.some.inj hf) dX1_takeFrom_92 hlocks
def fX1_hasPier (h : Nat) (σ : St) (a1 : Int32) : Option Int32 :=
  if a1 < 0 then (some (0 : Int32)) else (if (σ (33 + 5 * h) 4) ≤ a1 then (some (0 : Int32)) else (some (1 : Int32)))
abbrev rmX1_hasPier : Room := { frames := 0, cells := 0, slots := 0, locals := 0 }
theorem dmX1_hasPier : yX1_hasPier.cls = RX1 ∧ yX1_hasPier.cls ≠ "java/lang/invoke/MethodHandle" ∧ yX1_hasPier.cls ≠ "java/lang/invoke/VarHandle" ∧ (parseMethodDescriptor yX1_hasPier.desc).map (fun d => d.parameters.length) = some 1 := by decide +kernel
theorem iX1_hasPier_X1 : ∀ w ∈ wsX10, w ∈ wsX1_hasPier := fun w h => List.mem_cons_of_mem _ (List.mem_append_right _ (h))
set_option maxHeartbeats 8000000 in
set_option maxRecDepth 100000 in
theorem mX1_hasPier (l : Launch) (dC : Nat → ClassId) (dI : Nat → Nat → Nat) (ad : Nat → Nat) (cy : Nat → ClassId) (hJ : WJ 93 ad) (h : Nat) (hh : h < 12) (σ : St) (a1 : Int32) (res : Int32) (hf : fX1_hasPier h σ a1 = some res) : CMi l yX1_hasPier wsX1_hasPier rmX1_hasPier (dC, dI) (tysX cy) 93 ad (layX ad cy) [.ref (ad (33 + 5 * h)), .int a1] σ res σ := by
  refine Met.ofW (cc := cX1_hasPier) (maxL := 2) (ret := (some .boolean)) (by decide) rfl ?_
  intro p e s m args below meth c s₁ B hml hv
  obtain ⟨hargs, hP, hK⟩ := hv
  have hx := B.exec
  have hb := B.bytes
  have hr := B.returns
  have hts := atoms_spec (ws := wsX1_hasPier) B.pre
  have hown : s.vm.findClass RX1 = some m.cls := findClass_of_methodNamed B.named
  have hlocks := B.notSynchronized
  have w1 := hts (.fieldLink RX1 25 "PierRings$Harbour" "piers" "I") (List.mem_of_getElem? (i := 1) rfl)
  have hS : va_S (WA 93 ad) s.heap s.heap [] := va_S.rf
  have hfr : entryFrame m args 2 = F0 m 0 ((lg_sl [.ref (ad (33 + 5 * h)), .int a1] ++ List.replicate (2 - (lg_sl [.ref (ad (33 + 5 * h)), .int a1]).length) Slot.unset).toArray) [] := by rw [hargs]; exact lg_entry_eq _ _ _
  rw [hfr]
  have hl := lv_entry ([.ref (ad (33 + 5 * h)), .int a1]) (n := 2) (Nat.le_of_ble_eq_true rfl)
  generalize (lg_sl [.ref (ad (33 + 5 * h)), .int a1] ++ List.replicate (2 - (lg_sl [.ref (ad (33 + 5 * h)), .int a1]).length) Slot.unset).toArray = ls at hl ⊢
  have hl : lv_has ls 2 [(0, .ref (ad (33 + 5 * h))), (1, .int a1)] := hl
  clear hfr hargs B
  show W p l e rmX1_hasPier s m args below meth c s.heap [] 0 0 (MQ below (Qiw (dC, dI) 93 ad (layX ad cy) res σ) args s 0 0 (WA 93 ad)) (F0 m 0 ls [])
  unfold fX1_hasPier at hf
  obtain ⟨H, eH⟩ : ∃ H : Heap, H = s.heap := ⟨_, rfl⟩
  rw [← eH] at hP
  have hS : va_S (WA 93 ad) s.heap H [] := by rw [eH]; exact hS
  suffices K : W p l e rmX1_hasPier s m args below meth c H [] 0 0 (MQ below (Qiw (dC, dI) 93 ad (layX ad cy) res σ) args s 0 0 (WA 93 ad)) (F0 m 0 ls []) by rw [eH] at K; exact K
  clear eH
  obtain ⟨locs, elocs⟩ : ∃ z : List Loc, z = [] := ⟨_, rfl⟩
  rw [← elocs] at hS ⊢
  refine lv_iload_n hx hb dX1_hasPier_0 rfl (lv_at hl 1 rfl) ?_
  refine lv_if_lt (tgt := 16) hx hb dX1_hasPier_1 (by decide) (fun c1 => ?_) (fun c1 => ?_)
  · have hf := (if_pos c1).symm.trans hf
    refine lv_iconst (v := 0) hx hb dX1_hasPier_16 (by decide) ?_
    exact xt_zret hx hb hr rfl hP hS (Option.some.inj hf) rfl dX1_hasPier_17 hlocks
  · have hf := (if_neg c1).symm.trans hf
    refine lv_iload_n hx hb dX1_hasPier_4 rfl (lv_at hl 1 rfl) ?_
    refine lv_aload_n hx hb dX1_hasPier_5 rfl (lv_at hl 0 rfl) ?_
    refine xt_get (ci := 1) (C := RX1) (T := TX1) (n := 8) (v := .int (σ (33 + 5 * h) 4)) hx hb hts iX1_hasPier_X1 hown hK hP (33 + 5 * h) (by omega) (LX1_obj ad cy h hh _) rfl 4 (by decide) w1 rfl dX1_hasPier_6 ?_
    refine lv_icmp_ge (tgt := 16) hx hb dX1_hasPier_9 (by decide) (fun c2 => ?_) (fun c2 => ?_)
    · have hf := (if_pos c2).symm.trans hf
      refine lv_iconst (v := 0) hx hb dX1_hasPier_16 (by decide) ?_
      exact xt_zret hx hb hr rfl hP hS (Option.some.inj hf) rfl dX1_hasPier_17 hlocks
    · have hf := (if_neg c2).symm.trans hf
      refine lv_iconst (v := 1) hx hb dX1_hasPier_12 (by decide) ?_
      refine lv_goto (tgt := 17) hx hb dX1_hasPier_13 (by decide) ?_
      exact xt_zret hx hb hr rfl hP hS (Option.some.inj hf) rfl dX1_hasPier_17 hlocks
def fX1_hasBarge (h : Nat) (σ : St) (a1 : Int32) : Option Int32 :=
  if a1 < 0 then (some (0 : Int32)) else (if (σ (33 + 5 * h) 5) ≤ a1 then (some (0 : Int32)) else (some (1 : Int32)))
abbrev rmX1_hasBarge : Room := { frames := 0, cells := 0, slots := 0, locals := 0 }
theorem dmX1_hasBarge : yX1_hasBarge.cls = RX1 ∧ yX1_hasBarge.cls ≠ "java/lang/invoke/MethodHandle" ∧ yX1_hasBarge.cls ≠ "java/lang/invoke/VarHandle" ∧ (parseMethodDescriptor yX1_hasBarge.desc).map (fun d => d.parameters.length) = some 1 := by decide +kernel
theorem iX1_hasBarge_X1 : ∀ w ∈ wsX10, w ∈ wsX1_hasBarge := fun w h => List.mem_cons_of_mem _ (List.mem_append_right _ (h))
set_option maxHeartbeats 8000000 in
set_option maxRecDepth 100000 in
theorem mX1_hasBarge (l : Launch) (dC : Nat → ClassId) (dI : Nat → Nat → Nat) (ad : Nat → Nat) (cy : Nat → ClassId) (hJ : WJ 93 ad) (h : Nat) (hh : h < 12) (σ : St) (a1 : Int32) (res : Int32) (hf : fX1_hasBarge h σ a1 = some res) : CMi l yX1_hasBarge wsX1_hasBarge rmX1_hasBarge (dC, dI) (tysX cy) 93 ad (layX ad cy) [.ref (ad (33 + 5 * h)), .int a1] σ res σ := by
  refine Met.ofW (cc := cX1_hasBarge) (maxL := 2) (ret := (some .boolean)) (by decide) rfl ?_
  intro p e s m args below meth c s₁ B hml hv
  obtain ⟨hargs, hP, hK⟩ := hv
  have hx := B.exec
  have hb := B.bytes
  have hr := B.returns
  have hts := atoms_spec (ws := wsX1_hasBarge) B.pre
  have hown : s.vm.findClass RX1 = some m.cls := findClass_of_methodNamed B.named
  have hlocks := B.notSynchronized
  have w1 := hts (.fieldLink RX1 29 "PierRings$Harbour" "barges" "I") (List.mem_of_getElem? (i := 1) rfl)
  have hS : va_S (WA 93 ad) s.heap s.heap [] := va_S.rf
  have hfr : entryFrame m args 2 = F0 m 0 ((lg_sl [.ref (ad (33 + 5 * h)), .int a1] ++ List.replicate (2 - (lg_sl [.ref (ad (33 + 5 * h)), .int a1]).length) Slot.unset).toArray) [] := by rw [hargs]; exact lg_entry_eq _ _ _
  rw [hfr]
  have hl := lv_entry ([.ref (ad (33 + 5 * h)), .int a1]) (n := 2) (Nat.le_of_ble_eq_true rfl)
  generalize (lg_sl [.ref (ad (33 + 5 * h)), .int a1] ++ List.replicate (2 - (lg_sl [.ref (ad (33 + 5 * h)), .int a1]).length) Slot.unset).toArray = ls at hl ⊢
  have hl : lv_has ls 2 [(0, .ref (ad (33 + 5 * h))), (1, .int a1)] := hl
  clear hfr hargs B
  show W p l e rmX1_hasBarge s m args below meth c s.heap [] 0 0 (MQ below (Qiw (dC, dI) 93 ad (layX ad cy) res σ) args s 0 0 (WA 93 ad)) (F0 m 0 ls [])
  unfold fX1_hasBarge at hf
  obtain ⟨H, eH⟩ : ∃ H : Heap, H = s.heap := ⟨_, rfl⟩
  rw [← eH] at hP
  have hS : va_S (WA 93 ad) s.heap H [] := by rw [eH]; exact hS
  suffices K : W p l e rmX1_hasBarge s m args below meth c H [] 0 0 (MQ below (Qiw (dC, dI) 93 ad (layX ad cy) res σ) args s 0 0 (WA 93 ad)) (F0 m 0 ls []) by rw [eH] at K; exact K
  clear eH
  obtain ⟨locs, elocs⟩ : ∃ z : List Loc, z = [] := ⟨_, rfl⟩
  rw [← elocs] at hS ⊢
  refine lv_iload_n hx hb dX1_hasBarge_0 rfl (lv_at hl 1 rfl) ?_
  refine lv_if_lt (tgt := 16) hx hb dX1_hasBarge_1 (by decide) (fun c1 => ?_) (fun c1 => ?_)
  · have hf := (if_pos c1).symm.trans hf
    refine lv_iconst (v := 0) hx hb dX1_hasBarge_16 (by decide) ?_
    exact xt_zret hx hb hr rfl hP hS (Option.some.inj hf) rfl dX1_hasBarge_17 hlocks
  · have hf := (if_neg c1).symm.trans hf
    refine lv_iload_n hx hb dX1_hasBarge_4 rfl (lv_at hl 1 rfl) ?_
    refine lv_aload_n hx hb dX1_hasBarge_5 rfl (lv_at hl 0 rfl) ?_
    refine xt_get (ci := 1) (C := RX1) (T := TX1) (n := 8) (v := .int (σ (33 + 5 * h) 5)) hx hb hts iX1_hasBarge_X1 hown hK hP (33 + 5 * h) (by omega) (LX1_obj ad cy h hh _) rfl 5 (by decide) w1 rfl dX1_hasBarge_6 ?_
    refine lv_icmp_ge (tgt := 16) hx hb dX1_hasBarge_9 (by decide) (fun c2 => ?_) (fun c2 => ?_)
    · have hf := (if_pos c2).symm.trans hf
      refine lv_iconst (v := 0) hx hb dX1_hasBarge_16 (by decide) ?_
      exact xt_zret hx hb hr rfl hP hS (Option.some.inj hf) rfl dX1_hasBarge_17 hlocks
    · have hf := (if_neg c2).symm.trans hf
      refine lv_iconst (v := 1) hx hb dX1_hasBarge_12 (by decide) ?_
      refine lv_goto (tgt := 17) hx hb dX1_hasBarge_13 (by decide) ?_
      exact xt_zret hx hb hr rfl hP hS (Option.some.inj hf) rfl dX1_hasBarge_17 hlocks
def fX1_addPier (h : Nat) (σ : St) (a1 : Int32) : Option St :=
  if (8 : Int32) ≤ (σ (33 + 5 * h) 4) then (some σ) else (gd (okI (σ (33 + 5 * h) 4) 8) <| nm (su σ ((33 + 5 * h) + 1) (σ (33 + 5 * h) 4).toNatClampNeg a1) fun σ3 => gd (okI (σ3 (33 + 5 * h) 4) 8) <| nm (su σ3 ((33 + 5 * h) + 2) (σ3 (33 + 5 * h) 4).toNatClampNeg (vp_nar .boolean 1)) fun σ5 => nm (su σ5 (33 + 5 * h) 4 ((σ5 (33 + 5 * h) 4) + 1)) fun σ6 => some σ6)
abbrev rmX1_addPier : Room := { frames := 0, cells := 0, slots := 0, locals := 0 }
theorem dmX1_addPier : yX1_addPier.cls = RX1 ∧ yX1_addPier.cls ≠ "java/lang/invoke/MethodHandle" ∧ yX1_addPier.cls ≠ "java/lang/invoke/VarHandle" ∧ (parseMethodDescriptor yX1_addPier.desc).map (fun d => d.parameters.length) = some 1 := by decide +kernel
theorem iX1_addPier_X1 : ∀ w ∈ wsX10, w ∈ wsX1_addPier := fun w h => List.mem_cons_of_mem _ (List.mem_append_right _ (h))
set_option maxHeartbeats 8000000 in
set_option maxRecDepth 100000 in
theorem mX1_addPier (l : Launch) (dC : Nat → ClassId) (dI : Nat → Nat → Nat) (ad : Nat → Nat) (cy : Nat → ClassId) (hJ : WJ 93 ad) (h : Nat) (hh : h < 12) (σ : St) (a1 : Int32) (res : St) (hf : fX1_addPier h σ a1 = some res) : CMv l yX1_addPier wsX1_addPier rmX1_addPier (dC, dI) (tysX cy) 93 ad (layX ad cy) [.ref (ad (33 + 5 * h)), .int a1] σ res := by
  refine Met.ofW (cc := cX1_addPier) (maxL := 2) (ret := none) (by decide) rfl ?_
  intro p e s m args below meth c s₁ B hml hv
  obtain ⟨hargs, hP, hK⟩ := hv
  have hx := B.exec
  have hb := B.bytes
  have hr := B.returns
  have hts := atoms_spec (ws := wsX1_addPier) B.pre
  have hown : s.vm.findClass RX1 = some m.cls := findClass_of_methodNamed B.named
  have hlocks := B.notSynchronized
  have w1 := hts (.fieldLink RX1 25 "PierRings$Harbour" "piers" "I") (List.mem_of_getElem? (i := 1) rfl)
  have w2 := hts (.fieldLink RX1 9 "PierRings$Harbour" "berths" "[I") (List.mem_of_getElem? (i := 2) rfl)
  have w3 := hts (.fieldLink RX1 15 "PierRings$Harbour" "opened" "[Z") (List.mem_of_getElem? (i := 3) rfl)
  have hS : va_S (WA 93 ad) s.heap s.heap [] := va_S.rf
  have hfr : entryFrame m args 2 = F0 m 0 ((lg_sl [.ref (ad (33 + 5 * h)), .int a1] ++ List.replicate (2 - (lg_sl [.ref (ad (33 + 5 * h)), .int a1]).length) Slot.unset).toArray) [] := by rw [hargs]; exact lg_entry_eq _ _ _
  rw [hfr]
  have hl := lv_entry ([.ref (ad (33 + 5 * h)), .int a1]) (n := 2) (Nat.le_of_ble_eq_true rfl)
  generalize (lg_sl [.ref (ad (33 + 5 * h)), .int a1] ++ List.replicate (2 - (lg_sl [.ref (ad (33 + 5 * h)), .int a1]).length) Slot.unset).toArray = ls at hl ⊢
  have hl : lv_has ls 2 [(0, .ref (ad (33 + 5 * h))), (1, .int a1)] := hl
  clear hfr hargs B
  show W p l e rmX1_addPier s m args below meth c s.heap [] 0 0 (MQ below (Qvw (dC, dI) 93 ad (layX ad cy) res) args s 0 0 (WA 93 ad)) (F0 m 0 ls [])
  unfold fX1_addPier at hf
  obtain ⟨H, eH⟩ : ∃ H : Heap, H = s.heap := ⟨_, rfl⟩
  rw [← eH] at hP
  have hS : va_S (WA 93 ad) s.heap H [] := by rw [eH]; exact hS
  suffices K : W p l e rmX1_addPier s m args below meth c H [] 0 0 (MQ below (Qvw (dC, dI) 93 ad (layX ad cy) res) args s 0 0 (WA 93 ad)) (F0 m 0 ls []) by rw [eH] at K; exact K
  clear eH
  obtain ⟨locs, elocs⟩ : ∃ z : List Loc, z = [] := ⟨_, rfl⟩
  rw [← elocs] at hS ⊢
  refine lv_aload_n hx hb dX1_addPier_0 rfl (lv_at hl 0 rfl) ?_
  refine xt_get (ci := 1) (C := RX1) (T := TX1) (n := 8) (v := .int (σ (33 + 5 * h) 4)) hx hb hts iX1_addPier_X1 hown hK hP (33 + 5 * h) (by omega) (LX1_obj ad cy h hh _) rfl 4 (by decide) w1 rfl dX1_addPier_1 ?_
  refine lv_bipush (v := 8) hx hb dX1_addPier_4 (by decide) ?_
  refine lv_icmp_ge (tgt := 39) hx hb dX1_addPier_6 (by decide) (fun c1 => ?_) (fun c1 => ?_)
  · have hf := (if_pos c1).symm.trans hf
    exact xt_vret hx hb hr hP hS (Option.some.inj hf) dX1_addPier_39 hlocks
  · have hf := (if_neg c1).symm.trans hf
    refine lv_aload_n hx hb dX1_addPier_9 rfl (lv_at hl 0 rfl) ?_
    refine xt_get (ci := 1) (C := RX1) (T := TX1) (n := 8) (v := .ref (ad ((33 + 5 * h) + 1))) hx hb hts iX1_addPier_X1 hown hK hP (33 + 5 * h) (by omega) (LX1_obj ad cy h hh _) rfl 0 (by decide) w2 rfl dX1_addPier_10 ?_
    refine lv_aload_n hx hb dX1_addPier_13 rfl (lv_at hl 0 rfl) ?_
    refine xt_get (ci := 1) (C := RX1) (T := TX1) (n := 8) (v := .int (σ (33 + 5 * h) 4)) hx hb hts iX1_addPier_X1 hown hK hP (33 + 5 * h) (by omega) (LX1_obj ad cy h hh _) rfl 4 (by decide) w1 rfl dX1_addPier_14 ?_
    refine lv_iload_n hx hb dX1_addPier_17 rfl (lv_at hl 1 rfl) ?_
    obtain ⟨g2, hf⟩ := gd_some hf
    refine xt_iast hx hb hK hP hJ hS ((33 + 5 * h) + 1) (by omega) 0 (LX1_berths ad cy h hh) rfl g2 dX1_addPier_18 (fun H locs hP hS => ?_)
    obtain ⟨σ3, eσ3⟩ : ∃ z : St, z = su σ ((33 + 5 * h) + 1) (σ (33 + 5 * h) 4).toNatClampNeg a1 := ⟨_, rfl⟩
    rw [← eσ3] at hP
    have hf := nm_to hf eσ3
    refine lv_aload_n hx hb dX1_addPier_19 rfl (lv_at hl 0 rfl) ?_
    refine xt_get (ci := 1) (C := RX1) (T := TX1) (n := 8) (v := .ref (ad ((33 + 5 * h) + 2))) hx hb hts iX1_addPier_X1 hown hK hP (33 + 5 * h) (by omega) (LX1_obj ad cy h hh _) rfl 1 (by decide) w3 rfl dX1_addPier_20 ?_
    refine lv_aload_n hx hb dX1_addPier_23 rfl (lv_at hl 0 rfl) ?_
    refine xt_get (ci := 1) (C := RX1) (T := TX1) (n := 8) (v := .int (σ3 (33 + 5 * h) 4)) hx hb hts iX1_addPier_X1 hown hK hP (33 + 5 * h) (by omega) (LX1_obj ad cy h hh _) rfl 4 (by decide) w1 rfl dX1_addPier_24 ?_
    refine lv_iconst (v := 1) hx hb dX1_addPier_27 (by decide) ?_
    obtain ⟨g4, hf⟩ := gd_some hf
    refine xt_zast hx hb hK hP hJ hS ((33 + 5 * h) + 2) (by omega) 1 (LX1_opened ad cy h hh) rfl g4 dX1_addPier_28 (fun H locs hP hS => ?_)
    obtain ⟨σ5, eσ5⟩ : ∃ z : St, z = su σ3 ((33 + 5 * h) + 2) (σ3 (33 + 5 * h) 4).toNatClampNeg (vp_nar .boolean 1) := ⟨_, rfl⟩
    rw [← eσ5] at hP
    have hf := nm_to hf eσ5
    refine lv_aload_n hx hb dX1_addPier_29 rfl (lv_at hl 0 rfl) ?_
    refine lv_dup hx hb dX1_addPier_30 rfl ?_
    refine xt_get (ci := 1) (C := RX1) (T := TX1) (n := 8) (v := .int (σ5 (33 + 5 * h) 4)) hx hb hts iX1_addPier_X1 hown hK hP (33 + 5 * h) (by omega) (LX1_obj ad cy h hh _) rfl 4 (by decide) w1 rfl dX1_addPier_31 ?_
    refine lv_iconst (v := 1) hx hb dX1_addPier_34 (by decide) ?_
    refine lv_iadd hx hb dX1_addPier_35 ?_
    refine xt_put (ci := 1) (C := RX1) (T := TX1) (n := 8) hx hb hts iX1_addPier_X1 tyX1 tyX1_ok nmX1 hown hK hP hJ hS (33 + 5 * h) (by omega) (LX1_obj ad cy h hh _) rfl 4 (by decide) w1 rfl (v := ((σ5 (33 + 5 * h) 4) + 1)) rfl rfl (Nat.le_of_ble_eq_true rfl) (LX1_obj ad cy h hh _) dX1_addPier_36 (fun H locs hP hS => ?_)
    obtain ⟨σ6, eσ6⟩ : ∃ z : St, z = su σ5 (33 + 5 * h) 4 ((σ5 (33 + 5 * h) 4) + 1) := ⟨_, rfl⟩
    rw [← eσ6] at hP
    have hf := nm_to hf eσ6
    exact xt_vret hx hb hr hP hS (Option.some.inj hf) dX1_addPier_39 hlocks
def fX1_addBarge (h : Nat) (σ : St) (a1 : Int32) (a2 : Int32) : Option St :=
  if (24 : Int32) ≤ (σ (33 + 5 * h) 5) then (some σ) else (gd (okI (σ (33 + 5 * h) 5) 24) <| nm (su σ ((33 + 5 * h) + 3) (σ (33 + 5 * h) 5).toNatClampNeg a1) fun σ3 => gd (okI (σ3 (33 + 5 * h) 5) 24) <| nm (su σ3 ((33 + 5 * h) + 4) (σ3 (33 + 5 * h) 5).toNatClampNeg a2) fun σ5 => nm (su σ5 (33 + 5 * h) 5 ((σ5 (33 + 5 * h) 5) + 1)) fun σ6 => some σ6)
abbrev rmX1_addBarge : Room := { frames := 0, cells := 0, slots := 0, locals := 0 }
theorem dmX1_addBarge : yX1_addBarge.cls = RX1 ∧ yX1_addBarge.cls ≠ "java/lang/invoke/MethodHandle" ∧ yX1_addBarge.cls ≠ "java/lang/invoke/VarHandle" ∧ (parseMethodDescriptor yX1_addBarge.desc).map (fun d => d.parameters.length) = some 2 := by decide +kernel
theorem iX1_addBarge_X1 : ∀ w ∈ wsX10, w ∈ wsX1_addBarge := fun w h => List.mem_cons_of_mem _ (List.mem_append_right _ (h))
set_option maxHeartbeats 8000000 in
set_option maxRecDepth 100000 in
theorem mX1_addBarge (l : Launch) (dC : Nat → ClassId) (dI : Nat → Nat → Nat) (ad : Nat → Nat) (cy : Nat → ClassId) (hJ : WJ 93 ad) (h : Nat) (hh : h < 12) (σ : St) (a1 : Int32) (a2 : Int32) (res : St) (hf : fX1_addBarge h σ a1 a2 = some res) : CMv l yX1_addBarge wsX1_addBarge rmX1_addBarge (dC, dI) (tysX cy) 93 ad (layX ad cy) [.ref (ad (33 + 5 * h)), .int a1, .int a2] σ res := by
  refine Met.ofW (cc := cX1_addBarge) (maxL := 3) (ret := none) (by decide) rfl ?_
  intro p e s m args below meth c s₁ B hml hv
  obtain ⟨hargs, hP, hK⟩ := hv
  have hx := B.exec
  have hb := B.bytes
  have hr := B.returns
  have hts := atoms_spec (ws := wsX1_addBarge) B.pre
  have hown : s.vm.findClass RX1 = some m.cls := findClass_of_methodNamed B.named
  have hlocks := B.notSynchronized
  have w1 := hts (.fieldLink RX1 29 "PierRings$Harbour" "barges" "I") (List.mem_of_getElem? (i := 1) rfl)
  have w2 := hts (.fieldLink RX1 19 "PierRings$Harbour" "names" "[I") (List.mem_of_getElem? (i := 2) rfl)
  have w3 := hts (.fieldLink RX1 22 "PierRings$Harbour" "tons" "[I") (List.mem_of_getElem? (i := 3) rfl)
  have hS : va_S (WA 93 ad) s.heap s.heap [] := va_S.rf
  have hfr : entryFrame m args 3 = F0 m 0 ((lg_sl [.ref (ad (33 + 5 * h)), .int a1, .int a2] ++ List.replicate (3 - (lg_sl [.ref (ad (33 + 5 * h)), .int a1, .int a2]).length) Slot.unset).toArray) [] := by rw [hargs]; exact lg_entry_eq _ _ _
  rw [hfr]
  have hl := lv_entry ([.ref (ad (33 + 5 * h)), .int a1, .int a2]) (n := 3) (Nat.le_of_ble_eq_true rfl)
  generalize (lg_sl [.ref (ad (33 + 5 * h)), .int a1, .int a2] ++ List.replicate (3 - (lg_sl [.ref (ad (33 + 5 * h)), .int a1, .int a2]).length) Slot.unset).toArray = ls at hl ⊢
  have hl : lv_has ls 3 [(0, .ref (ad (33 + 5 * h))), (1, .int a1), (2, .int a2)] := hl
  clear hfr hargs B
  show W p l e rmX1_addBarge s m args below meth c s.heap [] 0 0 (MQ below (Qvw (dC, dI) 93 ad (layX ad cy) res) args s 0 0 (WA 93 ad)) (F0 m 0 ls [])
  unfold fX1_addBarge at hf
  obtain ⟨H, eH⟩ : ∃ H : Heap, H = s.heap := ⟨_, rfl⟩
  rw [← eH] at hP
  have hS : va_S (WA 93 ad) s.heap H [] := by rw [eH]; exact hS
  suffices K : W p l e rmX1_addBarge s m args below meth c H [] 0 0 (MQ below (Qvw (dC, dI) 93 ad (layX ad cy) res) args s 0 0 (WA 93 ad)) (F0 m 0 ls []) by rw [eH] at K; exact K
  clear eH
  obtain ⟨locs, elocs⟩ : ∃ z : List Loc, z = [] := ⟨_, rfl⟩
  rw [← elocs] at hS ⊢
  refine lv_aload_n hx hb dX1_addBarge_0 rfl (lv_at hl 0 rfl) ?_
  refine xt_get (ci := 1) (C := RX1) (T := TX1) (n := 8) (v := .int (σ (33 + 5 * h) 5)) hx hb hts iX1_addBarge_X1 hown hK hP (33 + 5 * h) (by omega) (LX1_obj ad cy h hh _) rfl 5 (by decide) w1 rfl dX1_addBarge_1 ?_
  refine lv_bipush (v := 24) hx hb dX1_addBarge_4 (by decide) ?_
  refine lv_icmp_ge (tgt := 39) hx hb dX1_addBarge_6 (by decide) (fun c1 => ?_) (fun c1 => ?_)
  · have hf := (if_pos c1).symm.trans hf
    exact xt_vret hx hb hr hP hS (Option.some.inj hf) dX1_addBarge_39 hlocks
  · have hf := (if_neg c1).symm.trans hf
    refine lv_aload_n hx hb dX1_addBarge_9 rfl (lv_at hl 0 rfl) ?_
    refine xt_get (ci := 1) (C := RX1) (T := TX1) (n := 8) (v := .ref (ad ((33 + 5 * h) + 3))) hx hb hts iX1_addBarge_X1 hown hK hP (33 + 5 * h) (by omega) (LX1_obj ad cy h hh _) rfl 2 (by decide) w2 rfl dX1_addBarge_10 ?_
    refine lv_aload_n hx hb dX1_addBarge_13 rfl (lv_at hl 0 rfl) ?_
    refine xt_get (ci := 1) (C := RX1) (T := TX1) (n := 8) (v := .int (σ (33 + 5 * h) 5)) hx hb hts iX1_addBarge_X1 hown hK hP (33 + 5 * h) (by omega) (LX1_obj ad cy h hh _) rfl 5 (by decide) w1 rfl dX1_addBarge_14 ?_
    refine lv_iload_n hx hb dX1_addBarge_17 rfl (lv_at hl 1 rfl) ?_
    obtain ⟨g2, hf⟩ := gd_some hf
    refine xt_iast hx hb hK hP hJ hS ((33 + 5 * h) + 3) (by omega) 0 (LX1_names ad cy h hh) rfl g2 dX1_addBarge_18 (fun H locs hP hS => ?_)
    obtain ⟨σ3, eσ3⟩ : ∃ z : St, z = su σ ((33 + 5 * h) + 3) (σ (33 + 5 * h) 5).toNatClampNeg a1 := ⟨_, rfl⟩
    rw [← eσ3] at hP
    have hf := nm_to hf eσ3
    refine lv_aload_n hx hb dX1_addBarge_19 rfl (lv_at hl 0 rfl) ?_
    refine xt_get (ci := 1) (C := RX1) (T := TX1) (n := 8) (v := .ref (ad ((33 + 5 * h) + 4))) hx hb hts iX1_addBarge_X1 hown hK hP (33 + 5 * h) (by omega) (LX1_obj ad cy h hh _) rfl 3 (by decide) w3 rfl dX1_addBarge_20 ?_
    refine lv_aload_n hx hb dX1_addBarge_23 rfl (lv_at hl 0 rfl) ?_
    refine xt_get (ci := 1) (C := RX1) (T := TX1) (n := 8) (v := .int (σ3 (33 + 5 * h) 5)) hx hb hts iX1_addBarge_X1 hown hK hP (33 + 5 * h) (by omega) (LX1_obj ad cy h hh _) rfl 5 (by decide) w1 rfl dX1_addBarge_24 ?_
    refine lv_iload_n hx hb dX1_addBarge_27 rfl (lv_at hl 2 rfl) ?_
    obtain ⟨g4, hf⟩ := gd_some hf
    refine xt_iast hx hb hK hP hJ hS ((33 + 5 * h) + 4) (by omega) 0 (LX1_tons ad cy h hh) rfl g4 dX1_addBarge_28 (fun H locs hP hS => ?_)
    obtain ⟨σ5, eσ5⟩ : ∃ z : St, z = su σ3 ((33 + 5 * h) + 4) (σ3 (33 + 5 * h) 5).toNatClampNeg a2 := ⟨_, rfl⟩
    rw [← eσ5] at hP
    have hf := nm_to hf eσ5
    refine lv_aload_n hx hb dX1_addBarge_29 rfl (lv_at hl 0 rfl) ?_
    refine lv_dup hx hb dX1_addBarge_30 rfl ?_
    refine xt_get (ci := 1) (C := RX1) (T := TX1) (n := 8) (v := .int (σ5 (33 + 5 * h) 5)) hx hb hts iX1_addBarge_X1 hown hK hP (33 + 5 * h) (by omega) (LX1_obj ad cy h hh _) rfl 5 (by decide) w1 rfl dX1_addBarge_31 ?_
    refine lv_iconst (v := 1) hx hb dX1_addBarge_34 (by decide) ?_
    refine lv_iadd hx hb dX1_addBarge_35 ?_
    refine xt_put (ci := 1) (C := RX1) (T := TX1) (n := 8) hx hb hts iX1_addBarge_X1 tyX1 tyX1_ok nmX1 hown hK hP hJ hS (33 + 5 * h) (by omega) (LX1_obj ad cy h hh _) rfl 5 (by decide) w1 rfl (v := ((σ5 (33 + 5 * h) 5) + 1)) rfl rfl (Nat.le_of_ble_eq_true rfl) (LX1_obj ad cy h hh _) dX1_addBarge_36 (fun H locs hP hS => ?_)
    obtain ⟨σ6, eσ6⟩ : ∃ z : St, z = su σ5 (33 + 5 * h) 5 ((σ5 (33 + 5 * h) 5) + 1) := ⟨_, rfl⟩
    rw [← eσ6] at hP
    have hf := nm_to hf eσ6
    exact xt_vret hx hb hr hP hS (Option.some.inj hf) dX1_addBarge_39 hlocks
def fX1_removeBarge (h : Nat) (σ : St) (a1 : Int32) : Option St :=
  bd (fX1_hasBarge h σ a1) fun r1 => if r1 = 0 then (some σ) else (nm (((σ (33 + 5 * h) 5) - a1) - 1) fun v3 => gd (okC (a1 + 1) a1 v3 24 24) <| nm (sr σ ((33 + 5 * h) + 3) (va_cpy (σ ((33 + 5 * h) + 3)) (σ ((33 + 5 * h) + 3)) (a1 + 1).toNatClampNeg a1.toNatClampNeg v3.toNatClampNeg)) fun σ5 => gd (okC (a1 + 1) a1 v3 24 24) <| nm (sr σ5 ((33 + 5 * h) + 4) (va_cpy (σ5 ((33 + 5 * h) + 4)) (σ5 ((33 + 5 * h) + 4)) (a1 + 1).toNatClampNeg a1.toNatClampNeg v3.toNatClampNeg)) fun σ7 => nm (su σ7 (33 + 5 * h) 5 ((σ7 (33 + 5 * h) 5) - 1)) fun σ8 => some σ8)
abbrev rmX1_removeBarge : Room := { frames := 1, cells := 0, slots := 0, locals := 64 }
theorem dmX1_removeBarge : yX1_removeBarge.cls = RX1 ∧ yX1_removeBarge.cls ≠ "java/lang/invoke/MethodHandle" ∧ yX1_removeBarge.cls ≠ "java/lang/invoke/VarHandle" ∧ (parseMethodDescriptor yX1_removeBarge.desc).map (fun d => d.parameters.length) = some 1 := by decide +kernel
theorem iX1_removeBarge_X1 : ∀ w ∈ wsX10, w ∈ wsX1_removeBarge := fun w h => List.mem_cons_of_mem _ (List.mem_append_right _ (h))
set_option maxHeartbeats 8000000 in
set_option maxRecDepth 100000 in
theorem mX1_removeBarge (l : Launch) (dC : Nat → ClassId) (dI : Nat → Nat → Nat) (ad : Nat → Nat) (cy : Nat → ClassId) (hJ : WJ 93 ad) (h : Nat) (hh : h < 12) (σ : St) (a1 : Int32) (res : St) (hf : fX1_removeBarge h σ a1 = some res) : CMv l yX1_removeBarge wsX1_removeBarge rmX1_removeBarge (dC, dI) (tysX cy) 93 ad (layX ad cy) [.ref (ad (33 + 5 * h)), .int a1] σ res := by
  refine Met.ofW (cc := cX1_removeBarge) (maxL := 3) (ret := none) (by decide) rfl ?_
  intro p e s m args below meth c s₁ B hml hv
  obtain ⟨hargs, hP, hK⟩ := hv
  have hx := B.exec
  have hb := B.bytes
  have hr := B.returns
  have hts := atoms_spec (ws := wsX1_removeBarge) B.pre
  have hown : s.vm.findClass RX1 = some m.cls := findClass_of_methodNamed B.named
  have hlocks := B.notSynchronized
  have w1 := hts (.fieldLink RX1 29 "PierRings$Harbour" "barges" "I") (List.mem_of_getElem? (i := 1) rfl)
  have w2 := hts (.fieldLink RX1 19 "PierRings$Harbour" "names" "[I") (List.mem_of_getElem? (i := 2) rfl)
  have w3 := hts (.methodLink RX1 38 arraycopyName) (List.mem_of_getElem? (i := 3) rfl)
  have w4 := hts (.native arraycopyName) (List.mem_of_getElem? (i := 4) rfl)
  have w5 := hts (.static arraycopyName) (List.mem_of_getElem? (i := 5) rfl)
  have w6 := hts (.initialized "java/lang/System") (List.mem_of_getElem? (i := 6) rfl)
  have w7 := hts (.fieldLink RX1 22 "PierRings$Harbour" "tons" "[I") (List.mem_of_getElem? (i := 7) rfl)
  have hS : va_S (WA 93 ad) s.heap s.heap [] := va_S.rf
  have hfr : entryFrame m args 3 = F0 m 0 ((lg_sl [.ref (ad (33 + 5 * h)), .int a1] ++ List.replicate (3 - (lg_sl [.ref (ad (33 + 5 * h)), .int a1]).length) Slot.unset).toArray) [] := by rw [hargs]; exact lg_entry_eq _ _ _
  rw [hfr]
  have hl := lv_entry ([.ref (ad (33 + 5 * h)), .int a1]) (n := 3) (Nat.le_of_ble_eq_true rfl)
  generalize (lg_sl [.ref (ad (33 + 5 * h)), .int a1] ++ List.replicate (3 - (lg_sl [.ref (ad (33 + 5 * h)), .int a1]).length) Slot.unset).toArray = ls at hl ⊢
  have hl : lv_has ls 3 [(0, .ref (ad (33 + 5 * h))), (1, .int a1)] := hl
  clear hfr hargs B
  show W p l e rmX1_removeBarge s m args below meth c s.heap [] 0 0 (MQ below (Qvw (dC, dI) 93 ad (layX ad cy) res) args s 0 0 (WA 93 ad)) (F0 m 0 ls [])
  unfold fX1_removeBarge at hf
  obtain ⟨H, eH⟩ : ∃ H : Heap, H = s.heap := ⟨_, rfl⟩
  rw [← eH] at hP
  have hS : va_S (WA 93 ad) s.heap H [] := by rw [eH]; exact hS
  suffices K : W p l e rmX1_removeBarge s m args below meth c H [] 0 0 (MQ below (Qvw (dC, dI) 93 ad (layX ad cy) res) args s 0 0 (WA 93 ad)) (F0 m 0 ls []) by rw [eH] at K; exact K
  clear eH
  obtain ⟨locs, elocs⟩ : ∃ z : List Loc, z = [] := ⟨_, rfl⟩
  rw [← elocs] at hS ⊢
  refine lv_aload_n hx hb dX1_removeBarge_0 rfl (lv_at hl 0 rfl) ?_
  refine lv_iload_n hx hb dX1_removeBarge_1 rfl (lv_at hl 1 rfl) ?_
  obtain ⟨r1, qr1, hf⟩ := bd_some hf
  refine xt_callVi (As := [.int a1]) (rest := []) (C := RX1) (ci := 1) ⟨hx, hb, hml, hown, hts⟩ (33 + 5 * h) (mX1_hasBarge l dC dI ad cy hJ h hh σ a1 r1 qr1) (cwV 1 hts gX1_removeBarge_X1_hasBarge rfl rfl rfl dmX1_hasBarge ⟨Nat.le_of_ble_eq_true rfl, Nat.le_of_ble_eq_true rfl⟩) hK hP hS (by omega) (LX1_obj ad cy h hh _) rfl rfl rfl hl.1 (Nat.le_of_ble_eq_true rfl) ⟨Nat.zero_le _, Nat.zero_le _⟩ dX1_removeBarge_2 (fun H locs hP hS => ?_)
  refine lv_if_eq (tgt := 59) hx hb dX1_removeBarge_5 (by decide) (fun c2 => ?_) (fun c2 => ?_)
  · have hf := (if_pos c2).symm.trans hf
    exact xt_vret hx hb hr hP hS (Option.some.inj hf) dX1_removeBarge_59 hlocks
  · have hf := (if_neg c2).symm.trans hf
    refine lv_aload_n hx hb dX1_removeBarge_8 rfl (lv_at hl 0 rfl) ?_
    refine xt_get (ci := 1) (C := RX1) (T := TX1) (n := 8) (v := .int (σ (33 + 5 * h) 5)) hx hb hts iX1_removeBarge_X1 hown hK hP (33 + 5 * h) (by omega) (LX1_obj ad cy h hh _) rfl 5 (by decide) w1 rfl dX1_removeBarge_9 ?_
    refine lv_iload_n hx hb dX1_removeBarge_12 rfl (lv_at hl 1 rfl) ?_
    refine lv_isub hx hb dX1_removeBarge_13 ?_
    refine lv_iconst (v := 1) hx hb dX1_removeBarge_14 (by decide) ?_
    refine lv_isub hx hb dX1_removeBarge_15 ?_
    refine lv_topi (fun v3 ev3 => ?_)
    have hf := nm_to hf ev3
    refine lv_istore_n (lv' := [(2, .int v3), (0, .ref (ad (33 + 5 * h))), (1, .int a1)]) hx hb dX1_removeBarge_16 rfl hl (by decide) rfl (fun ls hl => ?_)
    refine lv_aload_n hx hb dX1_removeBarge_17 rfl (lv_at hl 1 rfl) ?_
    refine xt_get (ci := 1) (C := RX1) (T := TX1) (n := 8) (v := .ref (ad ((33 + 5 * h) + 3))) hx hb hts iX1_removeBarge_X1 hown hK hP (33 + 5 * h) (by omega) (LX1_obj ad cy h hh _) rfl 2 (by decide) w2 rfl dX1_removeBarge_18 ?_
    refine lv_iload_n hx hb dX1_removeBarge_21 rfl (lv_at hl 2 rfl) ?_
    refine lv_iconst (v := 1) hx hb dX1_removeBarge_22 (by decide) ?_
    refine lv_iadd hx hb dX1_removeBarge_23 ?_
    refine lv_aload_n hx hb dX1_removeBarge_24 rfl (lv_at hl 1 rfl) ?_
    refine xt_get (ci := 1) (C := RX1) (T := TX1) (n := 8) (v := .ref (ad ((33 + 5 * h) + 3))) hx hb hts iX1_removeBarge_X1 hown hK hP (33 + 5 * h) (by omega) (LX1_obj ad cy h hh _) rfl 2 (by decide) w2 rfl dX1_removeBarge_25 ?_
    refine lv_iload_n hx hb dX1_removeBarge_28 rfl (lv_at hl 2 rfl) ?_
    refine lv_iload_n hx hb dX1_removeBarge_29 rfl (lv_at hl 0 rfl) ?_
    obtain ⟨g4, hf⟩ := gd_some hf
    refine xt_copy (ty := .int) hx hb (hml.trans hl.1.symm) hown w3 w4 w5 w6 hK hP hJ hS ((33 + 5 * h) + 3) ((33 + 5 * h) + 3) 0 (by omega) (by omega) (LX1_names ad cy h hh) (LX1_names ad cy h hh) rfl rfl g4 (fun _ _ => rfl) (Nat.le_of_ble_eq_true rfl) (Nat.le_of_ble_eq_true rfl) dX1_removeBarge_30 (fun H locs hP hS => ?_)
    obtain ⟨σ5, eσ5⟩ : ∃ z : St, z = sr σ ((33 + 5 * h) + 3) (va_cpy (σ ((33 + 5 * h) + 3)) (σ ((33 + 5 * h) + 3)) (a1 + 1).toNatClampNeg a1.toNatClampNeg v3.toNatClampNeg) := ⟨_, rfl⟩
    rw [← eσ5] at hP
    have hf := nm_to hf eσ5
    refine lv_aload_n hx hb dX1_removeBarge_33 rfl (lv_at hl 1 rfl) ?_
    refine xt_get (ci := 1) (C := RX1) (T := TX1) (n := 8) (v := .ref (ad ((33 + 5 * h) + 4))) hx hb hts iX1_removeBarge_X1 hown hK hP (33 + 5 * h) (by omega) (LX1_obj ad cy h hh _) rfl 3 (by decide) w7 rfl dX1_removeBarge_34 ?_
    refine lv_iload_n hx hb dX1_removeBarge_37 rfl (lv_at hl 2 rfl) ?_
    refine lv_iconst (v := 1) hx hb dX1_removeBarge_38 (by decide) ?_
    refine lv_iadd hx hb dX1_removeBarge_39 ?_
    refine lv_aload_n hx hb dX1_removeBarge_40 rfl (lv_at hl 1 rfl) ?_
    refine xt_get (ci := 1) (C := RX1) (T := TX1) (n := 8) (v := .ref (ad ((33 + 5 * h) + 4))) hx hb hts iX1_removeBarge_X1 hown hK hP (33 + 5 * h) (by omega) (LX1_obj ad cy h hh _) rfl 3 (by decide) w7 rfl dX1_removeBarge_41 ?_
    refine lv_iload_n hx hb dX1_removeBarge_44 rfl (lv_at hl 2 rfl) ?_
    refine lv_iload_n hx hb dX1_removeBarge_45 rfl (lv_at hl 0 rfl) ?_
    obtain ⟨g6, hf⟩ := gd_some hf
    refine xt_copy (ty := .int) hx hb (hml.trans hl.1.symm) hown w3 w4 w5 w6 hK hP hJ hS ((33 + 5 * h) + 4) ((33 + 5 * h) + 4) 0 (by omega) (by omega) (LX1_tons ad cy h hh) (LX1_tons ad cy h hh) rfl rfl g6 (fun _ _ => rfl) (Nat.le_of_ble_eq_true rfl) (Nat.le_of_ble_eq_true rfl) dX1_removeBarge_46 (fun H locs hP hS => ?_)
    obtain ⟨σ7, eσ7⟩ : ∃ z : St, z = sr σ5 ((33 + 5 * h) + 4) (va_cpy (σ5 ((33 + 5 * h) + 4)) (σ5 ((33 + 5 * h) + 4)) (a1 + 1).toNatClampNeg a1.toNatClampNeg v3.toNatClampNeg) := ⟨_, rfl⟩
    rw [← eσ7] at hP
    have hf := nm_to hf eσ7
    refine lv_aload_n hx hb dX1_removeBarge_49 rfl (lv_at hl 1 rfl) ?_
    refine lv_dup hx hb dX1_removeBarge_50 rfl ?_
    refine xt_get (ci := 1) (C := RX1) (T := TX1) (n := 8) (v := .int (σ7 (33 + 5 * h) 5)) hx hb hts iX1_removeBarge_X1 hown hK hP (33 + 5 * h) (by omega) (LX1_obj ad cy h hh _) rfl 5 (by decide) w1 rfl dX1_removeBarge_51 ?_
    refine lv_iconst (v := 1) hx hb dX1_removeBarge_54 (by decide) ?_
    refine lv_isub hx hb dX1_removeBarge_55 ?_
    refine xt_put (ci := 1) (C := RX1) (T := TX1) (n := 8) hx hb hts iX1_removeBarge_X1 tyX1 tyX1_ok nmX1 hown hK hP hJ hS (33 + 5 * h) (by omega) (LX1_obj ad cy h hh _) rfl 5 (by decide) w1 rfl (v := ((σ7 (33 + 5 * h) 5) - 1)) rfl rfl (Nat.le_of_ble_eq_true rfl) (LX1_obj ad cy h hh _) dX1_removeBarge_56 (fun H locs hP hS => ?_)
    obtain ⟨σ8, eσ8⟩ : ∃ z : St, z = su σ7 (33 + 5 * h) 5 ((σ7 (33 + 5 * h) 5) - 1) := ⟨_, rfl⟩
    rw [← eσ8] at hP
    have hf := nm_to hf eσ8
    exact xt_vret hx hb hr hP hS (Option.some.inj hf) dX1_removeBarge_59 hlocks
def fX1_bargeNamed_B28 (h : Nat) (σ : St) : Option Int32 :=
  some (-1 : Int32)
def fX1_bargeNamed_L2 (h : Nat) (σ : St) (x1 : Int32) (K2_28 : Option Int32) : Nat → Int32 → Option Int32
  | 0, _ => none
  | n2 + 1, x2 => if (σ (33 + 5 * h) 5) ≤ x2 then (K2_28) else (gd (okI x2 24) <| if (σ ((33 + 5 * h) + 3) x2.toNatClampNeg) = x1 then (some x2) else (nm (x2 + 1) fun v4 => (fX1_bargeNamed_L2 h σ x1 K2_28 n2) v4))
def fX1_bargeNamed (h : Nat) (σ : St) (a1 : Int32) : Option Int32 :=
  fX1_bargeNamed_L2 h σ a1 (fX1_bargeNamed_B28 h σ) 1000 0
abbrev rmX1_bargeNamed : Room := { frames := 0, cells := 0, slots := 0, locals := 0 }
theorem dmX1_bargeNamed : yX1_bargeNamed.cls = RX1 ∧ yX1_bargeNamed.cls ≠ "java/lang/invoke/MethodHandle" ∧ yX1_bargeNamed.cls ≠ "java/lang/invoke/VarHandle" ∧ (parseMethodDescriptor yX1_bargeNamed.desc).map (fun d => d.parameters.length) = some 1 := by decide +kernel
theorem iX1_bargeNamed_X1 : ∀ w ∈ wsX10, w ∈ wsX1_bargeNamed := fun w h => List.mem_cons_of_mem _ (List.mem_append_right _ (h))
set_option maxHeartbeats 8000000 in
set_option maxRecDepth 100000 in
theorem mX1_bargeNamed (l : Launch) (dC : Nat → ClassId) (dI : Nat → Nat → Nat) (ad : Nat → Nat) (cy : Nat → ClassId) (hJ : WJ 93 ad) (h : Nat) (hh : h < 12) (σ : St) (a1 : Int32) (res : Int32) (hf : fX1_bargeNamed h σ a1 = some res) : CMi l yX1_bargeNamed wsX1_bargeNamed rmX1_bargeNamed (dC, dI) (tysX cy) 93 ad (layX ad cy) [.ref (ad (33 + 5 * h)), .int a1] σ res σ := by
  refine Met.ofW (cc := cX1_bargeNamed) (maxL := 3) (ret := (some .int)) (by decide) rfl ?_
  intro p e s m args below meth c s₁ B hml hv
  obtain ⟨hargs, hP, hK⟩ := hv
  have hx := B.exec
  have hb := B.bytes
  have hr := B.returns
  have hts := atoms_spec (ws := wsX1_bargeNamed) B.pre
  have hown : s.vm.findClass RX1 = some m.cls := findClass_of_methodNamed B.named
  have hlocks := B.notSynchronized
  have w1 := hts (.fieldLink RX1 29 "PierRings$Harbour" "barges" "I") (List.mem_of_getElem? (i := 1) rfl)
  have w2 := hts (.fieldLink RX1 19 "PierRings$Harbour" "names" "[I") (List.mem_of_getElem? (i := 2) rfl)
  have hS : va_S (WA 93 ad) s.heap s.heap [] := va_S.rf
  have hfr : entryFrame m args 3 = F0 m 0 ((lg_sl [.ref (ad (33 + 5 * h)), .int a1] ++ List.replicate (3 - (lg_sl [.ref (ad (33 + 5 * h)), .int a1]).length) Slot.unset).toArray) [] := by rw [hargs]; exact lg_entry_eq _ _ _
  rw [hfr]
  have hl := lv_entry ([.ref (ad (33 + 5 * h)), .int a1]) (n := 3) (Nat.le_of_ble_eq_true rfl)
  generalize (lg_sl [.ref (ad (33 + 5 * h)), .int a1] ++ List.replicate (3 - (lg_sl [.ref (ad (33 + 5 * h)), .int a1]).length) Slot.unset).toArray = ls at hl ⊢
  have hl : lv_has ls 3 [(0, .ref (ad (33 + 5 * h))), (1, .int a1)] := hl
  clear hfr hargs B
  show W p l e rmX1_bargeNamed s m args below meth c s.heap [] 0 0 (MQ below (Qiw (dC, dI) 93 ad (layX ad cy) res σ) args s 0 0 (WA 93 ad)) (F0 m 0 ls [])
  have kB28 : fX1_bargeNamed_B28 h σ = some res → ∀ (H : Heap) (locs : List Loc), va_P (dC, dI) vwCl (wd 93 ad (layX ad cy) σ) H → va_S (WA 93 ad) s.heap H locs → ∀ (ls : Array Slot), lv_has ls 3 [] → W p l e rmX1_bargeNamed s m args below meth c H locs 0 0 (MQ below (Qiw (dC, dI) 93 ad (layX ad cy) res σ) args s 0 0 (WA 93 ad)) (F0 m 28 ls []) := by
    intro  hf H locs hP hS ls hl
    unfold fX1_bargeNamed_B28 at hf
    refine lv_iconst (v := (-1)) hx hb dX1_bargeNamed_28 (by decide) ?_
    exact xt_iret hx hb hr hP hS (Option.some.inj hf) rfl dX1_bargeNamed_29 hlocks
  have loop2 : ∀ (x1 : Int32) (n2 : Nat) (x2 : Int32), fX1_bargeNamed_L2 h σ x1 (fX1_bargeNamed_B28 h σ) n2 x2 = some res → ∀ (H : Heap) (locs : List Loc), va_P (dC, dI) vwCl (wd 93 ad (layX ad cy) σ) H → va_S (WA 93 ad) s.heap H locs → ∀ (ls : Array Slot), lv_has ls 3 [(0, .ref (ad (33 + 5 * h))), (1, .int x1), (2, .int x2)] → W p l e rmX1_bargeNamed s m args below meth c H locs 0 0 (MQ below (Qiw (dC, dI) 93 ad (layX ad cy) res σ) args s 0 0 (WA 93 ad)) (F0 m 2 ls []) := by
    intro x1 n2
    induction n2 with
    | zero => intro x2 hf; simp [fX1_bargeNamed_L2] at hf
    | succ n2 ih2 =>
      intro x2 hf H locs hP hS ls hl
      rw [fX1_bargeNamed_L2] at hf
      refine lv_iload_n hx hb dX1_bargeNamed_2 rfl (lv_at hl 2 rfl) ?_
      refine lv_aload_n hx hb dX1_bargeNamed_3 rfl (lv_at hl 0 rfl) ?_
      refine xt_get (ci := 1) (C := RX1) (T := TX1) (n := 8) (v := .int (σ (33 + 5 * h) 5)) hx hb hts iX1_bargeNamed_X1 hown hK hP (33 + 5 * h) (by omega) (LX1_obj ad cy h hh _) rfl 5 (by decide) w1 rfl dX1_bargeNamed_4 ?_
      refine lv_icmp_ge (tgt := 28) hx hb dX1_bargeNamed_7 (by decide) (fun c1 => ?_) (fun c1 => ?_)
      · have hf := (if_pos c1).symm.trans hf
        exact kB28 hf H locs hP hS ls (lv_sub hl [] rfl)
      · have hf := (if_neg c1).symm.trans hf
        refine lv_aload_n hx hb dX1_bargeNamed_10 rfl (lv_at hl 0 rfl) ?_
        refine xt_get (ci := 1) (C := RX1) (T := TX1) (n := 8) (v := .ref (ad ((33 + 5 * h) + 3))) hx hb hts iX1_bargeNamed_X1 hown hK hP (33 + 5 * h) (by omega) (LX1_obj ad cy h hh _) rfl 2 (by decide) w2 rfl dX1_bargeNamed_11 ?_
        refine lv_iload_n hx hb dX1_bargeNamed_14 rfl (lv_at hl 2 rfl) ?_
        obtain ⟨g2, hf⟩ := gd_some hf
        refine xt_iald hx hb hK hP ((33 + 5 * h) + 3) (by omega) 0 (LX1_names ad cy h hh _) rfl g2 dX1_bargeNamed_15 ?_
        refine lv_iload_n hx hb dX1_bargeNamed_16 rfl (lv_at hl 1 rfl) ?_
        refine lv_icmp_ne (tgt := 22) hx hb dX1_bargeNamed_17 (by decide) (fun c3 => ?_) (fun c3 => ?_)
        · have hf := (if_neg c3).symm.trans hf
          obtain ⟨v4, ev4⟩ : ∃ y : Int32, y = x2 + 1 := ⟨_, rfl⟩
          have hf := nm_to hf ev4
          refine lv_iinc (v := v4) (lv' := [(2, .int v4), (0, .ref (ad (33 + 5 * h))), (1, .int x1)]) hx hb dX1_bargeNamed_22 hl (k := 2) rfl (by rw [ev4]; rfl) (by decide) rfl (fun ls hl => ?_)
          refine lv_goto (tgt := 2) hx hb dX1_bargeNamed_25 (by decide) ?_
          exact ih2 v4 hf H locs hP hS ls (lv_sub hl [1, 2, 0] rfl)
        · have hf := (if_pos c3).symm.trans hf
          refine lv_iload_n hx hb dX1_bargeNamed_20 rfl (lv_at hl 2 rfl) ?_
          exact xt_iret hx hb hr hP hS (Option.some.inj hf) rfl dX1_bargeNamed_21 hlocks
  unfold fX1_bargeNamed at hf
  obtain ⟨H, eH⟩ : ∃ H : Heap, H = s.heap := ⟨_, rfl⟩
  rw [← eH] at hP
  have hS : va_S (WA 93 ad) s.heap H [] := by rw [eH]; exact hS
  suffices K : W p l e rmX1_bargeNamed s m args below meth c H [] 0 0 (MQ below (Qiw (dC, dI) 93 ad (layX ad cy) res σ) args s 0 0 (WA 93 ad)) (F0 m 0 ls []) by rw [eH] at K; exact K
  clear eH
  obtain ⟨locs, elocs⟩ : ∃ z : List Loc, z = [] := ⟨_, rfl⟩
  rw [← elocs] at hS ⊢
  refine lv_iconst (v := 0) hx hb dX1_bargeNamed_0 (by decide) ?_
  refine lv_istore_n (lv' := [(2, .int 0), (0, .ref (ad (33 + 5 * h))), (1, .int a1)]) hx hb dX1_bargeNamed_1 rfl hl (by decide) rfl (fun ls hl => ?_)
  exact loop2 a1 1000 0 hf H locs hP hS ls (lv_sub hl [1, 2, 0] rfl)
def fX1_pointOf (h : Nat) (σ : St) (a1 : Int32) : Option Int32 :=
  gd (okI a1 24) <| some (jrem ((37 * (σ ((33 + 5 * h) + 3) a1.toNatClampNeg)) + 11) 360)
abbrev rmX1_pointOf : Room := { frames := 0, cells := 0, slots := 0, locals := 0 }
theorem dmX1_pointOf : yX1_pointOf.cls = RX1 ∧ yX1_pointOf.cls ≠ "java/lang/invoke/MethodHandle" ∧ yX1_pointOf.cls ≠ "java/lang/invoke/VarHandle" ∧ (parseMethodDescriptor yX1_pointOf.desc).map (fun d => d.parameters.length) = some 1 := by decide +kernel
theorem iX1_pointOf_X1 : ∀ w ∈ wsX10, w ∈ wsX1_pointOf := fun w h => List.mem_cons_of_mem _ (List.mem_append_right _ (h))
set_option maxHeartbeats 8000000 in
set_option maxRecDepth 100000 in
theorem mX1_pointOf (l : Launch) (dC : Nat → ClassId) (dI : Nat → Nat → Nat) (ad : Nat → Nat) (cy : Nat → ClassId) (hJ : WJ 93 ad) (h : Nat) (hh : h < 12) (σ : St) (a1 : Int32) (res : Int32) (hf : fX1_pointOf h σ a1 = some res) : CMi l yX1_pointOf wsX1_pointOf rmX1_pointOf (dC, dI) (tysX cy) 93 ad (layX ad cy) [.ref (ad (33 + 5 * h)), .int a1] σ res σ := by
  refine Met.ofW (cc := cX1_pointOf) (maxL := 2) (ret := (some .int)) (by decide) rfl ?_
  intro p e s m args below meth c s₁ B hml hv
  obtain ⟨hargs, hP, hK⟩ := hv
  have hx := B.exec
  have hb := B.bytes
  have hr := B.returns
  have hts := atoms_spec (ws := wsX1_pointOf) B.pre
  have hown : s.vm.findClass RX1 = some m.cls := findClass_of_methodNamed B.named
  have hlocks := B.notSynchronized
  have w1 := hts (.fieldLink RX1 19 "PierRings$Harbour" "names" "[I") (List.mem_of_getElem? (i := 1) rfl)
  have hS : va_S (WA 93 ad) s.heap s.heap [] := va_S.rf
  have hfr : entryFrame m args 2 = F0 m 0 ((lg_sl [.ref (ad (33 + 5 * h)), .int a1] ++ List.replicate (2 - (lg_sl [.ref (ad (33 + 5 * h)), .int a1]).length) Slot.unset).toArray) [] := by rw [hargs]; exact lg_entry_eq _ _ _
  rw [hfr]
  have hl := lv_entry ([.ref (ad (33 + 5 * h)), .int a1]) (n := 2) (Nat.le_of_ble_eq_true rfl)
  generalize (lg_sl [.ref (ad (33 + 5 * h)), .int a1] ++ List.replicate (2 - (lg_sl [.ref (ad (33 + 5 * h)), .int a1]).length) Slot.unset).toArray = ls at hl ⊢
  have hl : lv_has ls 2 [(0, .ref (ad (33 + 5 * h))), (1, .int a1)] := hl
  clear hfr hargs B
  show W p l e rmX1_pointOf s m args below meth c s.heap [] 0 0 (MQ below (Qiw (dC, dI) 93 ad (layX ad cy) res σ) args s 0 0 (WA 93 ad)) (F0 m 0 ls [])
  unfold fX1_pointOf at hf
  obtain ⟨H, eH⟩ : ∃ H : Heap, H = s.heap := ⟨_, rfl⟩
  rw [← eH] at hP
  have hS : va_S (WA 93 ad) s.heap H [] := by rw [eH]; exact hS
  suffices K : W p l e rmX1_pointOf s m args below meth c H [] 0 0 (MQ below (Qiw (dC, dI) 93 ad (layX ad cy) res σ) args s 0 0 (WA 93 ad)) (F0 m 0 ls []) by rw [eH] at K; exact K
  clear eH
  obtain ⟨locs, elocs⟩ : ∃ z : List Loc, z = [] := ⟨_, rfl⟩
  rw [← elocs] at hS ⊢
  refine lv_bipush (v := 37) hx hb dX1_pointOf_0 (by decide) ?_
  refine lv_aload_n hx hb dX1_pointOf_2 rfl (lv_at hl 0 rfl) ?_
  refine xt_get (ci := 1) (C := RX1) (T := TX1) (n := 8) (v := .ref (ad ((33 + 5 * h) + 3))) hx hb hts iX1_pointOf_X1 hown hK hP (33 + 5 * h) (by omega) (LX1_obj ad cy h hh _) rfl 2 (by decide) w1 rfl dX1_pointOf_3 ?_
  refine lv_iload_n hx hb dX1_pointOf_6 rfl (lv_at hl 1 rfl) ?_
  obtain ⟨g1, hf⟩ := gd_some hf
  refine xt_iald hx hb hK hP ((33 + 5 * h) + 3) (by omega) 0 (LX1_names ad cy h hh _) rfl g1 dX1_pointOf_7 ?_
  refine lv_imul hx hb dX1_pointOf_8 ?_
  refine lv_bipush (v := 11) hx hb dX1_pointOf_9 (by decide) ?_
  refine lv_iadd hx hb dX1_pointOf_11 ?_
  refine lv_sipush (v := 360) hx hb dX1_pointOf_12 (by decide) ?_
  refine xt_irem hx hb dX1_pointOf_15 (by decide) ?_
  exact xt_iret hx hb hr hP hS (Option.some.inj hf) rfl dX1_pointOf_16 hlocks
def fX1_pointsOf (h : Nat) (σ : St) (a1 : Int32) : Option Int32 :=
  gd (okI a1 8) <| if (σ ((33 + 5 * h) + 2) a1.toNatClampNeg) = 0 then (some (0 : Int32)) else (gd (okI a1 8) <| some ((σ ((33 + 5 * h) + 1) a1.toNatClampNeg) * 2))
abbrev rmX1_pointsOf : Room := { frames := 0, cells := 0, slots := 0, locals := 0 }
theorem dmX1_pointsOf : yX1_pointsOf.cls = RX1 ∧ yX1_pointsOf.cls ≠ "java/lang/invoke/MethodHandle" ∧ yX1_pointsOf.cls ≠ "java/lang/invoke/VarHandle" ∧ (parseMethodDescriptor yX1_pointsOf.desc).map (fun d => d.parameters.length) = some 1 := by decide +kernel
theorem iX1_pointsOf_X1 : ∀ w ∈ wsX10, w ∈ wsX1_pointsOf := fun w h => List.mem_cons_of_mem _ (List.mem_append_right _ (h))
set_option maxHeartbeats 8000000 in
set_option maxRecDepth 100000 in
theorem mX1_pointsOf (l : Launch) (dC : Nat → ClassId) (dI : Nat → Nat → Nat) (ad : Nat → Nat) (cy : Nat → ClassId) (hJ : WJ 93 ad) (h : Nat) (hh : h < 12) (σ : St) (a1 : Int32) (res : Int32) (hf : fX1_pointsOf h σ a1 = some res) : CMi l yX1_pointsOf wsX1_pointsOf rmX1_pointsOf (dC, dI) (tysX cy) 93 ad (layX ad cy) [.ref (ad (33 + 5 * h)), .int a1] σ res σ := by
  refine Met.ofW (cc := cX1_pointsOf) (maxL := 2) (ret := (some .int)) (by decide) rfl ?_
  intro p e s m args below meth c s₁ B hml hv
  obtain ⟨hargs, hP, hK⟩ := hv
  have hx := B.exec
  have hb := B.bytes
  have hr := B.returns
  have hts := atoms_spec (ws := wsX1_pointsOf) B.pre
  have hown : s.vm.findClass RX1 = some m.cls := findClass_of_methodNamed B.named
  have hlocks := B.notSynchronized
  have w1 := hts (.fieldLink RX1 15 "PierRings$Harbour" "opened" "[Z") (List.mem_of_getElem? (i := 1) rfl)
  have w2 := hts (.fieldLink RX1 9 "PierRings$Harbour" "berths" "[I") (List.mem_of_getElem? (i := 2) rfl)
  have hS : va_S (WA 93 ad) s.heap s.heap [] := va_S.rf
  have hfr : entryFrame m args 2 = F0 m 0 ((lg_sl [.ref (ad (33 + 5 * h)), .int a1] ++ List.replicate (2 - (lg_sl [.ref (ad (33 + 5 * h)), .int a1]).length) Slot.unset).toArray) [] := by rw [hargs]; exact lg_entry_eq _ _ _
  rw [hfr]
  have hl := lv_entry ([.ref (ad (33 + 5 * h)), .int a1]) (n := 2) (Nat.le_of_ble_eq_true rfl)
  generalize (lg_sl [.ref (ad (33 + 5 * h)), .int a1] ++ List.replicate (2 - (lg_sl [.ref (ad (33 + 5 * h)), .int a1]).length) Slot.unset).toArray = ls at hl ⊢
  have hl : lv_has ls 2 [(0, .ref (ad (33 + 5 * h))), (1, .int a1)] := hl
  clear hfr hargs B
  show W p l e rmX1_pointsOf s m args below meth c s.heap [] 0 0 (MQ below (Qiw (dC, dI) 93 ad (layX ad cy) res σ) args s 0 0 (WA 93 ad)) (F0 m 0 ls [])
  unfold fX1_pointsOf at hf
  obtain ⟨H, eH⟩ : ∃ H : Heap, H = s.heap := ⟨_, rfl⟩
  rw [← eH] at hP
  have hS : va_S (WA 93 ad) s.heap H [] := by rw [eH]; exact hS
  suffices K : W p l e rmX1_pointsOf s m args below meth c H [] 0 0 (MQ below (Qiw (dC, dI) 93 ad (layX ad cy) res σ) args s 0 0 (WA 93 ad)) (F0 m 0 ls []) by rw [eH] at K; exact K
  clear eH
  obtain ⟨locs, elocs⟩ : ∃ z : List Loc, z = [] := ⟨_, rfl⟩
  rw [← elocs] at hS ⊢
  refine lv_aload_n hx hb dX1_pointsOf_0 rfl (lv_at hl 0 rfl) ?_
  refine xt_get (ci := 1) (C := RX1) (T := TX1) (n := 8) (v := .ref (ad ((33 + 5 * h) + 2))) hx hb hts iX1_pointsOf_X1 hown hK hP (33 + 5 * h) (by omega) (LX1_obj ad cy h hh _) rfl 1 (by decide) w1 rfl dX1_pointsOf_1 ?_
  refine lv_iload_n hx hb dX1_pointsOf_4 rfl (lv_at hl 1 rfl) ?_
  obtain ⟨g1, hf⟩ := gd_some hf
  refine xt_zald hx hb hK hP ((33 + 5 * h) + 2) (by omega) 1 (LX1_opened ad cy h hh _) rfl g1 dX1_pointsOf_5 ?_
  refine lv_if_eq (tgt := 20) hx hb dX1_pointsOf_6 (by decide) (fun c2 => ?_) (fun c2 => ?_)
  · have hf := (if_pos c2).symm.trans hf
    refine lv_iconst (v := 0) hx hb dX1_pointsOf_20 (by decide) ?_
    exact xt_iret hx hb hr hP hS (Option.some.inj hf) rfl dX1_pointsOf_21 hlocks
  · have hf := (if_neg c2).symm.trans hf
    refine lv_aload_n hx hb dX1_pointsOf_9 rfl (lv_at hl 0 rfl) ?_
    refine xt_get (ci := 1) (C := RX1) (T := TX1) (n := 8) (v := .ref (ad ((33 + 5 * h) + 1))) hx hb hts iX1_pointsOf_X1 hown hK hP (33 + 5 * h) (by omega) (LX1_obj ad cy h hh _) rfl 0 (by decide) w2 rfl dX1_pointsOf_10 ?_
    refine lv_iload_n hx hb dX1_pointsOf_13 rfl (lv_at hl 1 rfl) ?_
    obtain ⟨g3, hf⟩ := gd_some hf
    refine xt_iald hx hb hK hP ((33 + 5 * h) + 1) (by omega) 0 (LX1_berths ad cy h hh _) rfl g3 dX1_pointsOf_14 ?_
    refine lv_iconst (v := 2) hx hb dX1_pointsOf_15 (by decide) ?_
    refine lv_imul hx hb dX1_pointsOf_16 ?_
    refine lv_goto (tgt := 21) hx hb dX1_pointsOf_17 (by decide) ?_
    exact xt_iret hx hb hr hP hS (Option.some.inj hf) rfl dX1_pointsOf_21 hlocks
def fX1_roomOf (h : Nat) (σ : St) (a1 : Int32) : Option Int32 :=
  gd (okI a1 8) <| if (σ ((33 + 5 * h) + 2) a1.toNatClampNeg) = 0 then (some (0 : Int32)) else (gd (okI a1 8) <| some ((σ ((33 + 5 * h) + 1) a1.toNatClampNeg) * (σ (33 + 5 * h) 6)))
abbrev rmX1_roomOf : Room := { frames := 0, cells := 0, slots := 0, locals := 0 }
theorem dmX1_roomOf : yX1_roomOf.cls = RX1 ∧ yX1_roomOf.cls ≠ "java/lang/invoke/MethodHandle" ∧ yX1_roomOf.cls ≠ "java/lang/invoke/VarHandle" ∧ (parseMethodDescriptor yX1_roomOf.desc).map (fun d => d.parameters.length) = some 1 := by decide +kernel
theorem iX1_roomOf_X1 : ∀ w ∈ wsX10, w ∈ wsX1_roomOf := fun w h => List.mem_cons_of_mem _ (List.mem_append_right _ (h))
set_option maxHeartbeats 8000000 in
set_option maxRecDepth 100000 in
theorem mX1_roomOf (l : Launch) (dC : Nat → ClassId) (dI : Nat → Nat → Nat) (ad : Nat → Nat) (cy : Nat → ClassId) (hJ : WJ 93 ad) (h : Nat) (hh : h < 12) (σ : St) (a1 : Int32) (res : Int32) (hf : fX1_roomOf h σ a1 = some res) : CMi l yX1_roomOf wsX1_roomOf rmX1_roomOf (dC, dI) (tysX cy) 93 ad (layX ad cy) [.ref (ad (33 + 5 * h)), .int a1] σ res σ := by
  refine Met.ofW (cc := cX1_roomOf) (maxL := 2) (ret := (some .int)) (by decide) rfl ?_
  intro p e s m args below meth c s₁ B hml hv
  obtain ⟨hargs, hP, hK⟩ := hv
  have hx := B.exec
  have hb := B.bytes
  have hr := B.returns
  have hts := atoms_spec (ws := wsX1_roomOf) B.pre
  have hown : s.vm.findClass RX1 = some m.cls := findClass_of_methodNamed B.named
  have hlocks := B.notSynchronized
  have w1 := hts (.fieldLink RX1 15 "PierRings$Harbour" "opened" "[Z") (List.mem_of_getElem? (i := 1) rfl)
  have w2 := hts (.fieldLink RX1 9 "PierRings$Harbour" "berths" "[I") (List.mem_of_getElem? (i := 2) rfl)
  have w3 := hts (.fieldLink RX1 32 "PierRings$Harbour" "berthTons" "I") (List.mem_of_getElem? (i := 3) rfl)
  have hS : va_S (WA 93 ad) s.heap s.heap [] := va_S.rf
  have hfr : entryFrame m args 2 = F0 m 0 ((lg_sl [.ref (ad (33 + 5 * h)), .int a1] ++ List.replicate (2 - (lg_sl [.ref (ad (33 + 5 * h)), .int a1]).length) Slot.unset).toArray) [] := by rw [hargs]; exact lg_entry_eq _ _ _
  rw [hfr]
  have hl := lv_entry ([.ref (ad (33 + 5 * h)), .int a1]) (n := 2) (Nat.le_of_ble_eq_true rfl)
  generalize (lg_sl [.ref (ad (33 + 5 * h)), .int a1] ++ List.replicate (2 - (lg_sl [.ref (ad (33 + 5 * h)), .int a1]).length) Slot.unset).toArray = ls at hl ⊢
  have hl : lv_has ls 2 [(0, .ref (ad (33 + 5 * h))), (1, .int a1)] := hl
  clear hfr hargs B
  show W p l e rmX1_roomOf s m args below meth c s.heap [] 0 0 (MQ below (Qiw (dC, dI) 93 ad (layX ad cy) res σ) args s 0 0 (WA 93 ad)) (F0 m 0 ls [])
  unfold fX1_roomOf at hf
  obtain ⟨H, eH⟩ : ∃ H : Heap, H = s.heap := ⟨_, rfl⟩
  rw [← eH] at hP
  have hS : va_S (WA 93 ad) s.heap H [] := by rw [eH]; exact hS
  suffices K : W p l e rmX1_roomOf s m args below meth c H [] 0 0 (MQ below (Qiw (dC, dI) 93 ad (layX ad cy) res σ) args s 0 0 (WA 93 ad)) (F0 m 0 ls []) by rw [eH] at K; exact K
  clear eH
  obtain ⟨locs, elocs⟩ : ∃ z : List Loc, z = [] := ⟨_, rfl⟩
  rw [← elocs] at hS ⊢
  refine lv_aload_n hx hb dX1_roomOf_0 rfl (lv_at hl 0 rfl) ?_
  refine xt_get (ci := 1) (C := RX1) (T := TX1) (n := 8) (v := .ref (ad ((33 + 5 * h) + 2))) hx hb hts iX1_roomOf_X1 hown hK hP (33 + 5 * h) (by omega) (LX1_obj ad cy h hh _) rfl 1 (by decide) w1 rfl dX1_roomOf_1 ?_
  refine lv_iload_n hx hb dX1_roomOf_4 rfl (lv_at hl 1 rfl) ?_
  obtain ⟨g1, hf⟩ := gd_some hf
  refine xt_zald hx hb hK hP ((33 + 5 * h) + 2) (by omega) 1 (LX1_opened ad cy h hh _) rfl g1 dX1_roomOf_5 ?_
  refine lv_if_eq (tgt := 23) hx hb dX1_roomOf_6 (by decide) (fun c2 => ?_) (fun c2 => ?_)
  · have hf := (if_pos c2).symm.trans hf
    refine lv_iconst (v := 0) hx hb dX1_roomOf_23 (by decide) ?_
    exact xt_iret hx hb hr hP hS (Option.some.inj hf) rfl dX1_roomOf_24 hlocks
  · have hf := (if_neg c2).symm.trans hf
    refine lv_aload_n hx hb dX1_roomOf_9 rfl (lv_at hl 0 rfl) ?_
    refine xt_get (ci := 1) (C := RX1) (T := TX1) (n := 8) (v := .ref (ad ((33 + 5 * h) + 1))) hx hb hts iX1_roomOf_X1 hown hK hP (33 + 5 * h) (by omega) (LX1_obj ad cy h hh _) rfl 0 (by decide) w2 rfl dX1_roomOf_10 ?_
    refine lv_iload_n hx hb dX1_roomOf_13 rfl (lv_at hl 1 rfl) ?_
    obtain ⟨g3, hf⟩ := gd_some hf
    refine xt_iald hx hb hK hP ((33 + 5 * h) + 1) (by omega) 0 (LX1_berths ad cy h hh _) rfl g3 dX1_roomOf_14 ?_
    refine lv_aload_n hx hb dX1_roomOf_15 rfl (lv_at hl 0 rfl) ?_
    refine xt_get (ci := 1) (C := RX1) (T := TX1) (n := 8) (v := .int (σ (33 + 5 * h) 6)) hx hb hts iX1_roomOf_X1 hown hK hP (33 + 5 * h) (by omega) (LX1_obj ad cy h hh _) rfl 6 (by decide) w3 rfl dX1_roomOf_16 ?_
    refine lv_imul hx hb dX1_roomOf_19 ?_
    refine lv_goto (tgt := 24) hx hb dX1_roomOf_20 (by decide) ?_
    exact xt_iret hx hb hr hP hS (Option.some.inj hf) rfl dX1_roomOf_24 hlocks
def fX1_allRoom_B26 (h : Nat) (σ : St) (x1 : Int32) : Option Int32 :=
  some x1
def fX1_allRoom_L4 (h : Nat) (σ : St) (K4_26 : Int32 → Option Int32) : Nat → Int32 → Int32 → Option Int32
  | 0, _, _ => none
  | n4 + 1, x1, x2 => if (σ (33 + 5 * h) 4) ≤ x2 then (K4_26 x1) else (bd (fX1_roomOf h σ x2) fun r2 => nm (x1 + r2) fun v3 => nm (x2 + 1) fun v4 => (fX1_allRoom_L4 h σ K4_26 n4) v3 v4)
def fX1_allRoom (h : Nat) (σ : St) : Option Int32 :=
  fX1_allRoom_L4 h σ (fun y1 => fX1_allRoom_B26 h σ y1) 1000 0 0
abbrev rmX1_allRoom : Room := { frames := 1, cells := 0, slots := 0, locals := 21 }
theorem dmX1_allRoom : yX1_allRoom.cls = RX1 ∧ yX1_allRoom.cls ≠ "java/lang/invoke/MethodHandle" ∧ yX1_allRoom.cls ≠ "java/lang/invoke/VarHandle" ∧ (parseMethodDescriptor yX1_allRoom.desc).map (fun d => d.parameters.length) = some 0 := by decide +kernel
theorem iX1_allRoom_X1 : ∀ w ∈ wsX10, w ∈ wsX1_allRoom := fun w h => List.mem_cons_of_mem _ (List.mem_append_right _ (h))
set_option maxHeartbeats 8000000 in
set_option maxRecDepth 100000 in
theorem mX1_allRoom (l : Launch) (dC : Nat → ClassId) (dI : Nat → Nat → Nat) (ad : Nat → Nat) (cy : Nat → ClassId) (hJ : WJ 93 ad) (h : Nat) (hh : h < 12) (σ : St) (res : Int32) (hf : fX1_allRoom h σ = some res) : CMi l yX1_allRoom wsX1_allRoom rmX1_allRoom (dC, dI) (tysX cy) 93 ad (layX ad cy) [.ref (ad (33 + 5 * h))] σ res σ := by
  refine Met.ofW (cc := cX1_allRoom) (maxL := 3) (ret := (some .int)) (by decide) rfl ?_
  intro p e s m args below meth c s₁ B hml hv
  obtain ⟨hargs, hP, hK⟩ := hv
  have hx := B.exec
  have hb := B.bytes
  have hr := B.returns
  have hts := atoms_spec (ws := wsX1_allRoom) B.pre
  have hown : s.vm.findClass RX1 = some m.cls := findClass_of_methodNamed B.named
  have hlocks := B.notSynchronized
  have w1 := hts (.fieldLink RX1 25 "PierRings$Harbour" "piers" "I") (List.mem_of_getElem? (i := 1) rfl)
  have hS : va_S (WA 93 ad) s.heap s.heap [] := va_S.rf
  have hfr : entryFrame m args 3 = F0 m 0 ((lg_sl [.ref (ad (33 + 5 * h))] ++ List.replicate (3 - (lg_sl [.ref (ad (33 + 5 * h))]).length) Slot.unset).toArray) [] := by rw [hargs]; exact lg_entry_eq _ _ _
  rw [hfr]
  have hl := lv_entry ([.ref (ad (33 + 5 * h))]) (n := 3) (Nat.le_of_ble_eq_true rfl)
  generalize (lg_sl [.ref (ad (33 + 5 * h))] ++ List.replicate (3 - (lg_sl [.ref (ad (33 + 5 * h))]).length) Slot.unset).toArray = ls at hl ⊢
  have hl : lv_has ls 3 [(0, .ref (ad (33 + 5 * h)))] := hl
  clear hfr hargs B
  show W p l e rmX1_allRoom s m args below meth c s.heap [] 0 0 (MQ below (Qiw (dC, dI) 93 ad (layX ad cy) res σ) args s 0 0 (WA 93 ad)) (F0 m 0 ls [])
  have kB26 : ∀ (x1 : Int32), fX1_allRoom_B26 h σ x1 = some res → ∀ (H : Heap) (locs : List Loc), va_P (dC, dI) vwCl (wd 93 ad (layX ad cy) σ) H → va_S (WA 93 ad) s.heap H locs → ∀ (ls : Array Slot), lv_has ls 3 [(1, .int x1)] → W p l e rmX1_allRoom s m args below meth c H locs 0 0 (MQ below (Qiw (dC, dI) 93 ad (layX ad cy) res σ) args s 0 0 (WA 93 ad)) (F0 m 26 ls []) := by
    intro x1 hf H locs hP hS ls hl
    unfold fX1_allRoom_B26 at hf
    refine lv_iload_n hx hb dX1_allRoom_26 rfl (lv_at hl 0 rfl) ?_
    exact xt_iret hx hb hr hP hS (Option.some.inj hf) rfl dX1_allRoom_27 hlocks
  have loop4 : ∀ (n4 : Nat) (x1 : Int32) (x2 : Int32), fX1_allRoom_L4 h σ (fun y1 => fX1_allRoom_B26 h σ y1) n4 x1 x2 = some res → ∀ (H : Heap) (locs : List Loc), va_P (dC, dI) vwCl (wd 93 ad (layX ad cy) σ) H → va_S (WA 93 ad) s.heap H locs → ∀ (ls : Array Slot), lv_has ls 3 [(0, .ref (ad (33 + 5 * h))), (1, .int x1), (2, .int x2)] → W p l e rmX1_allRoom s m args below meth c H locs 0 0 (MQ below (Qiw (dC, dI) 93 ad (layX ad cy) res σ) args s 0 0 (WA 93 ad)) (F0 m 4 ls []) := by
    intro n4
    induction n4 with
    | zero => intro x1 x2 hf; simp [fX1_allRoom_L4] at hf
    | succ n4 ih4 =>
      intro x1 x2 hf H locs hP hS ls hl
      rw [fX1_allRoom_L4] at hf
      refine lv_iload_n hx hb dX1_allRoom_4 rfl (lv_at hl 2 rfl) ?_
      refine lv_aload_n hx hb dX1_allRoom_5 rfl (lv_at hl 0 rfl) ?_
      refine xt_get (ci := 1) (C := RX1) (T := TX1) (n := 8) (v := .int (σ (33 + 5 * h) 4)) hx hb hts iX1_allRoom_X1 hown hK hP (33 + 5 * h) (by omega) (LX1_obj ad cy h hh _) rfl 4 (by decide) w1 rfl dX1_allRoom_6 ?_
      refine lv_icmp_ge (tgt := 26) hx hb dX1_allRoom_9 (by decide) (fun c1 => ?_) (fun c1 => ?_)
      · have hf := (if_pos c1).symm.trans hf
        exact kB26 x1 hf H locs hP hS ls (lv_sub hl [1] rfl)
      · have hf := (if_neg c1).symm.trans hf
        refine lv_iload_n hx hb dX1_allRoom_12 rfl (lv_at hl 1 rfl) ?_
        refine lv_aload_n hx hb dX1_allRoom_13 rfl (lv_at hl 0 rfl) ?_
        refine lv_iload_n hx hb dX1_allRoom_14 rfl (lv_at hl 2 rfl) ?_
        obtain ⟨r2, qr2, hf⟩ := bd_some hf
        refine xt_callVi (As := [.int x2]) (rest := [.int x1]) (C := RX1) (ci := 1) ⟨hx, hb, hml, hown, hts⟩ (33 + 5 * h) (mX1_roomOf l dC dI ad cy hJ h hh σ x2 r2 qr2) (cwV 1 hts gX1_allRoom_X1_roomOf rfl rfl rfl dmX1_roomOf ⟨Nat.le_of_ble_eq_true rfl, Nat.le_of_ble_eq_true rfl⟩) hK hP hS (by omega) (LX1_obj ad cy h hh _) rfl rfl rfl hl.1 (Nat.le_of_ble_eq_true rfl) ⟨Nat.zero_le _, Nat.zero_le _⟩ dX1_allRoom_15 (fun H locs hP hS => ?_)
        refine lv_iadd hx hb dX1_allRoom_18 ?_
        refine lv_topi (fun v3 ev3 => ?_)
        have hf := nm_to hf ev3
        refine lv_istore_n (lv' := [(1, .int v3), (0, .ref (ad (33 + 5 * h))), (2, .int x2)]) hx hb dX1_allRoom_19 rfl hl (by decide) rfl (fun ls hl => ?_)
        obtain ⟨v4, ev4⟩ : ∃ y : Int32, y = x2 + 1 := ⟨_, rfl⟩
        have hf := nm_to hf ev4
        refine lv_iinc (v := v4) (lv' := [(2, .int v4), (1, .int v3), (0, .ref (ad (33 + 5 * h)))]) hx hb dX1_allRoom_20 hl (k := 2) rfl (by rw [ev4]; rfl) (by decide) rfl (fun ls hl => ?_)
        refine lv_goto (tgt := 4) hx hb dX1_allRoom_23 (by decide) ?_
        exact ih4 v3 v4 hf H locs hP hS ls (lv_sub hl [2, 1, 0] rfl)
  unfold fX1_allRoom at hf
  obtain ⟨H, eH⟩ : ∃ H : Heap, H = s.heap := ⟨_, rfl⟩
  rw [← eH] at hP
  have hS : va_S (WA 93 ad) s.heap H [] := by rw [eH]; exact hS
  suffices K : W p l e rmX1_allRoom s m args below meth c H [] 0 0 (MQ below (Qiw (dC, dI) 93 ad (layX ad cy) res σ) args s 0 0 (WA 93 ad)) (F0 m 0 ls []) by rw [eH] at K; exact K
  clear eH
  obtain ⟨locs, elocs⟩ : ∃ z : List Loc, z = [] := ⟨_, rfl⟩
  rw [← elocs] at hS ⊢
  refine lv_iconst (v := 0) hx hb dX1_allRoom_0 (by decide) ?_
  refine lv_istore_n (lv' := [(1, .int 0), (0, .ref (ad (33 + 5 * h)))]) hx hb dX1_allRoom_1 rfl hl (by decide) rfl (fun ls hl => ?_)
  refine lv_iconst (v := 0) hx hb dX1_allRoom_2 (by decide) ?_
  refine lv_istore_n (lv' := [(2, .int 0), (1, .int 0), (0, .ref (ad (33 + 5 * h)))]) hx hb dX1_allRoom_3 rfl hl (by decide) rfl (fun ls hl => ?_)
  exact loop4 1000 0 0 hf H locs hP hS ls (lv_sub hl [2, 1, 0] rfl)
def fX1_openPiers_B30 (h : Nat) (σ : St) (x1 : Int32) : Option Int32 :=
  some x1
def fX1_openPiers_L4 (h : Nat) (σ : St) (K4_30 : Int32 → Option Int32) : Nat → Int32 → Int32 → Option Int32
  | 0, _, _ => none
  | n4 + 1, x1, x2 => if (σ (33 + 5 * h) 4) ≤ x2 then (K4_30 x1) else (gd (okI x2 8) <| if (σ ((33 + 5 * h) + 2) x2.toNatClampNeg) = 0 then (nm (x2 + 1) fun v4 => (fX1_openPiers_L4 h σ K4_30 n4) x1 v4) else (nm (x1 + 1) fun v5 => nm (x2 + 1) fun v6 => (fX1_openPiers_L4 h σ K4_30 n4) v5 v6))
def fX1_openPiers (h : Nat) (σ : St) : Option Int32 :=
  fX1_openPiers_L4 h σ (fun y1 => fX1_openPiers_B30 h σ y1) 1000 0 0
abbrev rmX1_openPiers : Room := { frames := 0, cells := 0, slots := 0, locals := 0 }
theorem dmX1_openPiers : yX1_openPiers.cls = RX1 ∧ yX1_openPiers.cls ≠ "java/lang/invoke/MethodHandle" ∧ yX1_openPiers.cls ≠ "java/lang/invoke/VarHandle" ∧ (parseMethodDescriptor yX1_openPiers.desc).map (fun d => d.parameters.length) = some 0 := by decide +kernel
theorem iX1_openPiers_X1 : ∀ w ∈ wsX10, w ∈ wsX1_openPiers := fun w h => List.mem_cons_of_mem _ (List.mem_append_right _ (h))
set_option maxHeartbeats 8000000 in
set_option maxRecDepth 100000 in
theorem mX1_openPiers (l : Launch) (dC : Nat → ClassId) (dI : Nat → Nat → Nat) (ad : Nat → Nat) (cy : Nat → ClassId) (hJ : WJ 93 ad) (h : Nat) (hh : h < 12) (σ : St) (res : Int32) (hf : fX1_openPiers h σ = some res) : CMi l yX1_openPiers wsX1_openPiers rmX1_openPiers (dC, dI) (tysX cy) 93 ad (layX ad cy) [.ref (ad (33 + 5 * h))] σ res σ := by
  refine Met.ofW (cc := cX1_openPiers) (maxL := 3) (ret := (some .int)) (by decide) rfl ?_
  intro p e s m args below meth c s₁ B hml hv
  obtain ⟨hargs, hP, hK⟩ := hv
  have hx := B.exec
  have hb := B.bytes
  have hr := B.returns
  have hts := atoms_spec (ws := wsX1_openPiers) B.pre
  have hown : s.vm.findClass RX1 = some m.cls := findClass_of_methodNamed B.named
  have hlocks := B.notSynchronized
  have w1 := hts (.fieldLink RX1 25 "PierRings$Harbour" "piers" "I") (List.mem_of_getElem? (i := 1) rfl)
  have w2 := hts (.fieldLink RX1 15 "PierRings$Harbour" "opened" "[Z") (List.mem_of_getElem? (i := 2) rfl)
  have hS : va_S (WA 93 ad) s.heap s.heap [] := va_S.rf
  have hfr : entryFrame m args 3 = F0 m 0 ((lg_sl [.ref (ad (33 + 5 * h))] ++ List.replicate (3 - (lg_sl [.ref (ad (33 + 5 * h))]).length) Slot.unset).toArray) [] := by rw [hargs]; exact lg_entry_eq _ _ _
  rw [hfr]
  have hl := lv_entry ([.ref (ad (33 + 5 * h))]) (n := 3) (Nat.le_of_ble_eq_true rfl)
  generalize (lg_sl [.ref (ad (33 + 5 * h))] ++ List.replicate (3 - (lg_sl [.ref (ad (33 + 5 * h))]).length) Slot.unset).toArray = ls at hl ⊢
  have hl : lv_has ls 3 [(0, .ref (ad (33 + 5 * h)))] := hl
  clear hfr hargs B
  show W p l e rmX1_openPiers s m args below meth c s.heap [] 0 0 (MQ below (Qiw (dC, dI) 93 ad (layX ad cy) res σ) args s 0 0 (WA 93 ad)) (F0 m 0 ls [])
  have kB30 : ∀ (x1 : Int32), fX1_openPiers_B30 h σ x1 = some res → ∀ (H : Heap) (locs : List Loc), va_P (dC, dI) vwCl (wd 93 ad (layX ad cy) σ) H → va_S (WA 93 ad) s.heap H locs → ∀ (ls : Array Slot), lv_has ls 3 [(1, .int x1)] → W p l e rmX1_openPiers s m args below meth c H locs 0 0 (MQ below (Qiw (dC, dI) 93 ad (layX ad cy) res σ) args s 0 0 (WA 93 ad)) (F0 m 30 ls []) := by
    intro x1 hf H locs hP hS ls hl
    unfold fX1_openPiers_B30 at hf
    refine lv_iload_n hx hb dX1_openPiers_30 rfl (lv_at hl 0 rfl) ?_
    exact xt_iret hx hb hr hP hS (Option.some.inj hf) rfl dX1_openPiers_31 hlocks
  have loop4 : ∀ (n4 : Nat) (x1 : Int32) (x2 : Int32), fX1_openPiers_L4 h σ (fun y1 => fX1_openPiers_B30 h σ y1) n4 x1 x2 = some res → ∀ (H : Heap) (locs : List Loc), va_P (dC, dI) vwCl (wd 93 ad (layX ad cy) σ) H → va_S (WA 93 ad) s.heap H locs → ∀ (ls : Array Slot), lv_has ls 3 [(0, .ref (ad (33 + 5 * h))), (1, .int x1), (2, .int x2)] → W p l e rmX1_openPiers s m args below meth c H locs 0 0 (MQ below (Qiw (dC, dI) 93 ad (layX ad cy) res σ) args s 0 0 (WA 93 ad)) (F0 m 4 ls []) := by
    intro n4
    induction n4 with
    | zero => intro x1 x2 hf; simp [fX1_openPiers_L4] at hf
    | succ n4 ih4 =>
      intro x1 x2 hf H locs hP hS ls hl
      rw [fX1_openPiers_L4] at hf
      refine lv_iload_n hx hb dX1_openPiers_4 rfl (lv_at hl 2 rfl) ?_
      refine lv_aload_n hx hb dX1_openPiers_5 rfl (lv_at hl 0 rfl) ?_
      refine xt_get (ci := 1) (C := RX1) (T := TX1) (n := 8) (v := .int (σ (33 + 5 * h) 4)) hx hb hts iX1_openPiers_X1 hown hK hP (33 + 5 * h) (by omega) (LX1_obj ad cy h hh _) rfl 4 (by decide) w1 rfl dX1_openPiers_6 ?_
      refine lv_icmp_ge (tgt := 30) hx hb dX1_openPiers_9 (by decide) (fun c1 => ?_) (fun c1 => ?_)
      · have hf := (if_pos c1).symm.trans hf
        exact kB30 x1 hf H locs hP hS ls (lv_sub hl [1] rfl)
      · have hf := (if_neg c1).symm.trans hf
        refine lv_aload_n hx hb dX1_openPiers_12 rfl (lv_at hl 0 rfl) ?_
        refine xt_get (ci := 1) (C := RX1) (T := TX1) (n := 8) (v := .ref (ad ((33 + 5 * h) + 2))) hx hb hts iX1_openPiers_X1 hown hK hP (33 + 5 * h) (by omega) (LX1_obj ad cy h hh _) rfl 1 (by decide) w2 rfl dX1_openPiers_13 ?_
        refine lv_iload_n hx hb dX1_openPiers_16 rfl (lv_at hl 2 rfl) ?_
        obtain ⟨g2, hf⟩ := gd_some hf
        refine xt_zald hx hb hK hP ((33 + 5 * h) + 2) (by omega) 1 (LX1_opened ad cy h hh _) rfl g2 dX1_openPiers_17 ?_
        refine lv_if_eq (tgt := 24) hx hb dX1_openPiers_18 (by decide) (fun c3 => ?_) (fun c3 => ?_)
        · have hf := (if_pos c3).symm.trans hf
          obtain ⟨v4, ev4⟩ : ∃ y : Int32, y = x2 + 1 := ⟨_, rfl⟩
          have hf := nm_to hf ev4
          refine lv_iinc (v := v4) (lv' := [(2, .int v4), (0, .ref (ad (33 + 5 * h))), (1, .int x1)]) hx hb dX1_openPiers_24 hl (k := 2) rfl (by rw [ev4]; rfl) (by decide) rfl (fun ls hl => ?_)
          refine lv_goto (tgt := 4) hx hb dX1_openPiers_27 (by decide) ?_
          exact ih4 x1 v4 hf H locs hP hS ls (lv_sub hl [1, 2, 0] rfl)
        · have hf := (if_neg c3).symm.trans hf
          obtain ⟨v5, ev5⟩ : ∃ y : Int32, y = x1 + 1 := ⟨_, rfl⟩
          have hf := nm_to hf ev5
          refine lv_iinc (v := v5) (lv' := [(1, .int v5), (0, .ref (ad (33 + 5 * h))), (2, .int x2)]) hx hb dX1_openPiers_21 hl (k := 1) rfl (by rw [ev5]; rfl) (by decide) rfl (fun ls hl => ?_)
          obtain ⟨v6, ev6⟩ : ∃ y : Int32, y = x2 + 1 := ⟨_, rfl⟩
          have hf := nm_to hf ev6
          refine lv_iinc (v := v6) (lv' := [(2, .int v6), (1, .int v5), (0, .ref (ad (33 + 5 * h)))]) hx hb dX1_openPiers_24 hl (k := 2) rfl (by rw [ev6]; rfl) (by decide) rfl (fun ls hl => ?_)
          refine lv_goto (tgt := 4) hx hb dX1_openPiers_27 (by decide) ?_
          exact ih4 v5 v6 hf H locs hP hS ls (lv_sub hl [2, 1, 0] rfl)
  unfold fX1_openPiers at hf
  obtain ⟨H, eH⟩ : ∃ H : Heap, H = s.heap := ⟨_, rfl⟩
  rw [← eH] at hP
  have hS : va_S (WA 93 ad) s.heap H [] := by rw [eH]; exact hS
  suffices K : W p l e rmX1_openPiers s m args below meth c H [] 0 0 (MQ below (Qiw (dC, dI) 93 ad (layX ad cy) res σ) args s 0 0 (WA 93 ad)) (F0 m 0 ls []) by rw [eH] at K; exact K
  clear eH
  obtain ⟨locs, elocs⟩ : ∃ z : List Loc, z = [] := ⟨_, rfl⟩
  rw [← elocs] at hS ⊢
  refine lv_iconst (v := 0) hx hb dX1_openPiers_0 (by decide) ?_
  refine lv_istore_n (lv' := [(1, .int 0), (0, .ref (ad (33 + 5 * h)))]) hx hb dX1_openPiers_1 rfl hl (by decide) rfl (fun ls hl => ?_)
  refine lv_iconst (v := 0) hx hb dX1_openPiers_2 (by decide) ?_
  refine lv_istore_n (lv' := [(2, .int 0), (1, .int 0), (0, .ref (ad (33 + 5 * h)))]) hx hb dX1_openPiers_3 rfl hl (by decide) rfl (fun ls hl => ?_)
  exact loop4 1000 0 0 hf H locs hP hS ls (lv_sub hl [2, 1, 0] rfl)
def fX1_allTons_B27 (h : Nat) (σ : St) (x1 : Int32) : Option Int32 :=
  some x1
def fX1_allTons_L4 (h : Nat) (σ : St) (K4_27 : Int32 → Option Int32) : Nat → Int32 → Int32 → Option Int32
  | 0, _, _ => none
  | n4 + 1, x1, x2 => if (σ (33 + 5 * h) 5) ≤ x2 then (K4_27 x1) else (gd (okI x2 24) <| nm (x1 + (σ ((33 + 5 * h) + 4) x2.toNatClampNeg)) fun v3 => nm (x2 + 1) fun v4 => (fX1_allTons_L4 h σ K4_27 n4) v3 v4)
def fX1_allTons (h : Nat) (σ : St) : Option Int32 :=
  fX1_allTons_L4 h σ (fun y1 => fX1_allTons_B27 h σ y1) 1000 0 0
abbrev rmX1_allTons : Room := { frames := 0, cells := 0, slots := 0, locals := 0 }
theorem dmX1_allTons : yX1_allTons.cls = RX1 ∧ yX1_allTons.cls ≠ "java/lang/invoke/MethodHandle" ∧ yX1_allTons.cls ≠ "java/lang/invoke/VarHandle" ∧ (parseMethodDescriptor yX1_allTons.desc).map (fun d => d.parameters.length) = some 0 := by decide +kernel
theorem iX1_allTons_X1 : ∀ w ∈ wsX10, w ∈ wsX1_allTons := fun w h => List.mem_cons_of_mem _ (List.mem_append_right _ (h))
set_option maxHeartbeats 8000000 in
set_option maxRecDepth 100000 in
theorem mX1_allTons (l : Launch) (dC : Nat → ClassId) (dI : Nat → Nat → Nat) (ad : Nat → Nat) (cy : Nat → ClassId) (hJ : WJ 93 ad) (h : Nat) (hh : h < 12) (σ : St) (res : Int32) (hf : fX1_allTons h σ = some res) : CMi l yX1_allTons wsX1_allTons rmX1_allTons (dC, dI) (tysX cy) 93 ad (layX ad cy) [.ref (ad (33 + 5 * h))] σ res σ := by
  refine Met.ofW (cc := cX1_allTons) (maxL := 3) (ret := (some .int)) (by decide) rfl ?_
  intro p e s m args below meth c s₁ B hml hv
  obtain ⟨hargs, hP, hK⟩ := hv
  have hx := B.exec
  have hb := B.bytes
  have hr := B.returns
  have hts := atoms_spec (ws := wsX1_allTons) B.pre
  have hown : s.vm.findClass RX1 = some m.cls := findClass_of_methodNamed B.named
  have hlocks := B.notSynchronized
  have w1 := hts (.fieldLink RX1 29 "PierRings$Harbour" "barges" "I") (List.mem_of_getElem? (i := 1) rfl)
  have w2 := hts (.fieldLink RX1 22 "PierRings$Harbour" "tons" "[I") (List.mem_of_getElem? (i := 2) rfl)
  have hS : va_S (WA 93 ad) s.heap s.heap [] := va_S.rf
  have hfr : entryFrame m args 3 = F0 m 0 ((lg_sl [.ref (ad (33 + 5 * h))] ++ List.replicate (3 - (lg_sl [.ref (ad (33 + 5 * h))]).length) Slot.unset).toArray) [] := by rw [hargs]; exact lg_entry_eq _ _ _
  rw [hfr]
  have hl := lv_entry ([.ref (ad (33 + 5 * h))]) (n := 3) (Nat.le_of_ble_eq_true rfl)
  generalize (lg_sl [.ref (ad (33 + 5 * h))] ++ List.replicate (3 - (lg_sl [.ref (ad (33 + 5 * h))]).length) Slot.unset).toArray = ls at hl ⊢
  have hl : lv_has ls 3 [(0, .ref (ad (33 + 5 * h)))] := hl
  clear hfr hargs B
  show W p l e rmX1_allTons s m args below meth c s.heap [] 0 0 (MQ below (Qiw (dC, dI) 93 ad (layX ad cy) res σ) args s 0 0 (WA 93 ad)) (F0 m 0 ls [])
  have kB27 : ∀ (x1 : Int32), fX1_allTons_B27 h σ x1 = some res → ∀ (H : Heap) (locs : List Loc), va_P (dC, dI) vwCl (wd 93 ad (layX ad cy) σ) H → va_S (WA 93 ad) s.heap H locs → ∀ (ls : Array Slot), lv_has ls 3 [(1, .int x1)] → W p l e rmX1_allTons s m args below meth c H locs 0 0 (MQ below (Qiw (dC, dI) 93 ad (layX ad cy) res σ) args s 0 0 (WA 93 ad)) (F0 m 27 ls []) := by
    intro x1 hf H locs hP hS ls hl
    unfold fX1_allTons_B27 at hf
    refine lv_iload_n hx hb dX1_allTons_27 rfl (lv_at hl 0 rfl) ?_
    exact xt_iret hx hb hr hP hS (Option.some.inj hf) rfl dX1_allTons_28 hlocks
  have loop4 : ∀ (n4 : Nat) (x1 : Int32) (x2 : Int32), fX1_allTons_L4 h σ (fun y1 => fX1_allTons_B27 h σ y1) n4 x1 x2 = some res → ∀ (H : Heap) (locs : List Loc), va_P (dC, dI) vwCl (wd 93 ad (layX ad cy) σ) H → va_S (WA 93 ad) s.heap H locs → ∀ (ls : Array Slot), lv_has ls 3 [(0, .ref (ad (33 + 5 * h))), (1, .int x1), (2, .int x2)] → W p l e rmX1_allTons s m args below meth c H locs 0 0 (MQ below (Qiw (dC, dI) 93 ad (layX ad cy) res σ) args s 0 0 (WA 93 ad)) (F0 m 4 ls []) := by
    intro n4
    induction n4 with
    | zero => intro x1 x2 hf; simp [fX1_allTons_L4] at hf
    | succ n4 ih4 =>
      intro x1 x2 hf H locs hP hS ls hl
      rw [fX1_allTons_L4] at hf
      refine lv_iload_n hx hb dX1_allTons_4 rfl (lv_at hl 2 rfl) ?_
      refine lv_aload_n hx hb dX1_allTons_5 rfl (lv_at hl 0 rfl) ?_
      refine xt_get (ci := 1) (C := RX1) (T := TX1) (n := 8) (v := .int (σ (33 + 5 * h) 5)) hx hb hts iX1_allTons_X1 hown hK hP (33 + 5 * h) (by omega) (LX1_obj ad cy h hh _) rfl 5 (by decide) w1 rfl dX1_allTons_6 ?_
      refine lv_icmp_ge (tgt := 27) hx hb dX1_allTons_9 (by decide) (fun c1 => ?_) (fun c1 => ?_)
      · have hf := (if_pos c1).symm.trans hf
        exact kB27 x1 hf H locs hP hS ls (lv_sub hl [1] rfl)
      · have hf := (if_neg c1).symm.trans hf
        refine lv_iload_n hx hb dX1_allTons_12 rfl (lv_at hl 1 rfl) ?_
        refine lv_aload_n hx hb dX1_allTons_13 rfl (lv_at hl 0 rfl) ?_
        refine xt_get (ci := 1) (C := RX1) (T := TX1) (n := 8) (v := .ref (ad ((33 + 5 * h) + 4))) hx hb hts iX1_allTons_X1 hown hK hP (33 + 5 * h) (by omega) (LX1_obj ad cy h hh _) rfl 3 (by decide) w2 rfl dX1_allTons_14 ?_
        refine lv_iload_n hx hb dX1_allTons_17 rfl (lv_at hl 2 rfl) ?_
        obtain ⟨g2, hf⟩ := gd_some hf
        refine xt_iald hx hb hK hP ((33 + 5 * h) + 4) (by omega) 0 (LX1_tons ad cy h hh _) rfl g2 dX1_allTons_18 ?_
        refine lv_iadd hx hb dX1_allTons_19 ?_
        refine lv_topi (fun v3 ev3 => ?_)
        have hf := nm_to hf ev3
        refine lv_istore_n (lv' := [(1, .int v3), (0, .ref (ad (33 + 5 * h))), (2, .int x2)]) hx hb dX1_allTons_20 rfl hl (by decide) rfl (fun ls hl => ?_)
        obtain ⟨v4, ev4⟩ : ∃ y : Int32, y = x2 + 1 := ⟨_, rfl⟩
        have hf := nm_to hf ev4
        refine lv_iinc (v := v4) (lv' := [(2, .int v4), (1, .int v3), (0, .ref (ad (33 + 5 * h)))]) hx hb dX1_allTons_21 hl (k := 2) rfl (by rw [ev4]; rfl) (by decide) rfl (fun ls hl => ?_)
        refine lv_goto (tgt := 4) hx hb dX1_allTons_24 (by decide) ?_
        exact ih4 v3 v4 hf H locs hP hS ls (lv_sub hl [2, 1, 0] rfl)
  unfold fX1_allTons at hf
  obtain ⟨H, eH⟩ : ∃ H : Heap, H = s.heap := ⟨_, rfl⟩
  rw [← eH] at hP
  have hS : va_S (WA 93 ad) s.heap H [] := by rw [eH]; exact hS
  suffices K : W p l e rmX1_allTons s m args below meth c H [] 0 0 (MQ below (Qiw (dC, dI) 93 ad (layX ad cy) res σ) args s 0 0 (WA 93 ad)) (F0 m 0 ls []) by rw [eH] at K; exact K
  clear eH
  obtain ⟨locs, elocs⟩ : ∃ z : List Loc, z = [] := ⟨_, rfl⟩
  rw [← elocs] at hS ⊢
  refine lv_iconst (v := 0) hx hb dX1_allTons_0 (by decide) ?_
  refine lv_istore_n (lv' := [(1, .int 0), (0, .ref (ad (33 + 5 * h)))]) hx hb dX1_allTons_1 rfl hl (by decide) rfl (fun ls hl => ?_)
  refine lv_iconst (v := 0) hx hb dX1_allTons_2 (by decide) ?_
  refine lv_istore_n (lv' := [(2, .int 0), (1, .int 0), (0, .ref (ad (33 + 5 * h)))]) hx hb dX1_allTons_3 rfl hl (by decide) rfl (fun ls hl => ?_)
  exact loop4 1000 0 0 hf H locs hP hS ls (lv_sub hl [2, 1, 0] rfl)
