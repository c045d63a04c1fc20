def fX7_moves (σ : St) : Option (Int32 × St) :=
  bd (fX7_moved σ) fun r1 => nm (su r1.2 1 (3 : Int32).toNatClampNeg ((r1.2 1 (3 : Int32).toNatClampNeg) + r1.1)) fun σ2 => some (r1.1, σ2)
abbrev rmX7_moves : Room := { frames := 5, cells := 0, slots := 0, locals := 108 }
theorem dmX7_moves : yX7_moves.cls = RX7 ∧ yX7_moves.cls ≠ "java/lang/invoke/MethodHandle" ∧ yX7_moves.cls ≠ "java/lang/invoke/VarHandle" ∧ (parseMethodDescriptor yX7_moves.desc).map (fun d => d.parameters.length) = some 0 := by decide +kernel
theorem iX7_moves_X7 : ∀ w ∈ wsX70, w ∈ wsX7_moves := fun w h => List.mem_cons_of_mem _ (List.mem_append_right _ (h))
set_option maxHeartbeats 8000000 in
set_option maxRecDepth 100000 in
theorem mX7_moves (l : Launch) (dC : Nat → ClassId) (dI : Nat → Nat → Nat) (ad : Nat → Nat) (cy : Nat → ClassId) (hJ : WJ 16 ad) (σ : St) (res : (Int32 × St)) (hf : fX7_moves σ = some res) : CMi l yX7_moves wsX7_moves rmX7_moves (dC, dI) (tysX cy) 16 ad (layM ad cy) [.ref (ad 0)] σ res.1 res.2 := by
  refine Met.ofW (cc := cX7_moves) (maxL := 2) (ret := (some .int)) (by decide) rfl ?_
  intro p e s m args below meth c s₁ B hml hv
  obtain ⟨hargs, hP, hK⟩ := hv
  have hx := B.exec
  have hb := B.bytes
  have hr := B.returns
  have hts := atoms_spec (ws := wsX7_moves) B.pre
  have hown : s.vm.findClass RX7 = some m.cls := findClass_of_methodNamed B.named
  have hlocks := B.notSynchronized
  have w1 := hts (.fieldLink RX7 9 "PierRingsModel" "all" "[I") (List.mem_of_getElem? (i := 1) rfl)
  have hS : va_S (WA 16 ad) s.heap s.heap [] := va_S.rf
  have hfr : entryFrame m args 2 = F0 m 0 ((lg_sl [.ref (ad 0)] ++ List.replicate (2 - (lg_sl [.ref (ad 0)]).length) Slot.unset).toArray) [] := by rw [hargs]; exact lg_entry_eq _ _ _
  rw [hfr]
  have hl := lv_entry ([.ref (ad 0)]) (n := 2) (Nat.le_of_ble_eq_true rfl)
  generalize (lg_sl [.ref (ad 0)] ++ List.replicate (2 - (lg_sl [.ref (ad 0)]).length) Slot.unset).toArray = ls at hl ⊢
  have hl : lv_has ls 2 [(0, .ref (ad 0))] := hl
  clear hfr hargs B
  show W p l e rmX7_moves s m args below meth c s.heap [] 0 0 (MQ below (Qiw (dC, dI) 16 ad (layM ad cy) res.1 res.2) args s 0 0 (WA 16 ad)) (F0 m 0 ls [])
  unfold fX7_moves at hf
  obtain ⟨H, eH⟩ : ∃ H : Heap, H = s.heap := ⟨_, rfl⟩
  rw [← eH] at hP
  have hS : va_S (WA 16 ad) s.heap H [] := by rw [eH]; exact hS
  suffices K : W p l e rmX7_moves s m args below meth c H [] 0 0 (MQ below (Qiw (dC, dI) 16 ad (layM ad cy) res.1 res.2) args s 0 0 (WA 16 ad)) (F0 m 0 ls []) by rw [eH] at K; exact K
  clear eH
  obtain ⟨locs, elocs⟩ : ∃ z : List Loc, z = [] := ⟨_, rfl⟩
  rw [← elocs] at hS ⊢
  refine lv_aload_n hx hb dX7_moves_0 rfl (lv_at hl 0 rfl) ?_
  obtain ⟨r1, qr1, hf⟩ := bd_some hf
  refine xt_callVi (As := []) (rest := []) (C := RX7) (ci := 7) ⟨hx, hb, hml, hown, hts⟩ 0 (mX7_moved l dC dI ad cy hJ σ r1 qr1) (cwV 0 hts gX7_moves_X7_moved rfl rfl rfl dmX7_moved ⟨Nat.le_of_ble_eq_true rfl, Nat.le_of_ble_eq_true rfl⟩) hK hP hS (by decide) (LX7_obj ad cy _) rfl rfl rfl hl.1 (Nat.le_of_ble_eq_true rfl) ⟨Nat.zero_le _, Nat.zero_le _⟩ dX7_moves_1 (fun H locs hP hS => ?_)
  refine lv_istore_n (lv' := [(1, .int r1.1), (0, .ref (ad 0))]) hx hb dX7_moves_4 rfl hl (by decide) rfl (fun ls hl => ?_)
  refine lv_aload_n hx hb dX7_moves_5 rfl (lv_at hl 1 rfl) ?_
  refine xt_get (ci := 7) (C := RX7) (T := TX7) (n := 25) (v := .ref (ad 1)) hx hb hts iX7_moves_X7 hown hK hP 0 (by decide) (LX7_obj ad cy _) rfl 0 (by decide) w1 rfl dX7_moves_6 ?_
  refine lv_iconst (v := 3) hx hb dX7_moves_9 (by decide) ?_
  refine lv_dup2_11 hx hb dX7_moves_10 rfl rfl ?_
  refine xt_iald hx hb hK hP 1 (by decide) 0 (LX7_all ad cy _) rfl (by decide) dX7_moves_11 ?_
  refine lv_iload_n hx hb dX7_moves_12 rfl (lv_at hl 0 rfl) ?_
  refine lv_iadd hx hb dX7_moves_13 ?_
  refine xt_iast hx hb hK hP hJ hS 1 (by decide) 0 (LX7_all ad cy) rfl (by decide) dX7_moves_14 (fun H locs hP hS => ?_)
  obtain ⟨σ2, eσ2⟩ : ∃ z : St, z = su r1.2 1 (3 : Int32).toNatClampNeg ((r1.2 1 (3 : Int32).toNatClampNeg) + r1.1) := ⟨_, rfl⟩
  rw [← eσ2] at hP
  have hf := nm_to hf eσ2
  refine lv_iload_n hx hb dX7_moves_15 rfl (lv_at hl 0 rfl) ?_
  exact xt_iret hx hb hr hP hS (rs_1 hf) (rs_2 hf) dX7_moves_16 hlocks
def fX7_joins (σ : St) (a1 : Int32) : Option (Int32 × St) :=
  bd (fX7_in σ a1 1 5) fun r1 => if r1 = 0 then (some ((-12), σ)) else (nm (σ 1 (0 : Int32).toNatClampNeg) fun v3 => if v3 = (8 : Int32) then (bd (fX7_refuses σ 1 8) fun r12 => some (r12.1, r12.2)) else (bd (fX7_looksAtHomes σ) fun r5 => gd (okI ((4 + (2 * v3)) + 0) 816) <| nm (su r5 1 ((4 + (2 * v3)) + 0).toNatClampNeg a1) fun σ7 => gd (okI ((4 + (2 * v3)) + 1) 816) <| nm (su σ7 1 ((4 + (2 * v3)) + 1).toNatClampNeg 1) fun σ9 => nm (su σ9 1 (0 : Int32).toNatClampNeg ((σ9 1 (0 : Int32).toNatClampNeg) + 1)) fun σ10 => bd (fX7_moves σ10) fun r11 => some (v3, r11.2)))
abbrev rmX7_joins : Room := { frames := 6, cells := 0, slots := 0, locals := 129 }
theorem dmX7_joins : yX7_joins.cls = RX7 ∧ yX7_joins.cls ≠ "java/lang/invoke/MethodHandle" ∧ yX7_joins.cls ≠ "java/lang/invoke/VarHandle" ∧ (parseMethodDescriptor yX7_joins.desc).map (fun d => d.parameters.length) = some 1 := by decide +kernel
theorem iX7_joins_X7 : ∀ w ∈ wsX70, w ∈ wsX7_joins := fun w h => List.mem_cons_of_mem _ (List.mem_append_right _ (h))
set_option maxHeartbeats 8000000 in
set_option maxRecDepth 100000 in
theorem mX7_joins (l : Launch) (dC : Nat → ClassId) (dI : Nat → Nat → Nat) (ad : Nat → Nat) (cy : Nat → ClassId) (hJ : WJ 16 ad) (σ : St) (a1 : Int32) (res : (Int32 × St)) (hf : fX7_joins σ a1 = some res) : CMi l yX7_joins wsX7_joins rmX7_joins (dC, dI) (tysX cy) 16 ad (layM ad cy) [.ref (ad 0), .int a1] σ res.1 res.2 := by
  refine Met.ofW (cc := cX7_joins) (maxL := 4) (ret := (some .int)) (by decide) rfl ?_
  intro p e s m args below meth c s₁ B hml hv
  obtain ⟨hargs, hP, hK⟩ := hv
  have hx := B.exec
  have hb := B.bytes
  have hr := B.returns
  have hts := atoms_spec (ws := wsX7_joins) B.pre
  have hown : s.vm.findClass RX7 = some m.cls := findClass_of_methodNamed B.named
  have hlocks := B.notSynchronized
  have w1 := hts (.fieldLink RX7 9 "PierRingsModel" "all" "[I") (List.mem_of_getElem? (i := 1) rfl)
  have hS : va_S (WA 16 ad) s.heap s.heap [] := va_S.rf
  have hfr : entryFrame m args 4 = F0 m 0 ((lg_sl [.ref (ad 0), .int a1] ++ List.replicate (4 - (lg_sl [.ref (ad 0), .int a1]).length) Slot.unset).toArray) [] := by rw [hargs]; exact lg_entry_eq _ _ _
  rw [hfr]
  have hl := lv_entry ([.ref (ad 0), .int a1]) (n := 4) (Nat.le_of_ble_eq_true rfl)
  generalize (lg_sl [.ref (ad 0), .int a1] ++ List.replicate (4 - (lg_sl [.ref (ad 0), .int a1]).length) Slot.unset).toArray = ls at hl ⊢
  have hl : lv_has ls 4 [(0, .ref (ad 0)), (1, .int a1)] := hl
  clear hfr hargs B
  show W p l e rmX7_joins s m args below meth c s.heap [] 0 0 (MQ below (Qiw (dC, dI) 16 ad (layM ad cy) res.1 res.2) args s 0 0 (WA 16 ad)) (F0 m 0 ls [])
  unfold fX7_joins at hf
  obtain ⟨H, eH⟩ : ∃ H : Heap, H = s.heap := ⟨_, rfl⟩
  rw [← eH] at hP
  have hS : va_S (WA 16 ad) s.heap H [] := by rw [eH]; exact hS
  suffices K : W p l e rmX7_joins s m args below meth c H [] 0 0 (MQ below (Qiw (dC, dI) 16 ad (layM ad cy) res.1 res.2) args s 0 0 (WA 16 ad)) (F0 m 0 ls []) by rw [eH] at K; exact K
  clear eH
  obtain ⟨locs, elocs⟩ : ∃ z : List Loc, z = [] := ⟨_, rfl⟩
  rw [← elocs] at hS ⊢
  refine lv_iload_n hx hb dX7_joins_0 rfl (lv_at hl 1 rfl) ?_
  refine lv_iconst (v := 1) hx hb dX7_joins_1 (by decide) ?_
  refine lv_iconst (v := 5) hx hb dX7_joins_2 (by decide) ?_
  obtain ⟨r1, qr1, hf⟩ := bd_some hf
  refine xt_callSi (As := [.int a1, .int 1, .int 5]) (rest := []) ⟨hx, hb, hml, hown, hts⟩ (mX7_in l dC dI ad cy hJ σ a1 1 5 r1 qr1) (va_cwS 3 hts gX7_joins_X7_in rfl rfl rfl dmX7_in ⟨Nat.le_of_ble_eq_true rfl, Nat.le_of_ble_eq_true rfl⟩) hK hP hS rfl rfl hl.1 (Nat.le_of_ble_eq_true rfl) ⟨Nat.zero_le _, Nat.zero_le _⟩ dX7_joins_3 (fun H locs hP hS => ?_)
  refine lv_if_ne (tgt := 12) hx hb dX7_joins_6 (by decide) (fun c2 => ?_) (fun c2 => ?_)
  · have hf := (if_neg c2).symm.trans hf
    refine lv_aload_n hx hb dX7_joins_12 rfl (lv_at hl 0 rfl) ?_
    refine xt_get (ci := 7) (C := RX7) (T := TX7) (n := 25) (v := .ref (ad 1)) hx hb hts iX7_joins_X7 hown hK hP 0 (by decide) (LX7_obj ad cy _) rfl 0 (by decide) w1 rfl dX7_joins_13 ?_
    refine lv_iconst (v := 0) hx hb dX7_joins_16 (by decide) ?_
    refine xt_iald hx hb hK hP 1 (by decide) 0 (LX7_all ad cy _) rfl (by decide) dX7_joins_17 ?_
    refine lv_topi (fun v3 ev3 => ?_)
    have hf := nm_to hf ev3
    refine lv_istore_n (lv' := [(2, .int v3), (0, .ref (ad 0)), (1, .int a1)]) hx hb dX7_joins_18 rfl hl (by decide) rfl (fun ls hl => ?_)
    refine lv_iload_n hx hb dX7_joins_19 rfl (lv_at hl 0 rfl) ?_
    refine lv_bipush (v := 8) hx hb dX7_joins_20 (by decide) ?_
    refine lv_icmp_ne (tgt := 33) hx hb dX7_joins_22 (by decide) (fun c4 => ?_) (fun c4 => ?_)
    · have hf := (if_neg c4).symm.trans hf
      refine lv_aload_n hx hb dX7_joins_33 rfl (lv_at hl 1 rfl) ?_
      obtain ⟨r5, qr5, hf⟩ := bd_some hf
      refine xt_callVv (As := []) (rest := []) (C := RX7) (ci := 7) ⟨hx, hb, hml, hown, hts⟩ 0 (mX7_looksAtHomes l dC dI ad cy hJ σ r5 qr5) (cwV 0 hts gX7_joins_X7_looksAtHomes rfl rfl rfl dmX7_looksAtHomes ⟨Nat.le_of_ble_eq_true rfl, Nat.le_of_ble_eq_true rfl⟩) hK hP hS (by decide) (LX7_obj ad cy _) rfl rfl rfl hl.1 (Nat.le_of_ble_eq_true rfl) ⟨Nat.zero_le _, Nat.zero_le _⟩ dX7_joins_34 (fun H locs hP hS => ?_)
      refine lv_aload_n hx hb dX7_joins_37 rfl (lv_at hl 1 rfl) ?_
      refine xt_get (ci := 7) (C := RX7) (T := TX7) (n := 25) (v := .ref (ad 1)) hx hb hts iX7_joins_X7 hown hK hP 0 (by decide) (LX7_obj ad cy _) rfl 0 (by decide) w1 rfl dX7_joins_38 ?_
      refine lv_iconst (v := 4) hx hb dX7_joins_41 (by decide) ?_
      refine lv_iconst (v := 2) hx hb dX7_joins_42 (by decide) ?_
      refine lv_iload_n hx hb dX7_joins_43 rfl (lv_at hl 0 rfl) ?_
      refine lv_imul hx hb dX7_joins_44 ?_
      refine lv_iadd hx hb dX7_joins_45 ?_
      refine lv_iconst (v := 0) hx hb dX7_joins_46 (by decide) ?_
      refine lv_iadd hx hb dX7_joins_47 ?_
      refine lv_iload_n hx hb dX7_joins_48 rfl (lv_at hl 2 rfl) ?_
      obtain ⟨g6, hf⟩ := gd_some hf
      refine xt_iast hx hb hK hP hJ hS 1 (by decide) 0 (LX7_all ad cy) rfl g6 dX7_joins_49 (fun H locs hP hS => ?_)
      obtain ⟨σ7, eσ7⟩ : ∃ z : St, z = su r5 1 ((4 + (2 * v3)) + 0).toNatClampNeg a1 := ⟨_, rfl⟩
      rw [← eσ7] at hP
      have hf := nm_to hf eσ7
      refine lv_aload_n hx hb dX7_joins_50 rfl (lv_at hl 1 rfl) ?_
      refine xt_get (ci := 7) (C := RX7) (T := TX7) (n := 25) (v := .ref (ad 1)) hx hb hts iX7_joins_X7 hown hK hP 0 (by decide) (LX7_obj ad cy _) rfl 0 (by decide) w1 rfl dX7_joins_51 ?_
      refine lv_iconst (v := 4) hx hb dX7_joins_54 (by decide) ?_
      refine lv_iconst (v := 2) hx hb dX7_joins_55 (by decide) ?_
      refine lv_iload_n hx hb dX7_joins_56 rfl (lv_at hl 0 rfl) ?_
      refine lv_imul hx hb dX7_joins_57 ?_
      refine lv_iadd hx hb dX7_joins_58 ?_
      refine lv_iconst (v := 1) hx hb dX7_joins_59 (by decide) ?_
      refine lv_iadd hx hb dX7_joins_60 ?_
      refine lv_iconst (v := 1) hx hb dX7_joins_61 (by decide) ?_
      obtain ⟨g8, hf⟩ := gd_some hf
      refine xt_iast hx hb hK hP hJ hS 1 (by decide) 0 (LX7_all ad cy) rfl g8 dX7_joins_62 (fun H locs hP hS => ?_)
      obtain ⟨σ9, eσ9⟩ : ∃ z : St, z = su σ7 1 ((4 + (2 * v3)) + 1).toNatClampNeg 1 := ⟨_, rfl⟩
      rw [← eσ9] at hP
      have hf := nm_to hf eσ9
      refine lv_aload_n hx hb dX7_joins_63 rfl (lv_at hl 1 rfl) ?_
      refine xt_get (ci := 7) (C := RX7) (T := TX7) (n := 25) (v := .ref (ad 1)) hx hb hts iX7_joins_X7 hown hK hP 0 (by decide) (LX7_obj ad cy _) rfl 0 (by decide) w1 rfl dX7_joins_64 ?_
      refine lv_iconst (v := 0) hx hb dX7_joins_67 (by decide) ?_
      refine lv_dup2_11 hx hb dX7_joins_68 rfl rfl ?_
      refine xt_iald hx hb hK hP 1 (by decide) 0 (LX7_all ad cy _) rfl (by decide) dX7_joins_69 ?_
      refine lv_iconst (v := 1) hx hb dX7_joins_70 (by decide) ?_
      refine lv_iadd hx hb dX7_joins_71 ?_
      refine xt_iast hx hb hK hP hJ hS 1 (by decide) 0 (LX7_all ad cy) rfl (by decide) dX7_joins_72 (fun H locs hP hS => ?_)
      obtain ⟨σ10, eσ10⟩ : ∃ z : St, z = su σ9 1 (0 : Int32).toNatClampNeg ((σ9 1 (0 : Int32).toNatClampNeg) + 1) := ⟨_, rfl⟩
      rw [← eσ10] at hP
      have hf := nm_to hf eσ10
      refine lv_aload_n hx hb dX7_joins_73 rfl (lv_at hl 1 rfl) ?_
      obtain ⟨r11, qr11, hf⟩ := bd_some hf
      refine xt_callVi (As := []) (rest := []) (C := RX7) (ci := 7) ⟨hx, hb, hml, hown, hts⟩ 0 (mX7_moves l dC dI ad cy hJ σ10 r11 qr11) (cwV 0 hts gX7_joins_X7_moves rfl rfl rfl dmX7_moves ⟨Nat.le_of_ble_eq_true rfl, Nat.le_of_ble_eq_true rfl⟩) hK hP hS (by decide) (LX7_obj ad cy _) rfl rfl rfl hl.1 (Nat.le_of_ble_eq_true rfl) ⟨Nat.zero_le _, Nat.zero_le _⟩ dX7_joins_74 (fun H locs hP hS => ?_)
      refine lv_istore_n (lv' := [(3, .int r11.1), (2, .int v3), (0, .ref (ad 0)), (1, .int a1)]) hx hb dX7_joins_77 rfl hl (by decide) rfl (fun ls hl => ?_)
      refine lv_iload_n hx hb dX7_joins_78 rfl (lv_at hl 1 rfl) ?_
      exact xt_iret hx hb hr hP hS (rs_1 hf) (rs_2 hf) dX7_joins_79 hlocks
    · have hf := (if_pos c4).symm.trans hf
      refine lv_aload_n hx hb dX7_joins_25 rfl (lv_at hl 1 rfl) ?_
      refine lv_iconst (v := 1) hx hb dX7_joins_26 (by decide) ?_
      refine lv_bipush (v := 8) hx hb dX7_joins_27 (by decide) ?_
      obtain ⟨r12, qr12, hf⟩ := bd_some hf
      refine xt_callVi (As := [.int 1, .int 8]) (rest := []) (C := RX7) (ci := 7) ⟨hx, hb, hml, hown, hts⟩ 0 (mX7_refuses l dC dI ad cy hJ σ 1 8 r12 qr12) (cwV 2 hts gX7_joins_X7_refuses rfl rfl rfl dmX7_refuses ⟨Nat.le_of_ble_eq_true rfl, Nat.le_of_ble_eq_true rfl⟩) hK hP hS (by decide) (LX7_obj ad cy _) rfl rfl rfl hl.1 (Nat.le_of_ble_eq_true rfl) ⟨Nat.zero_le _, Nat.zero_le _⟩ dX7_joins_29 (fun H locs hP hS => ?_)
      exact xt_iret hx hb hr hP hS (rs_1 hf) (rs_2 hf) dX7_joins_32 hlocks
  · have hf := (if_pos c2).symm.trans hf
    refine lv_bipush (v := (-12)) hx hb dX7_joins_9 (by decide) ?_
    exact xt_iret hx hb hr hP hS (rs_1 hf) (rs_2 hf) dX7_joins_11 hlocks
def fX7_pier (σ : St) (a1 : Int32) : Option (Int32 × St) :=
  bd (fX7_begins σ) fun r1 => bd (fX7_joins r1 a1) fun r2 => bd (fX7_ends r2.2 r2.1) fun r3 => some (r3.1, r3.2)
abbrev rmX7_pier : Room := { frames := 7, cells := 0, slots := 0, locals := 152 }
theorem dmX7_pier : yX7_pier.cls = RX7 ∧ yX7_pier.cls ≠ "java/lang/invoke/MethodHandle" ∧ yX7_pier.cls ≠ "java/lang/invoke/VarHandle" ∧ (parseMethodDescriptor yX7_pier.desc).map (fun d => d.parameters.length) = some 1 := by decide +kernel
set_option maxHeartbeats 8000000 in
set_option maxRecDepth 100000 in
theorem mX7_pier (l : Launch) (dC : Nat → ClassId) (dI : Nat → Nat → Nat) (ad : Nat → Nat) (cy : Nat → ClassId) (hJ : WJ 16 ad) (σ : St) (a1 : Int32) (res : (Int32 × St)) (hf : fX7_pier σ a1 = some res) : CMi l yX7_pier wsX7_pier rmX7_pier (dC, dI) (tysX cy) 16 ad (layM ad cy) [.ref (ad 0), .int a1] σ res.1 res.2 := by
  refine Met.ofW (cc := cX7_pier) (maxL := 2) (ret := (some .int)) (by decide) rfl ?_
  intro p e s m args below meth c s₁ B hml hv
  obtain ⟨hargs, hP, hK⟩ := hv
  have hx := B.exec
  have hb := B.bytes
  have hr := B.returns
  have hts := atoms_spec (ws := wsX7_pier) B.pre
  have hown : s.vm.findClass RX7 = some m.cls := findClass_of_methodNamed B.named
  have hlocks := B.notSynchronized
  have hS : va_S (WA 16 ad) s.heap s.heap [] := va_S.rf
  have hfr : entryFrame m args 2 = F0 m 0 ((lg_sl [.ref (ad 0), .int a1] ++ List.replicate (2 - (lg_sl [.ref (ad 0), .int a1]).length) Slot.unset).toArray) [] := by rw [hargs]; exact lg_entry_eq _ _ _
  rw [hfr]
  have hl := lv_entry ([.ref (ad 0), .int a1]) (n := 2) (Nat.le_of_ble_eq_true rfl)
  generalize (lg_sl [.ref (ad 0), .int a1] ++ List.replicate (2 - (lg_sl [.ref (ad 0), .int a1]).length) Slot.unset).toArray = ls at hl ⊢
  have hl : lv_has ls 2 [(0, .ref (ad 0)), (1, .int a1)] := hl
  clear hfr hargs B
  show W p l e rmX7_pier s m args below meth c s.heap [] 0 0 (MQ below (Qiw (dC, dI) 16 ad (layM ad cy) res.1 res.2) args s 0 0 (WA 16 ad)) (F0 m 0 ls [])
  unfold fX7_pier at hf
  obtain ⟨H, eH⟩ : ∃ H : Heap, H = s.heap := ⟨_, rfl⟩
  rw [← eH] at hP
  have hS : va_S (WA 16 ad) s.heap H [] := by rw [eH]; exact hS
  suffices K : W p l e rmX7_pier s m args below meth c H [] 0 0 (MQ below (Qiw (dC, dI) 16 ad (layM ad cy) res.1 res.2) args s 0 0 (WA 16 ad)) (F0 m 0 ls []) by rw [eH] at K; exact K
  clear eH
  obtain ⟨locs, elocs⟩ : ∃ z : List Loc, z = [] := ⟨_, rfl⟩
  rw [← elocs] at hS ⊢
  refine lv_aload_n hx hb dX7_pier_0 rfl (lv_at hl 0 rfl) ?_
  obtain ⟨r1, qr1, hf⟩ := bd_some hf
  refine xt_callVv (As := []) (rest := []) (C := RX7) (ci := 7) ⟨hx, hb, hml, hown, hts⟩ 0 (mX7_begins l dC dI ad cy hJ σ r1 qr1) (cwV 0 hts gX7_pier_X7_begins rfl rfl rfl dmX7_begins ⟨Nat.le_of_ble_eq_true rfl, Nat.le_of_ble_eq_true rfl⟩) hK hP hS (by decide) (LX7_obj ad cy _) rfl rfl rfl hl.1 (Nat.le_of_ble_eq_true rfl) ⟨Nat.zero_le _, Nat.zero_le _⟩ dX7_pier_1 (fun H locs hP hS => ?_)
  refine lv_aload_n hx hb dX7_pier_4 rfl (lv_at hl 0 rfl) ?_
  refine lv_aload_n hx hb dX7_pier_5 rfl (lv_at hl 0 rfl) ?_
  refine lv_iload_n hx hb dX7_pier_6 rfl (lv_at hl 1 rfl) ?_
  obtain ⟨r2, qr2, hf⟩ := bd_some hf
  refine xt_callVi (As := [.int a1]) (rest := [.ref (ad 0)]) (C := RX7) (ci := 7) ⟨hx, hb, hml, hown, hts⟩ 0 (mX7_joins l dC dI ad cy hJ r1 a1 r2 qr2) (cwV 1 hts gX7_pier_X7_joins rfl rfl rfl dmX7_joins ⟨Nat.le_of_ble_eq_true rfl, Nat.le_of_ble_eq_true rfl⟩) hK hP hS (by decide) (LX7_obj ad cy _) rfl rfl rfl hl.1 (Nat.le_of_ble_eq_true rfl) ⟨Nat.zero_le _, Nat.zero_le _⟩ dX7_pier_7 (fun H locs hP hS => ?_)
  obtain ⟨r3, qr3, hf⟩ := bd_some hf
  refine xt_callVi (As := [.int r2.1]) (rest := []) (C := RX7) (ci := 7) ⟨hx, hb, hml, hown, hts⟩ 0 (mX7_ends l dC dI ad cy hJ r2.2 r2.1 r3 qr3) (cwV 1 hts gX7_pier_X7_ends rfl rfl rfl dmX7_ends ⟨Nat.le_of_ble_eq_true rfl, Nat.le_of_ble_eq_true rfl⟩) hK hP hS (by decide) (LX7_obj ad cy _) rfl rfl rfl hl.1 (Nat.le_of_ble_eq_true rfl) ⟨Nat.zero_le _, Nat.zero_le _⟩ dX7_pier_10 (fun H locs hP hS => ?_)
  exact xt_iret hx hb hr hP hS (rs_1 hf) (rs_2 hf) dX7_pier_13 hlocks
def fX7_turns (σ : St) (a1 : Int32) (a2 : Int32) : Option (Int32 × St) :=
  bd (fX7_isPier σ a1) fun r1 => if r1 = 0 then (some ((-11), σ)) else (bd (fX7_p σ a1 1) fun r3 => if r3 = a2 then (bd (fX7_refuses σ 3 a1) fun r9 => some (r9.1, r9.2)) else (bd (fX7_looksAtHomes σ) fun r5 => gd (okI ((4 + (2 * a1)) + 1) 816) <| nm (su r5 1 ((4 + (2 * a1)) + 1).toNatClampNeg a2) fun σ7 => bd (fX7_moves σ7) fun r8 => some (r8.1, r8.2)))
abbrev rmX7_turns : Room := { frames := 6, cells := 0, slots := 0, locals := 129 }
theorem dmX7_turns : yX7_turns.cls = RX7 ∧ yX7_turns.cls ≠ "java/lang/invoke/MethodHandle" ∧ yX7_turns.cls ≠ "java/lang/invoke/VarHandle" ∧ (parseMethodDescriptor yX7_turns.desc).map (fun d => d.parameters.length) = some 2 := by decide +kernel
theorem iX7_turns_X7 : ∀ w ∈ wsX70, w ∈ wsX7_turns := fun w h => List.mem_cons_of_mem _ (List.mem_append_right _ (h))
set_option maxHeartbeats 8000000 in
set_option maxRecDepth 100000 in
theorem mX7_turns (l : Launch) (dC : Nat → ClassId) (dI : Nat → Nat → Nat) (ad : Nat → Nat) (cy : Nat → ClassId) (hJ : WJ 16 ad) (σ : St) (a1 : Int32) (a2 : Int32) (res : (Int32 × St)) (hf : fX7_turns σ a1 a2 = some res) : CMi l yX7_turns wsX7_turns rmX7_turns (dC, dI) (tysX cy) 16 ad (layM ad cy) [.ref (ad 0), .int a1, .int a2] σ res.1 res.2 := by
  refine Met.ofW (cc := cX7_turns) (maxL := 3) (ret := (some .int)) (by decide) rfl ?_
  intro p e s m args below meth c s₁ B hml hv
  obtain ⟨hargs, hP, hK⟩ := hv
  have hx := B.exec
  have hb := B.bytes
  have hr := B.returns
  have hts := atoms_spec (ws := wsX7_turns) B.pre
  have hown : s.vm.findClass RX7 = some m.cls := findClass_of_methodNamed B.named
  have hlocks := B.notSynchronized
  have w1 := hts (.fieldLink RX7 9 "PierRingsModel" "all" "[I") (List.mem_of_getElem? (i := 1) rfl)
  have hS : va_S (WA 16 ad) s.heap s.heap [] := va_S.rf
  have hfr : entryFrame m args 3 = F0 m 0 ((lg_sl [.ref (ad 0), .int a1, .int a2] ++ List.replicate (3 - (lg_sl [.ref (ad 0), .int a1, .int a2]).length) Slot.unset).toArray) [] := by rw [hargs]; exact lg_entry_eq _ _ _
  rw [hfr]
  have hl := lv_entry ([.ref (ad 0), .int a1, .int a2]) (n := 3) (Nat.le_of_ble_eq_true rfl)
  generalize (lg_sl [.ref (ad 0), .int a1, .int a2] ++ List.replicate (3 - (lg_sl [.ref (ad 0), .int a1, .int a2]).length) Slot.unset).toArray = ls at hl ⊢
  have hl : lv_has ls 3 [(0, .ref (ad 0)), (1, .int a1), (2, .int a2)] := hl
  clear hfr hargs B
  show W p l e rmX7_turns s m args below meth c s.heap [] 0 0 (MQ below (Qiw (dC, dI) 16 ad (layM ad cy) res.1 res.2) args s 0 0 (WA 16 ad)) (F0 m 0 ls [])
  unfold fX7_turns at hf
  obtain ⟨H, eH⟩ : ∃ H : Heap, H = s.heap := ⟨_, rfl⟩
  rw [← eH] at hP
  have hS : va_S (WA 16 ad) s.heap H [] := by rw [eH]; exact hS
  suffices K : W p l e rmX7_turns s m args below meth c H [] 0 0 (MQ below (Qiw (dC, dI) 16 ad (layM ad cy) res.1 res.2) args s 0 0 (WA 16 ad)) (F0 m 0 ls []) by rw [eH] at K; exact K
  clear eH
  obtain ⟨locs, elocs⟩ : ∃ z : List Loc, z = [] := ⟨_, rfl⟩
  rw [← elocs] at hS ⊢
  refine lv_aload_n hx hb dX7_turns_0 rfl (lv_at hl 0 rfl) ?_
  refine lv_iload_n hx hb dX7_turns_1 rfl (lv_at hl 1 rfl) ?_
  obtain ⟨r1, qr1, hf⟩ := bd_some hf
  refine xt_callVi (As := [.int a1]) (rest := []) (C := RX7) (ci := 7) ⟨hx, hb, hml, hown, hts⟩ 0 (mX7_isPier l dC dI ad cy hJ σ a1 r1 qr1) (cwV 1 hts gX7_turns_X7_isPier rfl rfl rfl dmX7_isPier ⟨Nat.le_of_ble_eq_true rfl, Nat.le_of_ble_eq_true rfl⟩) hK hP hS (by decide) (LX7_obj ad cy _) rfl rfl rfl hl.1 (Nat.le_of_ble_eq_true rfl) ⟨Nat.zero_le _, Nat.zero_le _⟩ dX7_turns_2 (fun H locs hP hS => ?_)
  refine lv_if_ne (tgt := 11) hx hb dX7_turns_5 (by decide) (fun c2 => ?_) (fun c2 => ?_)
  · have hf := (if_neg c2).symm.trans hf
    refine lv_aload_n hx hb dX7_turns_11 rfl (lv_at hl 0 rfl) ?_
    refine lv_iload_n hx hb dX7_turns_12 rfl (lv_at hl 1 rfl) ?_
    refine lv_iconst (v := 1) hx hb dX7_turns_13 (by decide) ?_
    obtain ⟨r3, qr3, hf⟩ := bd_some hf
    refine xt_callVi (As := [.int a1, .int 1]) (rest := []) (C := RX7) (ci := 7) ⟨hx, hb, hml, hown, hts⟩ 0 (mX7_p l dC dI ad cy hJ σ a1 1 r3 qr3) (cwV 2 hts gX7_turns_X7_p rfl rfl rfl dmX7_p ⟨Nat.le_of_ble_eq_true rfl, Nat.le_of_ble_eq_true rfl⟩) hK hP hS (by decide) (LX7_obj ad cy _) rfl rfl rfl hl.1 (Nat.le_of_ble_eq_true rfl) ⟨Nat.zero_le _, Nat.zero_le _⟩ dX7_turns_14 (fun H locs hP hS => ?_)
    refine lv_iload_n hx hb dX7_turns_17 rfl (lv_at hl 2 rfl) ?_
    refine lv_icmp_ne (tgt := 28) hx hb dX7_turns_18 (by decide) (fun c4 => ?_) (fun c4 => ?_)
    · have hf := (if_neg c4).symm.trans hf
      refine lv_aload_n hx hb dX7_turns_28 rfl (lv_at hl 0 rfl) ?_
      obtain ⟨r5, qr5, hf⟩ := bd_some hf
      refine xt_callVv (As := []) (rest := []) (C := RX7) (ci := 7) ⟨hx, hb, hml, hown, hts⟩ 0 (mX7_looksAtHomes l dC dI ad cy hJ σ r5 qr5) (cwV 0 hts gX7_turns_X7_looksAtHomes rfl rfl rfl dmX7_looksAtHomes ⟨Nat.le_of_ble_eq_true rfl, Nat.le_of_ble_eq_true rfl⟩) hK hP hS (by decide) (LX7_obj ad cy _) rfl rfl rfl hl.1 (Nat.le_of_ble_eq_true rfl) ⟨Nat.zero_le _, Nat.zero_le _⟩ dX7_turns_29 (fun H locs hP hS => ?_)
      refine lv_aload_n hx hb dX7_turns_32 rfl (lv_at hl 0 rfl) ?_
      refine xt_get (ci := 7) (C := RX7) (T := TX7) (n := 25) (v := .ref (ad 1)) hx hb hts iX7_turns_X7 hown hK hP 0 (by decide) (LX7_obj ad cy _) rfl 0 (by decide) w1 rfl dX7_turns_33 ?_
      refine lv_iconst (v := 4) hx hb dX7_turns_36 (by decide) ?_
      refine lv_iconst (v := 2) hx hb dX7_turns_37 (by decide) ?_
      refine lv_iload_n hx hb dX7_turns_38 rfl (lv_at hl 1 rfl) ?_
      refine lv_imul hx hb dX7_turns_39 ?_
      refine lv_iadd hx hb dX7_turns_40 ?_
      refine lv_iconst (v := 1) hx hb dX7_turns_41 (by decide) ?_
      refine lv_iadd hx hb dX7_turns_42 ?_
      refine lv_iload_n hx hb dX7_turns_43 rfl (lv_at hl 2 rfl) ?_
      obtain ⟨g6, hf⟩ := gd_some hf
      refine xt_iast hx hb hK hP hJ hS 1 (by decide) 0 (LX7_all ad cy) rfl g6 dX7_turns_44 (fun H locs hP hS => ?_)
      obtain ⟨σ7, eσ7⟩ : ∃ z : St, z = su r5 1 ((4 + (2 * a1)) + 1).toNatClampNeg a2 := ⟨_, rfl⟩
      rw [← eσ7] at hP
      have hf := nm_to hf eσ7
      refine lv_aload_n hx hb dX7_turns_45 rfl (lv_at hl 0 rfl) ?_
      obtain ⟨r8, qr8, hf⟩ := bd_some hf
      refine xt_callVi (As := []) (rest := []) (C := RX7) (ci := 7) ⟨hx, hb, hml, hown, hts⟩ 0 (mX7_moves l dC dI ad cy hJ σ7 r8 qr8) (cwV 0 hts gX7_turns_X7_moves rfl rfl rfl dmX7_moves ⟨Nat.le_of_ble_eq_true rfl, Nat.le_of_ble_eq_true rfl⟩) hK hP hS (by decide) (LX7_obj ad cy _) rfl rfl rfl hl.1 (Nat.le_of_ble_eq_true rfl) ⟨Nat.zero_le _, Nat.zero_le _⟩ dX7_turns_46 (fun H locs hP hS => ?_)
      exact xt_iret hx hb hr hP hS (rs_1 hf) (rs_2 hf) dX7_turns_49 hlocks
    · have hf := (if_pos c4).symm.trans hf
      refine lv_aload_n hx hb dX7_turns_21 rfl (lv_at hl 0 rfl) ?_
      refine lv_iconst (v := 3) hx hb dX7_turns_22 (by decide) ?_
      refine lv_iload_n hx hb dX7_turns_23 rfl (lv_at hl 1 rfl) ?_
      obtain ⟨r9, qr9, hf⟩ := bd_some hf
      refine xt_callVi (As := [.int 3, .int a1]) (rest := []) (C := RX7) (ci := 7) ⟨hx, hb, hml, hown, hts⟩ 0 (mX7_refuses l dC dI ad cy hJ σ 3 a1 r9 qr9) (cwV 2 hts gX7_turns_X7_refuses rfl rfl rfl dmX7_refuses ⟨Nat.le_of_ble_eq_true rfl, Nat.le_of_ble_eq_true rfl⟩) hK hP hS (by decide) (LX7_obj ad cy _) rfl rfl rfl hl.1 (Nat.le_of_ble_eq_true rfl) ⟨Nat.zero_le _, Nat.zero_le _⟩ dX7_turns_24 (fun H locs hP hS => ?_)
      exact xt_iret hx hb hr hP hS (rs_1 hf) (rs_2 hf) dX7_turns_27 hlocks
  · have hf := (if_pos c2).symm.trans hf
    refine lv_bipush (v := (-11)) hx hb dX7_turns_8 (by decide) ?_
    exact xt_iret hx hb hr hP hS (rs_1 hf) (rs_2 hf) dX7_turns_10 hlocks
def fX7_close (σ : St) (a1 : Int32) : Option (Int32 × St) :=
  bd (fX7_begins σ) fun r1 => bd (fX7_turns r1 a1 0) fun r2 => bd (fX7_ends r2.2 r2.1) fun r3 => some (r3.1, r3.2)
abbrev rmX7_close : Room := { frames := 7, cells := 0, slots := 0, locals := 151 }
theorem dmX7_close : yX7_close.cls = RX7 ∧ yX7_close.cls ≠ "java/lang/invoke/MethodHandle" ∧ yX7_close.cls ≠ "java/lang/invoke/VarHandle" ∧ (parseMethodDescriptor yX7_close.desc).map (fun d => d.parameters.length) = some 1 := by decide +kernel
set_option maxHeartbeats 8000000 in
set_option maxRecDepth 100000 in
theorem mX7_close (l : Launch) (dC : Nat → ClassId) (dI : Nat → Nat → Nat) (ad : Nat → Nat) (cy : Nat → ClassId) (hJ : WJ 16 ad) (σ : St) (a1 : Int32) (res : (Int32 × St)) (hf : fX7_close σ a1 = some res) : CMi l yX7_close wsX7_close rmX7_close (dC, dI) (tysX cy) 16 ad (layM ad cy) [.ref (ad 0), .int a1] σ res.1 res.2 := by
  refine Met.ofW (cc := cX7_close) (maxL := 2) (ret := (some .int)) (by decide) rfl ?_
  intro p e s m args below meth c s₁ B hml hv
  obtain ⟨hargs, hP, hK⟩ := hv
  have hx := B.exec
  have hb := B.bytes
  have hr := B.returns
  have hts := atoms_spec (ws := wsX7_close) B.pre
  have hown : s.vm.findClass RX7 = some m.cls := findClass_of_methodNamed B.named
  have hlocks := B.notSynchronized
  have hS : va_S (WA 16 ad) s.heap s.heap [] := va_S.rf
  have hfr : entryFrame m args 2 = F0 m 0 ((lg_sl [.ref (ad 0), .int a1] ++ List.replicate (2 - (lg_sl [.ref (ad 0), .int a1]).length) Slot.unset).toArray) [] := by rw [hargs]; exact lg_entry_eq _ _ _
  rw [hfr]
  have hl := lv_entry ([.ref (ad 0), .int a1]) (n := 2) (Nat.le_of_ble_eq_true rfl)
  generalize (lg_sl [.ref (ad 0), .int a1] ++ List.replicate (2 - (lg_sl [.ref (ad 0), .int a1]).length) Slot.unset).toArray = ls at hl ⊢
  have hl : lv_has ls 2 [(0, .ref (ad 0)), (1, .int a1)] := hl
  clear hfr hargs B
  show W p l e rmX7_close s m args below meth c s.heap [] 0 0 (MQ below (Qiw (dC, dI) 16 ad (layM ad cy) res.1 res.2) args s 0 0 (WA 16 ad)) (F0 m 0 ls [])
  unfold fX7_close at hf
  obtain ⟨H, eH⟩ : ∃ H : Heap, H = s.heap := ⟨_, rfl⟩
  rw [← eH] at hP
  have hS : va_S (WA 16 ad) s.heap H [] := by rw [eH]; exact hS
  suffices K : W p l e rmX7_close s m args below meth c H [] 0 0 (MQ below (Qiw (dC, dI) 16 ad (layM ad cy) res.1 res.2) args s 0 0 (WA 16 ad)) (F0 m 0 ls []) by rw [eH] at K; exact K
  clear eH
  obtain ⟨locs, elocs⟩ : ∃ z : List Loc, z = [] := ⟨_, rfl⟩
  rw [← elocs] at hS ⊢
  refine lv_aload_n hx hb dX7_close_0 rfl (lv_at hl 0 rfl) ?_
  obtain ⟨r1, qr1, hf⟩ := bd_some hf
  refine xt_callVv (As := []) (rest := []) (C := RX7) (ci := 7) ⟨hx, hb, hml, hown, hts⟩ 0 (mX7_begins l dC dI ad cy hJ σ r1 qr1) (cwV 0 hts gX7_close_X7_begins rfl rfl rfl dmX7_begins ⟨Nat.le_of_ble_eq_true rfl, Nat.le_of_ble_eq_true rfl⟩) hK hP hS (by decide) (LX7_obj ad cy _) rfl rfl rfl hl.1 (Nat.le_of_ble_eq_true rfl) ⟨Nat.zero_le _, Nat.zero_le _⟩ dX7_close_1 (fun H locs hP hS => ?_)
  refine lv_aload_n hx hb dX7_close_4 rfl (lv_at hl 0 rfl) ?_
  refine lv_aload_n hx hb dX7_close_5 rfl (lv_at hl 0 rfl) ?_
  refine lv_iload_n hx hb dX7_close_6 rfl (lv_at hl 1 rfl) ?_
  refine lv_iconst (v := 0) hx hb dX7_close_7 (by decide) ?_
  obtain ⟨r2, qr2, hf⟩ := bd_some hf
  refine xt_callVi (As := [.int a1, .int 0]) (rest := [.ref (ad 0)]) (C := RX7) (ci := 7) ⟨hx, hb, hml, hown, hts⟩ 0 (mX7_turns l dC dI ad cy hJ r1 a1 0 r2 qr2) (cwV 2 hts gX7_close_X7_turns rfl rfl rfl dmX7_turns ⟨Nat.le_of_ble_eq_true rfl, Nat.le_of_ble_eq_true rfl⟩) hK hP hS (by decide) (LX7_obj ad cy _) rfl rfl rfl hl.1 (Nat.le_of_ble_eq_true rfl) ⟨Nat.zero_le _, Nat.zero_le _⟩ dX7_close_8 (fun H locs hP hS => ?_)
  obtain ⟨r3, qr3, hf⟩ := bd_some hf
  refine xt_callVi (As := [.int r2.1]) (rest := []) (C := RX7) (ci := 7) ⟨hx, hb, hml, hown, hts⟩ 0 (mX7_ends l dC dI ad cy hJ r2.2 r2.1 r3 qr3) (cwV 1 hts gX7_close_X7_ends rfl rfl rfl dmX7_ends ⟨Nat.le_of_ble_eq_true rfl, Nat.le_of_ble_eq_true rfl⟩) hK hP hS (by decide) (LX7_obj ad cy _) rfl rfl rfl hl.1 (Nat.le_of_ble_eq_true rfl) ⟨Nat.zero_le _, Nat.zero_le _⟩ dX7_close_11 (fun H locs hP hS => ?_)
  exact xt_iret hx hb hr hP hS (rs_1 hf) (rs_2 hf) dX7_close_14 hlocks
def fX7_open (σ : St) (a1 : Int32) : Option (Int32 × St) :=
  bd (fX7_begins σ) fun r1 => bd (fX7_turns r1 a1 1) fun r2 => bd (fX7_ends r2.2 r2.1) fun r3 => some (r3.1, r3.2)
abbrev rmX7_open : Room := { frames := 7, cells := 0, slots := 0, locals := 151 }
theorem dmX7_open : yX7_open.cls = RX7 ∧ yX7_open.cls ≠ "java/lang/invoke/MethodHandle" ∧ yX7_open.cls ≠ "java/lang/invoke/VarHandle" ∧ (parseMethodDescriptor yX7_open.desc).map (fun d => d.parameters.length) = some 1 := by decide +kernel
set_option maxHeartbeats 8000000 in
set_option maxRecDepth 100000 in
theorem mX7_open (l : Launch) (dC : Nat → ClassId) (dI : Nat → Nat → Nat) (ad : Nat → Nat) (cy : Nat → ClassId) (hJ : WJ 16 ad) (σ : St) (a1 : Int32) (res : (Int32 × St)) (hf : fX7_open σ a1 = some res) : CMi l yX7_open wsX7_open rmX7_open (dC, dI) (tysX cy) 16 ad (layM ad cy) [.ref (ad 0), .int a1] σ res.1 res.2 := by
  refine Met.ofW (cc := cX7_open) (maxL := 2) (ret := (some .int)) (by decide) rfl ?_
  intro p e s m args below meth c s₁ B hml hv
  obtain ⟨hargs, hP, hK⟩ := hv
  have hx := B.exec
  have hb := B.bytes
  have hr := B.returns
  have hts := atoms_spec (ws := wsX7_open) B.pre
  have hown : s.vm.findClass RX7 = some m.cls := findClass_of_methodNamed B.named
  have hlocks := B.notSynchronized
  have hS : va_S (WA 16 ad) s.heap s.heap [] := va_S.rf
  have hfr : entryFrame m args 2 = F0 m 0 ((lg_sl [.ref (ad 0), .int a1] ++ List.replicate (2 - (lg_sl [.ref (ad 0), .int a1]).length) Slot.unset).toArray) [] := by rw [hargs]; exact lg_entry_eq _ _ _
  rw [hfr]
  have hl := lv_entry ([.ref (ad 0), .int a1]) (n := 2) (Nat.le_of_ble_eq_true rfl)
  generalize (lg_sl [.ref (ad 0), .int a1] ++ List.replicate (2 - (lg_sl [.ref (ad 0), .int a1]).length) Slot.unset).toArray = ls at hl ⊢
  have hl : lv_has ls 2 [(0, .ref (ad 0)), (1, .int a1)] := hl
  clear hfr hargs B
  show W p l e rmX7_open s m args below meth c s.heap [] 0 0 (MQ below (Qiw (dC, dI) 16 ad (layM ad cy) res.1 res.2) args s 0 0 (WA 16 ad)) (F0 m 0 ls [])
  unfold fX7_open at hf
  obtain ⟨H, eH⟩ : ∃ H : Heap, H = s.heap := ⟨_, rfl⟩
  rw [← eH] at hP
  have hS : va_S (WA 16 ad) s.heap H [] := by rw [eH]; exact hS
  suffices K : W p l e rmX7_open s m args below meth c H [] 0 0 (MQ below (Qiw (dC, dI) 16 ad (layM ad cy) res.1 res.2) args s 0 0 (WA 16 ad)) (F0 m 0 ls []) by rw [eH] at K; exact K
  clear eH
  obtain ⟨locs, elocs⟩ : ∃ z : List Loc, z = [] := ⟨_, rfl⟩
  rw [← elocs] at hS ⊢
  refine lv_aload_n hx hb dX7_open_0 rfl (lv_at hl 0 rfl) ?_
  obtain ⟨r1, qr1, hf⟩ := bd_some hf
  refine xt_callVv (As := []) (rest := []) (C := RX7) (ci := 7) ⟨hx, hb, hml, hown, hts⟩ 0 (mX7_begins l dC dI ad cy hJ σ r1 qr1) (cwV 0 hts gX7_open_X7_begins rfl rfl rfl dmX7_begins ⟨Nat.le_of_ble_eq_true rfl, Nat.le_of_ble_eq_true rfl⟩) hK hP hS (by decide) (LX7_obj ad cy _) rfl rfl rfl hl.1 (Nat.le_of_ble_eq_true rfl) ⟨Nat.zero_le _, Nat.zero_le _⟩ dX7_open_1 (fun H locs hP hS => ?_)
  refine lv_aload_n hx hb dX7_open_4 rfl (lv_at hl 0 rfl) ?_
  refine lv_aload_n hx hb dX7_open_5 rfl (lv_at hl 0 rfl) ?_
  refine lv_iload_n hx hb dX7_open_6 rfl (lv_at hl 1 rfl) ?_
  refine lv_iconst (v := 1) hx hb dX7_open_7 (by decide) ?_
  obtain ⟨r2, qr2, hf⟩ := bd_some hf
  refine xt_callVi (As := [.int a1, .int 1]) (rest := [.ref (ad 0)]) (C := RX7) (ci := 7) ⟨hx, hb, hml, hown, hts⟩ 0 (mX7_turns l dC dI ad cy hJ r1 a1 1 r2 qr2) (cwV 2 hts gX7_open_X7_turns rfl rfl rfl dmX7_turns ⟨Nat.le_of_ble_eq_true rfl, Nat.le_of_ble_eq_true rfl⟩) hK hP hS (by decide) (LX7_obj ad cy _) rfl rfl rfl hl.1 (Nat.le_of_ble_eq_true rfl) ⟨Nat.zero_le _, Nat.zero_le _⟩ dX7_open_8 (fun H locs hP hS => ?_)
  obtain ⟨r3, qr3, hf⟩ := bd_some hf
  refine xt_callVi (As := [.int r2.1]) (rest := []) (C := RX7) (ci := 7) ⟨hx, hb, hml, hown, hts⟩ 0 (mX7_ends l dC dI ad cy hJ r2.2 r2.1 r3 qr3) (cwV 1 hts gX7_open_X7_ends rfl rfl rfl dmX7_ends ⟨Nat.le_of_ble_eq_true rfl, Nat.le_of_ble_eq_true rfl⟩) hK hP hS (by decide) (LX7_obj ad cy _) rfl rfl rfl hl.1 (Nat.le_of_ble_eq_true rfl) ⟨Nat.zero_le _, Nat.zero_le _⟩ dX7_open_11 (fun H locs hP hS => ?_)
  exact xt_iret hx hb hr hP hS (rs_1 hf) (rs_2 hf) dX7_open_14 hlocks
def fX7_weighs (σ : St) (a1 : Int32) (a2 : Int32) : Option (Int32 × St) :=
  bd (fX7_isPier σ a1) fun r1 => if r1 = 0 then (some ((-11), σ)) else (bd (fX7_in σ a2 1 5) fun r3 => if r3 = 0 then (some ((-12), σ)) else (bd (fX7_p σ a1 0) fun r5 => if r5 = a2 then (bd (fX7_refuses σ 3 a2) fun r11 => some (r11.1, r11.2)) else (bd (fX7_looksAtHomes σ) fun r7 => gd (okI ((4 + (2 * a1)) + 0) 816) <| nm (su r7 1 ((4 + (2 * a1)) + 0).toNatClampNeg a2) fun σ9 => bd (fX7_moves σ9) fun r10 => some (r10.1, r10.2))))
abbrev rmX7_weighs : Room := { frames := 6, cells := 0, slots := 0, locals := 129 }
theorem dmX7_weighs : yX7_weighs.cls = RX7 ∧ yX7_weighs.cls ≠ "java/lang/invoke/MethodHandle" ∧ yX7_weighs.cls ≠ "java/lang/invoke/VarHandle" ∧ (parseMethodDescriptor yX7_weighs.desc).map (fun d => d.parameters.length) = some 2 := by decide +kernel
theorem iX7_weighs_X7 : ∀ w ∈ wsX70, w ∈ wsX7_weighs := fun w h => List.mem_cons_of_mem _ (List.mem_append_right _ (h))
set_option maxHeartbeats 8000000 in
set_option maxRecDepth 100000 in
theorem mX7_weighs (l : Launch) (dC : Nat → ClassId) (dI : Nat → Nat → Nat) (ad : Nat → Nat) (cy : Nat → ClassId) (hJ : WJ 16 ad) (σ : St) (a1 : Int32) (a2 : Int32) (res : (Int32 × St)) (hf : fX7_weighs σ a1 a2 = some res) : CMi l yX7_weighs wsX7_weighs rmX7_weighs (dC, dI) (tysX cy) 16 ad (layM ad cy) [.ref (ad 0), .int a1, .int a2] σ res.1 res.2 := by
  refine Met.ofW (cc := cX7_weighs) (maxL := 3) (ret := (some .int)) (by decide) rfl ?_
  intro p e s m args below meth c s₁ B hml hv
  obtain ⟨hargs, hP, hK⟩ := hv
  have hx := B.exec
  have hb := B.bytes
  have hr := B.returns
  have hts := atoms_spec (ws := wsX7_weighs) B.pre
  have hown : s.vm.findClass RX7 = some m.cls := findClass_of_methodNamed B.named
  have hlocks := B.notSynchronized
  have w1 := hts (.fieldLink RX7 9 "PierRingsModel" "all" "[I") (List.mem_of_getElem? (i := 1) rfl)
  have hS : va_S (WA 16 ad) s.heap s.heap [] := va_S.rf
  have hfr : entryFrame m args 3 = F0 m 0 ((lg_sl [.ref (ad 0), .int a1, .int a2] ++ List.replicate (3 - (lg_sl [.ref (ad 0), .int a1, .int a2]).length) Slot.unset).toArray) [] := by rw [hargs]; exact lg_entry_eq _ _ _
  rw [hfr]
  have hl := lv_entry ([.ref (ad 0), .int a1, .int a2]) (n := 3) (Nat.le_of_ble_eq_true rfl)
  generalize (lg_sl [.ref (ad 0), .int a1, .int a2] ++ List.replicate (3 - (lg_sl [.ref (ad 0), .int a1, .int a2]).length) Slot.unset).toArray = ls at hl ⊢
  have hl : lv_has ls 3 [(0, .ref (ad 0)), (1, .int a1), (2, .int a2)] := hl
  clear hfr hargs B
  show W p l e rmX7_weighs s m args below meth c s.heap [] 0 0 (MQ below (Qiw (dC, dI) 16 ad (layM ad cy) res.1 res.2) args s 0 0 (WA 16 ad)) (F0 m 0 ls [])
  unfold fX7_weighs at hf
  obtain ⟨H, eH⟩ : ∃ H : Heap, H = s.heap := ⟨_, rfl⟩
  rw [← eH] at hP
  have hS : va_S (WA 16 ad) s.heap H [] := by rw [eH]; exact hS
  suffices K : W p l e rmX7_weighs s m args below meth c H [] 0 0 (MQ below (Qiw (dC, dI) 16 ad (layM ad cy) res.1 res.2) args s 0 0 (WA 16 ad)) (F0 m 0 ls []) by rw [eH] at K; exact K
  clear eH
  obtain ⟨locs, elocs⟩ : ∃ z : List Loc, z = [] := ⟨_, rfl⟩
  rw [← elocs] at hS ⊢
  refine lv_aload_n hx hb dX7_weighs_0 rfl (lv_at hl 0 rfl) ?_
  refine lv_iload_n hx hb dX7_weighs_1 rfl (lv_at hl 1 rfl) ?_
  obtain ⟨r1, qr1, hf⟩ := bd_some hf
  refine xt_callVi (As := [.int a1]) (rest := []) (C := RX7) (ci := 7) ⟨hx, hb, hml, hown, hts⟩ 0 (mX7_isPier l dC dI ad cy hJ σ a1 r1 qr1) (cwV 1 hts gX7_weighs_X7_isPier rfl rfl rfl dmX7_isPier ⟨Nat.le_of_ble_eq_true rfl, Nat.le_of_ble_eq_true rfl⟩) hK hP hS (by decide) (LX7_obj ad cy _) rfl rfl rfl hl.1 (Nat.le_of_ble_eq_true rfl) ⟨Nat.zero_le _, Nat.zero_le _⟩ dX7_weighs_2 (fun H locs hP hS => ?_)
  refine lv_if_ne (tgt := 11) hx hb dX7_weighs_5 (by decide) (fun c2 => ?_) (fun c2 => ?_)
  · have hf := (if_neg c2).symm.trans hf
    refine lv_iload_n hx hb dX7_weighs_11 rfl (lv_at hl 2 rfl) ?_
    refine lv_iconst (v := 1) hx hb dX7_weighs_12 (by decide) ?_
    refine lv_iconst (v := 5) hx hb dX7_weighs_13 (by decide) ?_
    obtain ⟨r3, qr3, hf⟩ := bd_some hf
    refine xt_callSi (As := [.int a2, .int 1, .int 5]) (rest := []) ⟨hx, hb, hml, hown, hts⟩ (mX7_in l dC dI ad cy hJ σ a2 1 5 r3 qr3) (va_cwS 3 hts gX7_weighs_X7_in rfl rfl rfl dmX7_in ⟨Nat.le_of_ble_eq_true rfl, Nat.le_of_ble_eq_true rfl⟩) hK hP hS rfl rfl hl.1 (Nat.le_of_ble_eq_true rfl) ⟨Nat.zero_le _, Nat.zero_le _⟩ dX7_weighs_14 (fun H locs hP hS => ?_)
    refine lv_if_ne (tgt := 23) hx hb dX7_weighs_17 (by decide) (fun c4 => ?_) (fun c4 => ?_)
    · have hf := (if_neg c4).symm.trans hf
      refine lv_aload_n hx hb dX7_weighs_23 rfl (lv_at hl 0 rfl) ?_
      refine lv_iload_n hx hb dX7_weighs_24 rfl (lv_at hl 1 rfl) ?_
      refine lv_iconst (v := 0) hx hb dX7_weighs_25 (by decide) ?_
      obtain ⟨r5, qr5, hf⟩ := bd_some hf
      refine xt_callVi (As := [.int a1, .int 0]) (rest := []) (C := RX7) (ci := 7) ⟨hx, hb, hml, hown, hts⟩ 0 (mX7_p l dC dI ad cy hJ σ a1 0 r5 qr5) (cwV 2 hts gX7_weighs_X7_p rfl rfl rfl dmX7_p ⟨Nat.le_of_ble_eq_true rfl, Nat.le_of_ble_eq_true rfl⟩) hK hP hS (by decide) (LX7_obj ad cy _) rfl rfl rfl hl.1 (Nat.le_of_ble_eq_true rfl) ⟨Nat.zero_le _, Nat.zero_le _⟩ dX7_weighs_26 (fun H locs hP hS => ?_)
      refine lv_iload_n hx hb dX7_weighs_29 rfl (lv_at hl 2 rfl) ?_
      refine lv_icmp_ne (tgt := 40) hx hb dX7_weighs_30 (by decide) (fun c6 => ?_) (fun c6 => ?_)
      · have hf := (if_neg c6).symm.trans hf
        refine lv_aload_n hx hb dX7_weighs_40 rfl (lv_at hl 0 rfl) ?_
        obtain ⟨r7, qr7, hf⟩ := bd_some hf
        refine xt_callVv (As := []) (rest := []) (C := RX7) (ci := 7) ⟨hx, hb, hml, hown, hts⟩ 0 (mX7_looksAtHomes l dC dI ad cy hJ σ r7 qr7) (cwV 0 hts gX7_weighs_X7_looksAtHomes rfl rfl rfl dmX7_looksAtHomes ⟨Nat.le_of_ble_eq_true rfl, Nat.le_of_ble_eq_true rfl⟩) hK hP hS (by decide) (LX7_obj ad cy _) rfl rfl rfl hl.1 (Nat.le_of_ble_eq_true rfl) ⟨Nat.zero_le _, Nat.zero_le _⟩ dX7_weighs_41 (fun H locs hP hS => ?_)
        refine lv_aload_n hx hb dX7_weighs_44 rfl (lv_at hl 0 rfl) ?_
        refine xt_get (ci := 7) (C := RX7) (T := TX7) (n := 25) (v := .ref (ad 1)) hx hb hts iX7_weighs_X7 hown hK hP 0 (by decide) (LX7_obj ad cy _) rfl 0 (by decide) w1 rfl dX7_weighs_45 ?_
        refine lv_iconst (v := 4) hx hb dX7_weighs_48 (by decide) ?_
        refine lv_iconst (v := 2) hx hb dX7_weighs_49 (by decide) ?_
        refine lv_iload_n hx hb dX7_weighs_50 rfl (lv_at hl 1 rfl) ?_
        refine lv_imul hx hb dX7_weighs_51 ?_
        refine lv_iadd hx hb dX7_weighs_52 ?_
        refine lv_iconst (v := 0) hx hb dX7_weighs_53 (by decide) ?_
        refine lv_iadd hx hb dX7_weighs_54 ?_
        refine lv_iload_n hx hb dX7_weighs_55 rfl (lv_at hl 2 rfl) ?_
        obtain ⟨g8, hf⟩ := gd_some hf
        refine xt_iast hx hb hK hP hJ hS 1 (by decide) 0 (LX7_all ad cy) rfl g8 dX7_weighs_56 (fun H locs hP hS => ?_)
        obtain ⟨σ9, eσ9⟩ : ∃ z : St, z = su r7 1 ((4 + (2 * a1)) + 0).toNatClampNeg a2 := ⟨_, rfl⟩
        rw [← eσ9] at hP
        have hf := nm_to hf eσ9
        refine lv_aload_n hx hb dX7_weighs_57 rfl (lv_at hl 0 rfl) ?_
        obtain ⟨r10, qr10, hf⟩ := bd_some hf
        refine xt_callVi (As := []) (rest := []) (C := RX7) (ci := 7) ⟨hx, hb, hml, hown, hts⟩ 0 (mX7_moves l dC dI ad cy hJ σ9 r10 qr10) (cwV 0 hts gX7_weighs_X7_moves rfl rfl rfl dmX7_moves ⟨Nat.le_of_ble_eq_true rfl, Nat.le_of_ble_eq_true rfl⟩) hK hP hS (by decide) (LX7_obj ad cy _) rfl rfl rfl hl.1 (Nat.le_of_ble_eq_true rfl) ⟨Nat.zero_le _, Nat.zero_le _⟩ dX7_weighs_58 (fun H locs hP hS => ?_)
        exact xt_iret hx hb hr hP hS (rs_1 hf) (rs_2 hf) dX7_weighs_61 hlocks
      · have hf := (if_pos c6).symm.trans hf
        refine lv_aload_n hx hb dX7_weighs_33 rfl (lv_at hl 0 rfl) ?_
        refine lv_iconst (v := 3) hx hb dX7_weighs_34 (by decide) ?_
        refine lv_iload_n hx hb dX7_weighs_35 rfl (lv_at hl 2 rfl) ?_
        obtain ⟨r11, qr11, hf⟩ := bd_some hf
        refine xt_callVi (As := [.int 3, .int a2]) (rest := []) (C := RX7) (ci := 7) ⟨hx, hb, hml, hown, hts⟩ 0 (mX7_refuses l dC dI ad cy hJ σ 3 a2 r11 qr11) (cwV 2 hts gX7_weighs_X7_refuses rfl rfl rfl dmX7_refuses ⟨Nat.le_of_ble_eq_true rfl, Nat.le_of_ble_eq_true rfl⟩) hK hP hS (by decide) (LX7_obj ad cy _) rfl rfl rfl hl.1 (Nat.le_of_ble_eq_true rfl) ⟨Nat.zero_le _, Nat.zero_le _⟩ dX7_weighs_36 (fun H locs hP hS => ?_)
        exact xt_iret hx hb hr hP hS (rs_1 hf) (rs_2 hf) dX7_weighs_39 hlocks
    · have hf := (if_pos c4).symm.trans hf
      refine lv_bipush (v := (-12)) hx hb dX7_weighs_20 (by decide) ?_
      exact xt_iret hx hb hr hP hS (rs_1 hf) (rs_2 hf) dX7_weighs_22 hlocks
  · have hf := (if_pos c2).symm.trans hf
    refine lv_bipush (v := (-11)) hx hb dX7_weighs_8 (by decide) ?_
    exact xt_iret hx hb hr hP hS (rs_1 hf) (rs_2 hf) dX7_weighs_10 hlocks
def fX7_weigh (σ : St) (a1 : Int32) (a2 : Int32) : Option (Int32 × St) :=
  bd (fX7_begins σ) fun r1 => bd (fX7_weighs r1 a1 a2) fun r2 => bd (fX7_ends r2.2 r2.1) fun r3 => some (r3.1, r3.2)
abbrev rmX7_weigh : Room := { frames := 7, cells := 0, slots := 0, locals := 151 }
theorem dmX7_weigh : yX7_weigh.cls = RX7 ∧ yX7_weigh.cls ≠ "java/lang/invoke/MethodHandle" ∧ yX7_weigh.cls ≠ "java/lang/invoke/VarHandle" ∧ (parseMethodDescriptor yX7_weigh.desc).map (fun d => d.parameters.length) = some 2 := by decide +kernel
set_option maxHeartbeats 8000000 in
set_option maxRecDepth 100000 in
theorem mX7_weigh (l : Launch) (dC : Nat → ClassId) (dI : Nat → Nat → Nat) (ad : Nat → Nat) (cy : Nat → ClassId) (hJ : WJ 16 ad) (σ : St) (a1 : Int32) (a2 : Int32) (res : (Int32 × St)) (hf : fX7_weigh σ a1 a2 = some res) : CMi l yX7_weigh wsX7_weigh rmX7_weigh (dC, dI) (tysX cy) 16 ad (layM ad cy) [.ref (ad 0), .int a1, .int a2] σ res.1 res.2 := by
  refine Met.ofW (cc := cX7_weigh) (maxL := 3) (ret := (some .int)) (by decide) rfl ?_
  intro p e s m args below meth c s₁ B hml hv
  obtain ⟨hargs, hP, hK⟩ := hv
  have hx := B.exec
  have hb := B.bytes
  have hr := B.returns
  have hts := atoms_spec (ws := wsX7_weigh) B.pre
  have hown : s.vm.findClass RX7 = some m.cls := findClass_of_methodNamed B.named
  have hlocks := B.notSynchronized
  have hS : va_S (WA 16 ad) s.heap s.heap [] := va_S.rf
  have hfr : entryFrame m args 3 = F0 m 0 ((lg_sl [.ref (ad 0), .int a1, .int a2] ++ List.replicate (3 - (lg_sl [.ref (ad 0), .int a1, .int a2]).length) Slot.unset).toArray) [] := by rw [hargs]; exact lg_entry_eq _ _ _
  rw [hfr]
  have hl := lv_entry ([.ref (ad 0), .int a1, .int a2]) (n := 3) (Nat.le_of_ble_eq_true rfl)
  generalize (lg_sl [.ref (ad 0), .int a1, .int a2] ++ List.replicate (3 - (lg_sl [.ref (ad 0), .int a1, .int a2]).length) Slot.unset).toArray = ls at hl ⊢
  have hl : lv_has ls 3 [(0, .ref (ad 0)), (1, .int a1), (2, .int a2)] := hl
  clear hfr hargs B
  show W p l e rmX7_weigh s m args below meth c s.heap [] 0 0 (MQ below (Qiw (dC, dI) 16 ad (layM ad cy) res.1 res.2) args s 0 0 (WA 16 ad)) (F0 m 0 ls [])
  unfold fX7_weigh at hf
  obtain ⟨H, eH⟩ : ∃ H : Heap, H = s.heap := ⟨_, rfl⟩
  rw [← eH] at hP
  have hS : va_S (WA 16 ad) s.heap H [] := by rw [eH]; exact hS
  suffices K : W p l e rmX7_weigh s m args below meth c H [] 0 0 (MQ below (Qiw (dC, dI) 16 ad (layM ad cy) res.1 res.2) args s 0 0 (WA 16 ad)) (F0 m 0 ls []) by rw [eH] at K; exact K
  clear eH
  obtain ⟨locs, elocs⟩ : ∃ z : List Loc, z = [] := ⟨_, rfl⟩
  rw [← elocs] at hS ⊢
  refine lv_aload_n hx hb dX7_weigh_0 rfl (lv_at hl 0 rfl) ?_
  obtain ⟨r1, qr1, hf⟩ := bd_some hf
  refine xt_callVv (As := []) (rest := []) (C := RX7) (ci := 7) ⟨hx, hb, hml, hown, hts⟩ 0 (mX7_begins l dC dI ad cy hJ σ r1 qr1) (cwV 0 hts gX7_weigh_X7_begins rfl rfl rfl dmX7_begins ⟨Nat.le_of_ble_eq_true rfl, Nat.le_of_ble_eq_true rfl⟩) hK hP hS (by decide) (LX7_obj ad cy _) rfl rfl rfl hl.1 (Nat.le_of_ble_eq_true rfl) ⟨Nat.zero_le _, Nat.zero_le _⟩ dX7_weigh_1 (fun H locs hP hS => ?_)
  refine lv_aload_n hx hb dX7_weigh_4 rfl (lv_at hl 0 rfl) ?_
  refine lv_aload_n hx hb dX7_weigh_5 rfl (lv_at hl 0 rfl) ?_
  refine lv_iload_n hx hb dX7_weigh_6 rfl (lv_at hl 1 rfl) ?_
  refine lv_iload_n hx hb dX7_weigh_7 rfl (lv_at hl 2 rfl) ?_
  obtain ⟨r2, qr2, hf⟩ := bd_some hf
  refine xt_callVi (As := [.int a1, .int a2]) (rest := [.ref (ad 0)]) (C := RX7) (ci := 7) ⟨hx, hb, hml, hown, hts⟩ 0 (mX7_weighs l dC dI ad cy hJ r1 a1 a2 r2 qr2) (cwV 2 hts gX7_weigh_X7_weighs rfl rfl rfl dmX7_weighs ⟨Nat.le_of_ble_eq_true rfl, Nat.le_of_ble_eq_true rfl⟩) hK hP hS (by decide) (LX7_obj ad cy _) rfl rfl rfl hl.1 (Nat.le_of_ble_eq_true rfl) ⟨Nat.zero_le _, Nat.zero_le _⟩ dX7_weigh_8 (fun H locs hP hS => ?_)
  obtain ⟨r3, qr3, hf⟩ := bd_some hf
  refine xt_callVi (As := [.int r2.1]) (rest := []) (C := RX7) (ci := 7) ⟨hx, hb, hml, hown, hts⟩ 0 (mX7_ends l dC dI ad cy hJ r2.2 r2.1 r3 qr3) (cwV 1 hts gX7_weigh_X7_ends rfl rfl rfl dmX7_ends ⟨Nat.le_of_ble_eq_true rfl, Nat.le_of_ble_eq_true rfl⟩) hK hP hS (by decide) (LX7_obj ad cy _) rfl rfl rfl hl.1 (Nat.le_of_ble_eq_true rfl) ⟨Nat.zero_le _, Nat.zero_le _⟩ dX7_weigh_11 (fun H locs hP hS => ?_)
  exact xt_iret hx hb hr hP hS (rs_1 hf) (rs_2 hf) dX7_weigh_14 hlocks
def fX7_bears (σ : St) (a1 : Int32) : Option (Int32 × St) :=
  bd (fX7_in σ a1 10 200) fun r1 => if r1 = 0 then (some ((-12), σ)) else (nm (σ 1 (2 : Int32).toNatClampNeg) fun v3 => if v3 = a1 then (bd (fX7_refuses σ 3 a1) fun r6 => some (r6.1, r6.2)) else (nm (su σ 1 (2 : Int32).toNatClampNeg a1) fun σ5 => some (v3, σ5)))
abbrev rmX7_bears : Room := { frames := 1, cells := 0, slots := 0, locals := 22 }
theorem dmX7_bears : yX7_bears.cls = RX7 ∧ yX7_bears.cls ≠ "java/lang/invoke/MethodHandle" ∧ yX7_bears.cls ≠ "java/lang/invoke/VarHandle" ∧ (parseMethodDescriptor yX7_bears.desc).map (fun d => d.parameters.length) = some 1 := by decide +kernel
theorem iX7_bears_X7 : ∀ w ∈ wsX70, w ∈ wsX7_bears := fun w h => List.mem_cons_of_mem _ (List.mem_append_right _ (h))
set_option maxHeartbeats 8000000 in
set_option maxRecDepth 100000 in
theorem mX7_bears (l : Launch) (dC : Nat → ClassId) (dI : Nat → Nat → Nat) (ad : Nat → Nat) (cy : Nat → ClassId) (hJ : WJ 16 ad) (σ : St) (a1 : Int32) (res : (Int32 × St)) (hf : fX7_bears σ a1 = some res) : CMi l yX7_bears wsX7_bears rmX7_bears (dC, dI) (tysX cy) 16 ad (layM ad cy) [.ref (ad 0), .int a1] σ res.1 res.2 := by
  refine Met.ofW (cc := cX7_bears) (maxL := 3) (ret := (some .int)) (by decide) rfl ?_
  intro p e s m args below meth c s₁ B hml hv
  obtain ⟨hargs, hP, hK⟩ := hv
  have hx := B.exec
  have hb := B.bytes
  have hr := B.returns
  have hts := atoms_spec (ws := wsX7_bears) B.pre
  have hown : s.vm.findClass RX7 = some m.cls := findClass_of_methodNamed B.named
  have hlocks := B.notSynchronized
  have w1 := hts (.fieldLink RX7 9 "PierRingsModel" "all" "[I") (List.mem_of_getElem? (i := 1) rfl)
  have hS : va_S (WA 16 ad) s.heap s.heap [] := va_S.rf
  have hfr : entryFrame m args 3 = F0 m 0 ((lg_sl [.ref (ad 0), .int a1] ++ List.replicate (3 - (lg_sl [.ref (ad 0), .int a1]).length) Slot.unset).toArray) [] := by rw [hargs]; exact lg_entry_eq _ _ _
  rw [hfr]
  have hl := lv_entry ([.ref (ad 0), .int a1]) (n := 3) (Nat.le_of_ble_eq_true rfl)
  generalize (lg_sl [.ref (ad 0), .int a1] ++ List.replicate (3 - (lg_sl [.ref (ad 0), .int a1]).length) Slot.unset).toArray = ls at hl ⊢
  have hl : lv_has ls 3 [(0, .ref (ad 0)), (1, .int a1)] := hl
  clear hfr hargs B
  show W p l e rmX7_bears s m args below meth c s.heap [] 0 0 (MQ below (Qiw (dC, dI) 16 ad (layM ad cy) res.1 res.2) args s 0 0 (WA 16 ad)) (F0 m 0 ls [])
  unfold fX7_bears at hf
  obtain ⟨H, eH⟩ : ∃ H : Heap, H = s.heap := ⟨_, rfl⟩
  rw [← eH] at hP
  have hS : va_S (WA 16 ad) s.heap H [] := by rw [eH]; exact hS
  suffices K : W p l e rmX7_bears s m args below meth c H [] 0 0 (MQ below (Qiw (dC, dI) 16 ad (layM ad cy) res.1 res.2) args s 0 0 (WA 16 ad)) (F0 m 0 ls []) by rw [eH] at K; exact K
  clear eH
  obtain ⟨locs, elocs⟩ : ∃ z : List Loc, z = [] := ⟨_, rfl⟩
  rw [← elocs] at hS ⊢
  refine lv_iload_n hx hb dX7_bears_0 rfl (lv_at hl 1 rfl) ?_
  refine lv_bipush (v := 10) hx hb dX7_bears_1 (by decide) ?_
  refine lv_sipush (v := 200) hx hb dX7_bears_3 (by decide) ?_
  obtain ⟨r1, qr1, hf⟩ := bd_some hf
  refine xt_callSi (As := [.int a1, .int 10, .int 200]) (rest := []) ⟨hx, hb, hml, hown, hts⟩ (mX7_in l dC dI ad cy hJ σ a1 10 200 r1 qr1) (va_cwS 3 hts gX7_bears_X7_in rfl rfl rfl dmX7_in ⟨Nat.le_of_ble_eq_true rfl, Nat.le_of_ble_eq_true rfl⟩) hK hP hS rfl rfl hl.1 (Nat.le_of_ble_eq_true rfl) ⟨Nat.zero_le _, Nat.zero_le _⟩ dX7_bears_6 (fun H locs hP hS => ?_)
  refine lv_if_ne (tgt := 15) hx hb dX7_bears_9 (by decide) (fun c2 => ?_) (fun c2 => ?_)
  · have hf := (if_neg c2).symm.trans hf
    refine lv_aload_n hx hb dX7_bears_15 rfl (lv_at hl 0 rfl) ?_
    refine xt_get (ci := 7) (C := RX7) (T := TX7) (n := 25) (v := .ref (ad 1)) hx hb hts iX7_bears_X7 hown hK hP 0 (by decide) (LX7_obj ad cy _) rfl 0 (by decide) w1 rfl dX7_bears_16 ?_
    refine lv_iconst (v := 2) hx hb dX7_bears_19 (by decide) ?_
    refine xt_iald hx hb hK hP 1 (by decide) 0 (LX7_all ad cy _) rfl (by decide) dX7_bears_20 ?_
    refine lv_topi (fun v3 ev3 => ?_)
    have hf := nm_to hf ev3
    refine lv_istore_n (lv' := [(2, .int v3), (0, .ref (ad 0)), (1, .int a1)]) hx hb dX7_bears_21 rfl hl (by decide) rfl (fun ls hl => ?_)
    refine lv_iload_n hx hb dX7_bears_22 rfl (lv_at hl 0 rfl) ?_
    refine lv_iload_n hx hb dX7_bears_23 rfl (lv_at hl 2 rfl) ?_
    refine lv_icmp_ne (tgt := 34) hx hb dX7_bears_24 (by decide) (fun c4 => ?_) (fun c4 => ?_)
    · have hf := (if_neg c4).symm.trans hf
      refine lv_aload_n hx hb dX7_bears_34 rfl (lv_at hl 1 rfl) ?_
      refine xt_get (ci := 7) (C := RX7) (T := TX7) (n := 25) (v := .ref (ad 1)) hx hb hts iX7_bears_X7 hown hK hP 0 (by decide) (LX7_obj ad cy _) rfl 0 (by decide) w1 rfl dX7_bears_35 ?_
      refine lv_iconst (v := 2) hx hb dX7_bears_38 (by decide) ?_
      refine lv_iload_n hx hb dX7_bears_39 rfl (lv_at hl 2 rfl) ?_
      refine xt_iast hx hb hK hP hJ hS 1 (by decide) 0 (LX7_all ad cy) rfl (by decide) dX7_bears_40 (fun H locs hP hS => ?_)
      obtain ⟨σ5, eσ5⟩ : ∃ z : St, z = su σ 1 (2 : Int32).toNatClampNeg a1 := ⟨_, rfl⟩
      rw [← eσ5] at hP
      have hf := nm_to hf eσ5
      refine lv_iload_n hx hb dX7_bears_41 rfl (lv_at hl 0 rfl) ?_
      exact xt_iret hx hb hr hP hS (rs_1 hf) (rs_2 hf) dX7_bears_42 hlocks
    · have hf := (if_pos c4).symm.trans hf
      refine lv_aload_n hx hb dX7_bears_27 rfl (lv_at hl 1 rfl) ?_
      refine lv_iconst (v := 3) hx hb dX7_bears_28 (by decide) ?_
      refine lv_iload_n hx hb dX7_bears_29 rfl (lv_at hl 2 rfl) ?_
      obtain ⟨r6, qr6, hf⟩ := bd_some hf
      refine xt_callVi (As := [.int 3, .int a1]) (rest := []) (C := RX7) (ci := 7) ⟨hx, hb, hml, hown, hts⟩ 0 (mX7_refuses l dC dI ad cy hJ σ 3 a1 r6 qr6) (cwV 2 hts gX7_bears_X7_refuses rfl rfl rfl dmX7_refuses ⟨Nat.le_of_ble_eq_true rfl, Nat.le_of_ble_eq_true rfl⟩) hK hP hS (by decide) (LX7_obj ad cy _) rfl rfl rfl hl.1 (Nat.le_of_ble_eq_true rfl) ⟨Nat.zero_le _, Nat.zero_le _⟩ dX7_bears_30 (fun H locs hP hS => ?_)
      exact xt_iret hx hb hr hP hS (rs_1 hf) (rs_2 hf) dX7_bears_33 hlocks
  · have hf := (if_pos c2).symm.trans hf
    refine lv_bipush (v := (-12)) hx hb dX7_bears_12 (by decide) ?_
    exact xt_iret hx hb hr hP hS (rs_1 hf) (rs_2 hf) dX7_bears_14 hlocks
def fX7_berth (σ : St) (a1 : Int32) : Option (Int32 × St) :=
  bd (fX7_begins σ) fun r1 => bd (fX7_bears r1 a1) fun r2 => bd (fX7_ends r2.2 r2.1) fun r3 => some (r3.1, r3.2)
abbrev rmX7_berth : Room := { frames := 2, cells := 0, slots := 0, locals := 45 }
theorem dmX7_berth : yX7_berth.cls = RX7 ∧ yX7_berth.cls ≠ "java/lang/invoke/MethodHandle" ∧ yX7_berth.cls ≠ "java/lang/invoke/VarHandle" ∧ (parseMethodDescriptor yX7_berth.desc).map (fun d => d.parameters.length) = some 1 := by decide +kernel
set_option maxHeartbeats 8000000 in
set_option maxRecDepth 100000 in
theorem mX7_berth (l : Launch) (dC : Nat → ClassId) (dI : Nat → Nat → Nat) (ad : Nat → Nat) (cy : Nat → ClassId) (hJ : WJ 16 ad) (σ : St) (a1 : Int32) (res : (Int32 × St)) (hf : fX7_berth σ a1 = some res) : CMi l yX7_berth wsX7_berth rmX7_berth (dC, dI) (tysX cy) 16 ad (layM ad cy) [.ref (ad 0), .int a1] σ res.1 res.2 := by
  refine Met.ofW (cc := cX7_berth) (maxL := 2) (ret := (some .int)) (by decide) rfl ?_
  intro p e s m args below meth c s₁ B hml hv
  obtain ⟨hargs, hP, hK⟩ := hv
  have hx := B.exec
  have hb := B.bytes
  have hr := B.returns
  have hts := atoms_spec (ws := wsX7_berth) B.pre
  have hown : s.vm.findClass RX7 = some m.cls := findClass_of_methodNamed B.named
  have hlocks := B.notSynchronized
  have hS : va_S (WA 16 ad) s.heap s.heap [] := va_S.rf
  have hfr : entryFrame m args 2 = F0 m 0 ((lg_sl [.ref (ad 0), .int a1] ++ List.replicate (2 - (lg_sl [.ref (ad 0), .int a1]).length) Slot.unset).toArray) [] := by rw [hargs]; exact lg_entry_eq _ _ _
  rw [hfr]
  have hl := lv_entry ([.ref (ad 0), .int a1]) (n := 2) (Nat.le_of_ble_eq_true rfl)
  generalize (lg_sl [.ref (ad 0), .int a1] ++ List.replicate (2 - (lg_sl [.ref (ad 0), .int a1]).length) Slot.unset).toArray = ls at hl ⊢
  have hl : lv_has ls 2 [(0, .ref (ad 0)), (1, .int a1)] := hl
  clear hfr hargs B
  show W p l e rmX7_berth s m args below meth c s.heap [] 0 0 (MQ below (Qiw (dC, dI) 16 ad (layM ad cy) res.1 res.2) args s 0 0 (WA 16 ad)) (F0 m 0 ls [])
  unfold fX7_berth at hf
  obtain ⟨H, eH⟩ : ∃ H : Heap, H = s.heap := ⟨_, rfl⟩
  rw [← eH] at hP
  have hS : va_S (WA 16 ad) s.heap H [] := by rw [eH]; exact hS
  suffices K : W p l e rmX7_berth s m args below meth c H [] 0 0 (MQ below (Qiw (dC, dI) 16 ad (layM ad cy) res.1 res.2) args s 0 0 (WA 16 ad)) (F0 m 0 ls []) by rw [eH] at K; exact K
  clear eH
  obtain ⟨locs, elocs⟩ : ∃ z : List Loc, z = [] := ⟨_, rfl⟩
  rw [← elocs] at hS ⊢
  refine lv_aload_n hx hb dX7_berth_0 rfl (lv_at hl 0 rfl) ?_
  obtain ⟨r1, qr1, hf⟩ := bd_some hf
  refine xt_callVv (As := []) (rest := []) (C := RX7) (ci := 7) ⟨hx, hb, hml, hown, hts⟩ 0 (mX7_begins l dC dI ad cy hJ σ r1 qr1) (cwV 0 hts gX7_berth_X7_begins rfl rfl rfl dmX7_begins ⟨Nat.le_of_ble_eq_true rfl, Nat.le_of_ble_eq_true rfl⟩) hK hP hS (by decide) (LX7_obj ad cy _) rfl rfl rfl hl.1 (Nat.le_of_ble_eq_true rfl) ⟨Nat.zero_le _, Nat.zero_le _⟩ dX7_berth_1 (fun H locs hP hS => ?_)
  refine lv_aload_n hx hb dX7_berth_4 rfl (lv_at hl 0 rfl) ?_
  refine lv_aload_n hx hb dX7_berth_5 rfl (lv_at hl 0 rfl) ?_
  refine lv_iload_n hx hb dX7_berth_6 rfl (lv_at hl 1 rfl) ?_
  obtain ⟨r2, qr2, hf⟩ := bd_some hf
  refine xt_callVi (As := [.int a1]) (rest := [.ref (ad 0)]) (C := RX7) (ci := 7) ⟨hx, hb, hml, hown, hts⟩ 0 (mX7_bears l dC dI ad cy hJ r1 a1 r2 qr2) (cwV 1 hts gX7_berth_X7_bears rfl rfl rfl dmX7_bears ⟨Nat.le_of_ble_eq_true rfl, Nat.le_of_ble_eq_true rfl⟩) hK hP hS (by decide) (LX7_obj ad cy _) rfl rfl rfl hl.1 (Nat.le_of_ble_eq_true rfl) ⟨Nat.zero_le _, Nat.zero_le _⟩ dX7_berth_7 (fun H locs hP hS => ?_)
  obtain ⟨r3, qr3, hf⟩ := bd_some hf
  refine xt_callVi (As := [.int r2.1]) (rest := []) (C := RX7) (ci := 7) ⟨hx, hb, hml, hown, hts⟩ 0 (mX7_ends l dC dI ad cy hJ r2.2 r2.1 r3 qr3) (cwV 1 hts gX7_berth_X7_ends rfl rfl rfl dmX7_ends ⟨Nat.le_of_ble_eq_true rfl, Nat.le_of_ble_eq_true rfl⟩) hK hP hS (by decide) (LX7_obj ad cy _) rfl rfl rfl hl.1 (Nat.le_of_ble_eq_true rfl) ⟨Nat.zero_le _, Nat.zero_le _⟩ dX7_berth_10 (fun H locs hP hS => ?_)
  exact xt_iret hx hb hr hP hS (rs_1 hf) (rs_2 hf) dX7_berth_13 hlocks
def fX7_bargeWith_B30 (σ : St) : Option Int32 :=
  some (-1 : Int32)
def fX7_bargeWith_L2 (σ : St) (x1 : Int32) (K2_30 : Option Int32) : Nat → Int32 → Option Int32
  | 0, _ => none
  | n2 + 1, x2 => if (σ 1 (1 : Int32).toNatClampNeg) ≤ x2 then (K2_30) else (bd (fX7_b σ x2 0) fun r2 => if r2 = x1 then (some x2) else (nm (x2 + 1) fun v4 => (fX7_bargeWith_L2 σ x1 K2_30 n2) v4))
def fX7_bargeWith (σ : St) (a1 : Int32) : Option Int32 :=
  fX7_bargeWith_L2 σ a1 (fX7_bargeWith_B30 σ) 1000 0
abbrev rmX7_bargeWith : Room := { frames := 1, cells := 0, slots := 0, locals := 22 }
theorem dmX7_bargeWith : yX7_bargeWith.cls = RX7 ∧ yX7_bargeWith.cls ≠ "java/lang/invoke/MethodHandle" ∧ yX7_bargeWith.cls ≠ "java/lang/invoke/VarHandle" ∧ (parseMethodDescriptor yX7_bargeWith.desc).map (fun d => d.parameters.length) = some 1 := by decide +kernel
theorem iX7_bargeWith_X7 : ∀ w ∈ wsX70, w ∈ wsX7_bargeWith := fun w h => List.mem_cons_of_mem _ (List.mem_append_right _ (h))
set_option maxHeartbeats 8000000 in
set_option maxRecDepth 100000 in
theorem mX7_bargeWith (l : Launch) (dC : Nat → ClassId) (dI : Nat → Nat → Nat) (ad : Nat → Nat) (cy : Nat → ClassId) (hJ : WJ 16 ad) (σ : St) (a1 : Int32) (res : Int32) (hf : fX7_bargeWith σ a1 = some res) : CMi l yX7_bargeWith wsX7_bargeWith rmX7_bargeWith (dC, dI) (tysX cy) 16 ad (layM ad cy) [.ref (ad 0), .int a1] σ res σ := by
  refine Met.ofW (cc := cX7_bargeWith) (maxL := 3) (ret := (some .int)) (by decide) rfl ?_
  intro p e s m args below meth c s₁ B hml hv
  obtain ⟨hargs, hP, hK⟩ := hv
  have hx := B.exec
  have hb := B.bytes
  have hr := B.returns
  have hts := atoms_spec (ws := wsX7_bargeWith) B.pre
  have hown : s.vm.findClass RX7 = some m.cls := findClass_of_methodNamed B.named
  have hlocks := B.notSynchronized
  have w1 := hts (.fieldLink RX7 9 "PierRingsModel" "all" "[I") (List.mem_of_getElem? (i := 1) rfl)
  have hS : va_S (WA 16 ad) s.heap s.heap [] := va_S.rf
  have hfr : entryFrame m args 3 = F0 m 0 ((lg_sl [.ref (ad 0), .int a1] ++ List.replicate (3 - (lg_sl [.ref (ad 0), .int a1]).length) Slot.unset).toArray) [] := by rw [hargs]; exact lg_entry_eq _ _ _
  rw [hfr]
  have hl := lv_entry ([.ref (ad 0), .int a1]) (n := 3) (Nat.le_of_ble_eq_true rfl)
  generalize (lg_sl [.ref (ad 0), .int a1] ++ List.replicate (3 - (lg_sl [.ref (ad 0), .int a1]).length) Slot.unset).toArray = ls at hl ⊢
  have hl : lv_has ls 3 [(0, .ref (ad 0)), (1, .int a1)] := hl
  clear hfr hargs B
  show W p l e rmX7_bargeWith s m args below meth c s.heap [] 0 0 (MQ below (Qiw (dC, dI) 16 ad (layM ad cy) res σ) args s 0 0 (WA 16 ad)) (F0 m 0 ls [])
  have kB30 : fX7_bargeWith_B30 σ = some res → ∀ (H : Heap) (locs : List Loc), va_P (dC, dI) vwCl (wd 16 ad (layM ad cy) σ) H → va_S (WA 16 ad) s.heap H locs → ∀ (ls : Array Slot), lv_has ls 3 [] → W p l e rmX7_bargeWith s m args below meth c H locs 0 0 (MQ below (Qiw (dC, dI) 16 ad (layM ad cy) res σ) args s 0 0 (WA 16 ad)) (F0 m 30 ls []) := by
    intro  hf H locs hP hS ls hl
    unfold fX7_bargeWith_B30 at hf
    refine lv_iconst (v := (-1)) hx hb dX7_bargeWith_30 (by decide) ?_
    exact xt_iret hx hb hr hP hS (Option.some.inj hf) rfl dX7_bargeWith_31 hlocks
  have loop2 : ∀ (x1 : Int32) (n2 : Nat) (x2 : Int32), fX7_bargeWith_L2 σ x1 (fX7_bargeWith_B30 σ) n2 x2 = some res → ∀ (H : Heap) (locs : List Loc), va_P (dC, dI) vwCl (wd 16 ad (layM ad cy) σ) H → va_S (WA 16 ad) s.heap H locs → ∀ (ls : Array Slot), lv_has ls 3 [(0, .ref (ad 0)), (1, .int x1), (2, .int x2)] → W p l e rmX7_bargeWith s m args below meth c H locs 0 0 (MQ below (Qiw (dC, dI) 16 ad (layM ad cy) res σ) args s 0 0 (WA 16 ad)) (F0 m 2 ls []) := by
    intro x1 n2
    induction n2 with
    | zero => intro x2 hf; simp [fX7_bargeWith_L2] at hf
    | succ n2 ih2 =>
      intro x2 hf H locs hP hS ls hl
      rw [fX7_bargeWith_L2] at hf
      refine lv_iload_n hx hb dX7_bargeWith_2 rfl (lv_at hl 2 rfl) ?_
      refine lv_aload_n hx hb dX7_bargeWith_3 rfl (lv_at hl 0 rfl) ?_
      refine xt_get (ci := 7) (C := RX7) (T := TX7) (n := 25) (v := .ref (ad 1)) hx hb hts iX7_bargeWith_X7 hown hK hP 0 (by decide) (LX7_obj ad cy _) rfl 0 (by decide) w1 rfl dX7_bargeWith_4 ?_
      refine lv_iconst (v := 1) hx hb dX7_bargeWith_7 (by decide) ?_
      refine xt_iald hx hb hK hP 1 (by decide) 0 (LX7_all ad cy _) rfl (by decide) dX7_bargeWith_8 ?_
      refine lv_icmp_ge (tgt := 30) hx hb dX7_bargeWith_9 (by decide) (fun c1 => ?_) (fun c1 => ?_)
      · have hf := (if_pos c1).symm.trans hf
        exact kB30 hf H locs hP hS ls (lv_sub hl [] rfl)
      · have hf := (if_neg c1).symm.trans hf
        refine lv_aload_n hx hb dX7_bargeWith_12 rfl (lv_at hl 0 rfl) ?_
        refine lv_iload_n hx hb dX7_bargeWith_13 rfl (lv_at hl 2 rfl) ?_
        refine lv_iconst (v := 0) hx hb dX7_bargeWith_14 (by decide) ?_
        obtain ⟨r2, qr2, hf⟩ := bd_some hf
        refine xt_callVi (As := [.int x2, .int 0]) (rest := []) (C := RX7) (ci := 7) ⟨hx, hb, hml, hown, hts⟩ 0 (mX7_b l dC dI ad cy hJ σ x2 0 r2 qr2) (cwV 2 hts gX7_bargeWith_X7_b rfl rfl rfl dmX7_b ⟨Nat.le_of_ble_eq_true rfl, Nat.le_of_ble_eq_true rfl⟩) hK hP hS (by decide) (LX7_obj ad cy _) rfl rfl rfl hl.1 (Nat.le_of_ble_eq_true rfl) ⟨Nat.zero_le _, Nat.zero_le _⟩ dX7_bargeWith_15 (fun H locs hP hS => ?_)
        refine lv_iload_n hx hb dX7_bargeWith_18 rfl (lv_at hl 1 rfl) ?_
        refine lv_icmp_ne (tgt := 24) hx hb dX7_bargeWith_19 (by decide) (fun c3 => ?_) (fun c3 => ?_)
        · have hf := (if_neg c3).symm.trans hf
          obtain ⟨v4, ev4⟩ : ∃ y : Int32, y = x2 + 1 := ⟨_, rfl⟩
          have hf := nm_to hf ev4
          refine lv_iinc (v := v4) (lv' := [(2, .int v4), (0, .ref (ad 0)), (1, .int x1)]) hx hb dX7_bargeWith_24 hl (k := 2) rfl (by rw [ev4]; rfl) (by decide) rfl (fun ls hl => ?_)
          refine lv_goto (tgt := 2) hx hb dX7_bargeWith_27 (by decide) ?_
          exact ih2 v4 hf H locs hP hS ls (lv_sub hl [1, 2, 0] rfl)
        · have hf := (if_pos c3).symm.trans hf
          refine lv_iload_n hx hb dX7_bargeWith_22 rfl (lv_at hl 2 rfl) ?_
          exact xt_iret hx hb hr hP hS (Option.some.inj hf) rfl dX7_bargeWith_23 hlocks
  unfold fX7_bargeWith at hf
  obtain ⟨H, eH⟩ : ∃ H : Heap, H = s.heap := ⟨_, rfl⟩
  rw [← eH] at hP
  have hS : va_S (WA 16 ad) s.heap H [] := by rw [eH]; exact hS
  suffices K : W p l e rmX7_bargeWith s m args below meth c H [] 0 0 (MQ below (Qiw (dC, dI) 16 ad (layM ad cy) res σ) args s 0 0 (WA 16 ad)) (F0 m 0 ls []) by rw [eH] at K; exact K
  clear eH
  obtain ⟨locs, elocs⟩ : ∃ z : List Loc, z = [] := ⟨_, rfl⟩
  rw [← elocs] at hS ⊢
  refine lv_iconst (v := 0) hx hb dX7_bargeWith_0 (by decide) ?_
  refine lv_istore_n (lv' := [(2, .int 0), (0, .ref (ad 0)), (1, .int a1)]) hx hb dX7_bargeWith_1 rfl hl (by decide) rfl (fun ls hl => ?_)
  exact loop2 a1 1000 0 hf H locs hP hS ls (lv_sub hl [1, 2, 0] rfl)
def fX7_comes (σ : St) (a1 : Int32) (a2 : Int32) : Option (Int32 × St) :=
  bd (fX7_in σ a1 0 9999) fun r1 => if r1 = 0 then (some ((-12), σ)) else (bd (fX7_in σ a2 1 99) fun r3 => if r3 = 0 then (some ((-12), σ)) else (bd (fX7_bargeWith σ a1) fun r5 => nm (σ 1 (1 : Int32).toNatClampNeg) fun v6 => if r5 = (-1 : Int32) then (if v6 = (24 : Int32) then (bd (fX7_refuses σ 1 24) fun r14 => some (r14.1, r14.2)) else (gd (okI ((20 + (2 * v6)) + 0) 816) <| nm (su σ 1 ((20 + (2 * v6)) + 0).toNatClampNeg a1) fun σ10 => gd (okI ((20 + (2 * v6)) + 1) 816) <| nm (su σ10 1 ((20 + (2 * v6)) + 1).toNatClampNeg a2) fun σ12 => nm (su σ12 1 (1 : Int32).toNatClampNeg ((σ12 1 (1 : Int32).toNatClampNeg) + 1)) fun σ13 => some (v6, σ13))) else (bd (fX7_refuses σ 2 r5) fun r15 => some (r15.1, r15.2))))
abbrev rmX7_comes : Room := { frames := 2, cells := 0, slots := 0, locals := 44 }
theorem dmX7_comes : yX7_comes.cls = RX7 ∧ yX7_comes.cls ≠ "java/lang/invoke/MethodHandle" ∧ yX7_comes.cls ≠ "java/lang/invoke/VarHandle" ∧ (parseMethodDescriptor yX7_comes.desc).map (fun d => d.parameters.length) = some 2 := by decide +kernel
theorem iX7_comes_X7 : ∀ w ∈ wsX70, w ∈ wsX7_comes := fun w h => List.mem_cons_of_mem _ (List.mem_append_right _ (h))
set_option maxHeartbeats 8000000 in
set_option maxRecDepth 100000 in
theorem mX7_comes (l : Launch) (dC : Nat → ClassId) (dI : Nat → Nat → Nat) (ad : Nat → Nat) (cy : Nat → ClassId) (hJ : WJ 16 ad) (σ : St) (a1 : Int32) (a2 : Int32) (res : (Int32 × St)) (hf : fX7_comes σ a1 a2 = some res) : CMi l yX7_comes wsX7_comes rmX7_comes (dC, dI) (tysX cy) 16 ad (layM ad cy) [.ref (ad 0), .int a1, .int a2] σ res.1 res.2 := by
  refine Met.ofW (cc := cX7_comes) (maxL := 5) (ret := (some .int)) (by decide) rfl ?_
  intro p e s m args below meth c s₁ B hml hv
  obtain ⟨hargs, hP, hK⟩ := hv
  have hx := B.exec
  have hb := B.bytes
  have hr := B.returns
  have hts := atoms_spec (ws := wsX7_comes) B.pre
  have hown : s.vm.findClass RX7 = some m.cls := findClass_of_methodNamed B.named
  have hlocks := B.notSynchronized
  have w1 := hts (.fieldLink RX7 9 "PierRingsModel" "all" "[I") (List.mem_of_getElem? (i := 1) rfl)
  have hS : va_S (WA 16 ad) s.heap s.heap [] := va_S.rf
  have hfr : entryFrame m args 5 = F0 m 0 ((lg_sl [.ref (ad 0), .int a1, .int a2] ++ List.replicate (5 - (lg_sl [.ref (ad 0), .int a1, .int a2]).length) Slot.unset).toArray) [] := by rw [hargs]; exact lg_entry_eq _ _ _
  rw [hfr]
  have hl := lv_entry ([.ref (ad 0), .int a1, .int a2]) (n := 5) (Nat.le_of_ble_eq_true rfl)
  generalize (lg_sl [.ref (ad 0), .int a1, .int a2] ++ List.replicate (5 - (lg_sl [.ref (ad 0), .int a1, .int a2]).length) Slot.unset).toArray = ls at hl ⊢
  have hl : lv_has ls 5 [(0, .ref (ad 0)), (1, .int a1), (2, .int a2)] := hl
  clear hfr hargs B
  show W p l e rmX7_comes s m args below meth c s.heap [] 0 0 (MQ below (Qiw (dC, dI) 16 ad (layM ad cy) res.1 res.2) args s 0 0 (WA 16 ad)) (F0 m 0 ls [])
  unfold fX7_comes at hf
  obtain ⟨H, eH⟩ : ∃ H : Heap, H = s.heap := ⟨_, rfl⟩
  rw [← eH] at hP
  have hS : va_S (WA 16 ad) s.heap H [] := by rw [eH]; exact hS
  suffices K : W p l e rmX7_comes s m args below meth c H [] 0 0 (MQ below (Qiw (dC, dI) 16 ad (layM ad cy) res.1 res.2) args s 0 0 (WA 16 ad)) (F0 m 0 ls []) by rw [eH] at K; exact K
  clear eH
  obtain ⟨locs, elocs⟩ : ∃ z : List Loc, z = [] := ⟨_, rfl⟩
  rw [← elocs] at hS ⊢
  refine lv_iload_n hx hb dX7_comes_0 rfl (lv_at hl 1 rfl) ?_
  refine lv_iconst (v := 0) hx hb dX7_comes_1 (by decide) ?_
  refine lv_sipush (v := 9999) hx hb dX7_comes_2 (by decide) ?_
  obtain ⟨r1, qr1, hf⟩ := bd_some hf
  refine xt_callSi (As := [.int a1, .int 0, .int 9999]) (rest := []) ⟨hx, hb, hml, hown, hts⟩ (mX7_in l dC dI ad cy hJ σ a1 0 9999 r1 qr1) (va_cwS 3 hts gX7_comes_X7_in rfl rfl rfl dmX7_in ⟨Nat.le_of_ble_eq_true rfl, Nat.le_of_ble_eq_true rfl⟩) hK hP hS rfl rfl hl.1 (Nat.le_of_ble_eq_true rfl) ⟨Nat.zero_le _, Nat.zero_le _⟩ dX7_comes_5 (fun H locs hP hS => ?_)
  refine lv_if_eq (tgt := 21) hx hb dX7_comes_8 (by decide) (fun c2 => ?_) (fun c2 => ?_)
  · have hf := (if_pos c2).symm.trans hf
    refine lv_bipush (v := (-12)) hx hb dX7_comes_21 (by decide) ?_
    exact xt_iret hx hb hr hP hS (rs_1 hf) (rs_2 hf) dX7_comes_23 hlocks
  · have hf := (if_neg c2).symm.trans hf
    refine lv_iload_n hx hb dX7_comes_11 rfl (lv_at hl 2 rfl) ?_
    refine lv_iconst (v := 1) hx hb dX7_comes_12 (by decide) ?_
    refine lv_bipush (v := 99) hx hb dX7_comes_13 (by decide) ?_
    obtain ⟨r3, qr3, hf⟩ := bd_some hf
    refine xt_callSi (As := [.int a2, .int 1, .int 99]) (rest := []) ⟨hx, hb, hml, hown, hts⟩ (mX7_in l dC dI ad cy hJ σ a2 1 99 r3 qr3) (va_cwS 3 hts gX7_comes_X7_in rfl rfl rfl dmX7_in ⟨Nat.le_of_ble_eq_true rfl, Nat.le_of_ble_eq_true rfl⟩) hK hP hS rfl rfl hl.1 (Nat.le_of_ble_eq_true rfl) ⟨Nat.zero_le _, Nat.zero_le _⟩ dX7_comes_15 (fun H locs hP hS => ?_)
    refine lv_if_ne (tgt := 24) hx hb dX7_comes_18 (by decide) (fun c4 => ?_) (fun c4 => ?_)
    · have hf := (if_neg c4).symm.trans hf
      refine lv_aload_n hx hb dX7_comes_24 rfl (lv_at hl 0 rfl) ?_
      refine lv_iload_n hx hb dX7_comes_25 rfl (lv_at hl 1 rfl) ?_
      obtain ⟨r5, qr5, hf⟩ := bd_some hf
      refine xt_callVi (As := [.int a1]) (rest := []) (C := RX7) (ci := 7) ⟨hx, hb, hml, hown, hts⟩ 0 (mX7_bargeWith l dC dI ad cy hJ σ a1 r5 qr5) (cwV 1 hts gX7_comes_X7_bargeWith rfl rfl rfl dmX7_bargeWith ⟨Nat.le_of_ble_eq_true rfl, Nat.le_of_ble_eq_true rfl⟩) hK hP hS (by decide) (LX7_obj ad cy _) rfl rfl rfl hl.1 (Nat.le_of_ble_eq_true rfl) ⟨Nat.zero_le _, Nat.zero_le _⟩ dX7_comes_26 (fun H locs hP hS => ?_)
      refine lv_istore_n (lv' := [(3, .int r5), (0, .ref (ad 0)), (1, .int a1), (2, .int a2)]) hx hb dX7_comes_29 rfl hl (by decide) rfl (fun ls hl => ?_)
      refine lv_aload_n hx hb dX7_comes_30 rfl (lv_at hl 1 rfl) ?_
      refine xt_get (ci := 7) (C := RX7) (T := TX7) (n := 25) (v := .ref (ad 1)) hx hb hts iX7_comes_X7 hown hK hP 0 (by decide) (LX7_obj ad cy _) rfl 0 (by decide) w1 rfl dX7_comes_31 ?_
      refine lv_iconst (v := 1) hx hb dX7_comes_34 (by decide) ?_
      refine xt_iald hx hb hK hP 1 (by decide) 0 (LX7_all ad cy _) rfl (by decide) dX7_comes_35 ?_
      refine lv_topi (fun v6 ev6 => ?_)
      have hf := nm_to hf ev6
      refine lv_istore (lv' := [(4, .int v6), (3, .int r5), (0, .ref (ad 0)), (1, .int a1), (2, .int a2)]) hx hb dX7_comes_36 hl (by decide) rfl (fun ls hl => ?_)
      refine lv_iload_n hx hb dX7_comes_38 rfl (lv_at hl 1 rfl) ?_
      refine lv_iconst (v := (-1)) hx hb dX7_comes_39 (by decide) ?_
      refine lv_icmp_eq (tgt := 50) hx hb dX7_comes_40 (by decide) (fun c7 => ?_) (fun c7 => ?_)
      · have hf := (if_pos c7).symm.trans hf
        refine lv_iload hx hb dX7_comes_50 (lv_at hl 0 rfl) ?_
        refine lv_bipush (v := 24) hx hb dX7_comes_52 (by decide) ?_
        refine lv_icmp_ne (tgt := 65) hx hb dX7_comes_54 (by decide) (fun c8 => ?_) (fun c8 => ?_)
        · have hf := (if_neg c8).symm.trans hf
          refine lv_aload_n hx hb dX7_comes_65 rfl (lv_at hl 2 rfl) ?_
          refine xt_get (ci := 7) (C := RX7) (T := TX7) (n := 25) (v := .ref (ad 1)) hx hb hts iX7_comes_X7 hown hK hP 0 (by decide) (LX7_obj ad cy _) rfl 0 (by decide) w1 rfl dX7_comes_66 ?_
          refine lv_bipush (v := 20) hx hb dX7_comes_69 (by decide) ?_
          refine lv_iconst (v := 2) hx hb dX7_comes_71 (by decide) ?_
          refine lv_iload hx hb dX7_comes_72 (lv_at hl 0 rfl) ?_
          refine lv_imul hx hb dX7_comes_74 ?_
          refine lv_iadd hx hb dX7_comes_75 ?_
          refine lv_iconst (v := 0) hx hb dX7_comes_76 (by decide) ?_
          refine lv_iadd hx hb dX7_comes_77 ?_
          refine lv_iload_n hx hb dX7_comes_78 rfl (lv_at hl 3 rfl) ?_
          obtain ⟨g9, hf⟩ := gd_some hf
          refine xt_iast hx hb hK hP hJ hS 1 (by decide) 0 (LX7_all ad cy) rfl g9 dX7_comes_79 (fun H locs hP hS => ?_)
          obtain ⟨σ10, eσ10⟩ : ∃ z : St, z = su σ 1 ((20 + (2 * v6)) + 0).toNatClampNeg a1 := ⟨_, rfl⟩
          rw [← eσ10] at hP
          have hf := nm_to hf eσ10
          refine lv_aload_n hx hb dX7_comes_80 rfl (lv_at hl 2 rfl) ?_
          refine xt_get (ci := 7) (C := RX7) (T := TX7) (n := 25) (v := .ref (ad 1)) hx hb hts iX7_comes_X7 hown hK hP 0 (by decide) (LX7_obj ad cy _) rfl 0 (by decide) w1 rfl dX7_comes_81 ?_
          refine lv_bipush (v := 20) hx hb dX7_comes_84 (by decide) ?_
          refine lv_iconst (v := 2) hx hb dX7_comes_86 (by decide) ?_
          refine lv_iload hx hb dX7_comes_87 (lv_at hl 0 rfl) ?_
          refine lv_imul hx hb dX7_comes_89 ?_
          refine lv_iadd hx hb dX7_comes_90 ?_
          refine lv_iconst (v := 1) hx hb dX7_comes_91 (by decide) ?_
          refine lv_iadd hx hb dX7_comes_92 ?_
          refine lv_iload_n hx hb dX7_comes_93 rfl (lv_at hl 4 rfl) ?_
          obtain ⟨g11, hf⟩ := gd_some hf
          refine xt_iast hx hb hK hP hJ hS 1 (by decide) 0 (LX7_all ad cy) rfl g11 dX7_comes_94 (fun H locs hP hS => ?_)
          obtain ⟨σ12, eσ12⟩ : ∃ z : St, z = su σ10 1 ((20 + (2 * v6)) + 1).toNatClampNeg a2 := ⟨_, rfl⟩
          rw [← eσ12] at hP
          have hf := nm_to hf eσ12
          refine lv_aload_n hx hb dX7_comes_95 rfl (lv_at hl 2 rfl) ?_
          refine xt_get (ci := 7) (C := RX7) (T := TX7) (n := 25) (v := .ref (ad 1)) hx hb hts iX7_comes_X7 hown hK hP 0 (by decide) (LX7_obj ad cy _) rfl 0 (by decide) w1 rfl dX7_comes_96 ?_
          refine lv_iconst (v := 1) hx hb dX7_comes_99 (by decide) ?_
          refine lv_dup2_11 hx hb dX7_comes_100 rfl rfl ?_
          refine xt_iald hx hb hK hP 1 (by decide) 0 (LX7_all ad cy _) rfl (by decide) dX7_comes_101 ?_
          refine lv_iconst (v := 1) hx hb dX7_comes_102 (by decide) ?_
          refine lv_iadd hx hb dX7_comes_103 ?_
          refine xt_iast hx hb hK hP hJ hS 1 (by decide) 0 (LX7_all ad cy) rfl (by decide) dX7_comes_104 (fun H locs hP hS => ?_)
          obtain ⟨σ13, eσ13⟩ : ∃ z : St, z = su σ12 1 (1 : Int32).toNatClampNeg ((σ12 1 (1 : Int32).toNatClampNeg) + 1) := ⟨_, rfl⟩
          rw [← eσ13] at hP
          have hf := nm_to hf eσ13
          refine lv_iload hx hb dX7_comes_105 (lv_at hl 0 rfl) ?_
          exact xt_iret hx hb hr hP hS (rs_1 hf) (rs_2 hf) dX7_comes_107 hlocks
        · have hf := (if_pos c8).symm.trans hf
          refine lv_aload_n hx hb dX7_comes_57 rfl (lv_at hl 2 rfl) ?_
          refine lv_iconst (v := 1) hx hb dX7_comes_58 (by decide) ?_
          refine lv_bipush (v := 24) hx hb dX7_comes_59 (by decide) ?_
          obtain ⟨r14, qr14, hf⟩ := bd_some hf
          refine xt_callVi (As := [.int 1, .int 24]) (rest := []) (C := RX7) (ci := 7) ⟨hx, hb, hml, hown, hts⟩ 0 (mX7_refuses l dC dI ad cy hJ σ 1 24 r14 qr14) (cwV 2 hts gX7_comes_X7_refuses rfl rfl rfl dmX7_refuses ⟨Nat.le_of_ble_eq_true rfl, Nat.le_of_ble_eq_true rfl⟩) hK hP hS (by decide) (LX7_obj ad cy _) rfl rfl rfl hl.1 (Nat.le_of_ble_eq_true rfl) ⟨Nat.zero_le _, Nat.zero_le _⟩ dX7_comes_61 (fun H locs hP hS => ?_)
          exact xt_iret hx hb hr hP hS (rs_1 hf) (rs_2 hf) dX7_comes_64 hlocks
      · have hf := (if_neg c7).symm.trans hf
        refine lv_aload_n hx hb dX7_comes_43 rfl (lv_at hl 2 rfl) ?_
        refine lv_iconst (v := 2) hx hb dX7_comes_44 (by decide) ?_
        refine lv_iload_n hx hb dX7_comes_45 rfl (lv_at hl 1 rfl) ?_
        obtain ⟨r15, qr15, hf⟩ := bd_some hf
        refine xt_callVi (As := [.int 2, .int r5]) (rest := []) (C := RX7) (ci := 7) ⟨hx, hb, hml, hown, hts⟩ 0 (mX7_refuses l dC dI ad cy hJ σ 2 r5 r15 qr15) (cwV 2 hts gX7_comes_X7_refuses rfl rfl rfl dmX7_refuses ⟨Nat.le_of_ble_eq_true rfl, Nat.le_of_ble_eq_true rfl⟩) hK hP hS (by decide) (LX7_obj ad cy _) rfl rfl rfl hl.1 (Nat.le_of_ble_eq_true rfl) ⟨Nat.zero_le _, Nat.zero_le _⟩ dX7_comes_46 (fun H locs hP hS => ?_)
        exact xt_iret hx hb hr hP hS (rs_1 hf) (rs_2 hf) dX7_comes_49 hlocks
    · have hf := (if_pos c4).symm.trans hf
      refine lv_bipush (v := (-12)) hx hb dX7_comes_21 (by decide) ?_
      exact xt_iret hx hb hr hP hS (rs_1 hf) (rs_2 hf) dX7_comes_23 hlocks
def fX7_barge (σ : St) (a1 : Int32) (a2 : Int32) : Option (Int32 × St) :=
  bd (fX7_begins σ) fun r1 => bd (fX7_comes r1 a1 a2) fun r2 => bd (fX7_ends r2.2 r2.1) fun r3 => some (r3.1, r3.2)
abbrev rmX7_barge : Room := { frames := 3, cells := 0, slots := 0, locals := 68 }
theorem dmX7_barge : yX7_barge.cls = RX7 ∧ yX7_barge.cls ≠ "java/lang/invoke/MethodHandle" ∧ yX7_barge.cls ≠ "java/lang/invoke/VarHandle" ∧ (parseMethodDescriptor yX7_barge.desc).map (fun d => d.parameters.length) = some 2 := by decide +kernel
set_option maxHeartbeats 8000000 in
set_option maxRecDepth 100000 in
theorem mX7_barge (l : Launch) (dC : Nat → ClassId) (dI : Nat → Nat → Nat) (ad : Nat → Nat) (cy : Nat → ClassId) (hJ : WJ 16 ad) (σ : St) (a1 : Int32) (a2 : Int32) (res : (Int32 × St)) (hf : fX7_barge σ a1 a2 = some res) : CMi l yX7_barge wsX7_barge rmX7_barge (dC, dI) (tysX cy) 16 ad (layM ad cy) [.ref (ad 0), .int a1, .int a2] σ res.1 res.2 := by
  refine Met.ofW (cc := cX7_barge) (maxL := 3) (ret := (some .int)) (by decide) rfl ?_
  intro p e s m args below meth c s₁ B hml hv
  obtain ⟨hargs, hP, hK⟩ := hv
  have hx := B.exec
  have hb := B.bytes
  have hr := B.returns
  have hts := atoms_spec (ws := wsX7_barge) B.pre
  have hown : s.vm.findClass RX7 = some m.cls := findClass_of_methodNamed B.named
  have hlocks := B.notSynchronized
  have hS : va_S (WA 16 ad) s.heap s.heap [] := va_S.rf
  have hfr : entryFrame m args 3 = F0 m 0 ((lg_sl [.ref (ad 0), .int a1, .int a2] ++ List.replicate (3 - (lg_sl [.ref (ad 0), .int a1, .int a2]).length) Slot.unset).toArray) [] := by rw [hargs]; exact lg_entry_eq _ _ _
  rw [hfr]
  have hl := lv_entry ([.ref (ad 0), .int a1, .int a2]) (n := 3) (Nat.le_of_ble_eq_true rfl)
  generalize (lg_sl [.ref (ad 0), .int a1, .int a2] ++ List.replicate (3 - (lg_sl [.ref (ad 0), .int a1, .int a2]).length) Slot.unset).toArray = ls at hl ⊢
  have hl : lv_has ls 3 [(0, .ref (ad 0)), (1, .int a1), (2, .int a2)] := hl
  clear hfr hargs B
  show W p l e rmX7_barge s m args below meth c s.heap [] 0 0 (MQ below (Qiw (dC, dI) 16 ad (layM ad cy) res.1 res.2) args s 0 0 (WA 16 ad)) (F0 m 0 ls [])
  unfold fX7_barge at hf
  obtain ⟨H, eH⟩ : ∃ H : Heap, H = s.heap := ⟨_, rfl⟩
  rw [← eH] at hP
  have hS : va_S (WA 16 ad) s.heap H [] := by rw [eH]; exact hS
  suffices K : W p l e rmX7_barge s m args below meth c H [] 0 0 (MQ below (Qiw (dC, dI) 16 ad (layM ad cy) res.1 res.2) args s 0 0 (WA 16 ad)) (F0 m 0 ls []) by rw [eH] at K; exact K
  clear eH
  obtain ⟨locs, elocs⟩ : ∃ z : List Loc, z = [] := ⟨_, rfl⟩
  rw [← elocs] at hS ⊢
  refine lv_aload_n hx hb dX7_barge_0 rfl (lv_at hl 0 rfl) ?_
  obtain ⟨r1, qr1, hf⟩ := bd_some hf
  refine xt_callVv (As := []) (rest := []) (C := RX7) (ci := 7) ⟨hx, hb, hml, hown, hts⟩ 0 (mX7_begins l dC dI ad cy hJ σ r1 qr1) (cwV 0 hts gX7_barge_X7_begins rfl rfl rfl dmX7_begins ⟨Nat.le_of_ble_eq_true rfl, Nat.le_of_ble_eq_true rfl⟩) hK hP hS (by decide) (LX7_obj ad cy _) rfl rfl rfl hl.1 (Nat.le_of_ble_eq_true rfl) ⟨Nat.zero_le _, Nat.zero_le _⟩ dX7_barge_1 (fun H locs hP hS => ?_)
  refine lv_aload_n hx hb dX7_barge_4 rfl (lv_at hl 0 rfl) ?_
  refine lv_aload_n hx hb dX7_barge_5 rfl (lv_at hl 0 rfl) ?_
  refine lv_iload_n hx hb dX7_barge_6 rfl (lv_at hl 1 rfl) ?_
  refine lv_iload_n hx hb dX7_barge_7 rfl (lv_at hl 2 rfl) ?_
  obtain ⟨r2, qr2, hf⟩ := bd_some hf
  refine xt_callVi (As := [.int a1, .int a2]) (rest := [.ref (ad 0)]) (C := RX7) (ci := 7) ⟨hx, hb, hml, hown, hts⟩ 0 (mX7_comes l dC dI ad cy hJ r1 a1 a2 r2 qr2) (cwV 2 hts gX7_barge_X7_comes rfl rfl rfl dmX7_comes ⟨Nat.le_of_ble_eq_true rfl, Nat.le_of_ble_eq_true rfl⟩) hK hP hS (by decide) (LX7_obj ad cy _) rfl rfl rfl hl.1 (Nat.le_of_ble_eq_true rfl) ⟨Nat.zero_le _, Nat.zero_le _⟩ dX7_barge_8 (fun H locs hP hS => ?_)
  obtain ⟨r3, qr3, hf⟩ := bd_some hf
  refine xt_callVi (As := [.int r2.1]) (rest := []) (C := RX7) (ci := 7) ⟨hx, hb, hml, hown, hts⟩ 0 (mX7_ends l dC dI ad cy hJ r2.2 r2.1 r3 qr3) (cwV 1 hts gX7_barge_X7_ends rfl rfl rfl dmX7_ends ⟨Nat.le_of_ble_eq_true rfl, Nat.le_of_ble_eq_true rfl⟩) hK hP hS (by decide) (LX7_obj ad cy _) rfl rfl rfl hl.1 (Nat.le_of_ble_eq_true rfl) ⟨Nat.zero_le _, Nat.zero_le _⟩ dX7_barge_11 (fun H locs hP hS => ?_)
  exact xt_iret hx hb hr hP hS (rs_1 hf) (rs_2 hf) dX7_barge_14 hlocks
def fX7_leaves_B65 (σ : St) (x2 : Int32) : Option (Int32 × St) :=
  gd (okI (20 + (2 * x2)) 816) <| nm (su σ 1 (20 + (2 * x2)).toNatClampNeg 0) fun σ2 => gd (okI ((20 + (2 * x2)) + 1) 816) <| nm (su σ2 1 ((20 + (2 * x2)) + 1).toNatClampNeg 0) fun σ4 => some (x2, σ4)
def fX7_leaves_L32 (x2 : Int32) (K32_65 : St → Option (Int32 × St)) : Nat → St → Int32 → Option (Int32 × St)
  | 0, _, _ => none
  | n32 + 1, σ, x3 => if (2 * x2) ≤ x3 then (K32_65 σ) else (gd (okI ((20 + x3) + 2) 816) <| gd (okI (20 + x3) 816) <| nm (su σ 1 (20 + x3).toNatClampNeg (σ 1 ((20 + x3) + 2).toNatClampNeg)) fun σ8 => nm (x3 + 1) fun v9 => (fX7_leaves_L32 x2 K32_65 n32) σ8 v9)
def fX7_leaves (σ : St) (a1 : Int32) : Option (Int32 × St) :=
  bd (fX7_isBarge σ a1) fun r10 => if r10 = 0 then (some ((-11), σ)) else (nm (su σ 1 (1 : Int32).toNatClampNeg ((σ 1 (1 : Int32).toNatClampNeg) - 1)) fun σ12 => nm (σ12 1 (1 : Int32).toNatClampNeg) fun v13 => nm (2 * a1) fun v14 => fX7_leaves_L32 v13 (fun σ => fX7_leaves_B65 σ v13) 1000 σ12 v14)
abbrev rmX7_leaves : Room := { frames := 2, cells := 0, slots := 0, locals := 43 }
theorem dmX7_leaves : yX7_leaves.cls = RX7 ∧ yX7_leaves.cls ≠ "java/lang/invoke/MethodHandle" ∧ yX7_leaves.cls ≠ "java/lang/invoke/VarHandle" ∧ (parseMethodDescriptor yX7_leaves.desc).map (fun d => d.parameters.length) = some 1 := by decide +kernel
theorem iX7_leaves_X7 : ∀ w ∈ wsX70, w ∈ wsX7_leaves := fun w h => List.mem_cons_of_mem _ (List.mem_append_right _ (h))
set_option maxHeartbeats 8000000 in
set_option maxRecDepth 100000 in
theorem mX7_leaves (l : Launch) (dC : Nat → ClassId) (dI : Nat → Nat → Nat) (ad : Nat → Nat) (cy : Nat → ClassId) (hJ : WJ 16 ad) (σ : St) (a1 : Int32) (res : (Int32 × St)) (hf : fX7_leaves σ a1 = some res) : CMi l yX7_leaves wsX7_leaves rmX7_leaves (dC, dI) (tysX cy) 16 ad (layM ad cy) [.ref (ad 0), .int a1] σ res.1 res.2 := by
  refine Met.ofW (cc := cX7_leaves) (maxL := 4) (ret := (some .int)) (by decide) rfl ?_
  intro p e s m args below meth c s₁ B hml hv
  obtain ⟨hargs, hP, hK⟩ := hv
  have hx := B.exec
  have hb := B.bytes
  have hr := B.returns
  have hts := atoms_spec (ws := wsX7_leaves) B.pre
  have hown : s.vm.findClass RX7 = some m.cls := findClass_of_methodNamed B.named
  have hlocks := B.notSynchronized
  have w1 := hts (.fieldLink RX7 9 "PierRingsModel" "all" "[I") (List.mem_of_getElem? (i := 1) rfl)
  have hS : va_S (WA 16 ad) s.heap s.heap [] := va_S.rf
  have hfr : entryFrame m args 4 = F0 m 0 ((lg_sl [.ref (ad 0), .int a1] ++ List.replicate (4 - (lg_sl [.ref (ad 0), .int a1]).length) Slot.unset).toArray) [] := by rw [hargs]; exact lg_entry_eq _ _ _
  rw [hfr]
  have hl := lv_entry ([.ref (ad 0), .int a1]) (n := 4) (Nat.le_of_ble_eq_true rfl)
  generalize (lg_sl [.ref (ad 0), .int a1] ++ List.replicate (4 - (lg_sl [.ref (ad 0), .int a1]).length) Slot.unset).toArray = ls at hl ⊢
  have hl : lv_has ls 4 [(0, .ref (ad 0)), (1, .int a1)] := hl
  clear hfr hargs B
  show W p l e rmX7_leaves s m args below meth c s.heap [] 0 0 (MQ below (Qiw (dC, dI) 16 ad (layM ad cy) res.1 res.2) args s 0 0 (WA 16 ad)) (F0 m 0 ls [])
  have kB65 : ∀ (σ : St) (x2 : Int32), fX7_leaves_B65 σ x2 = some res → ∀ (H : Heap) (locs : List Loc), va_P (dC, dI) vwCl (wd 16 ad (layM ad cy) σ) H → va_S (WA 16 ad) s.heap H locs → ∀ (ls : Array Slot), lv_has ls 4 [(0, .ref (ad 0)), (2, .int x2)] → W p l e rmX7_leaves s m args below meth c H locs 0 0 (MQ below (Qiw (dC, dI) 16 ad (layM ad cy) res.1 res.2) args s 0 0 (WA 16 ad)) (F0 m 65 ls []) := by
    intro σ x2 hf H locs hP hS ls hl
    unfold fX7_leaves_B65 at hf
    refine lv_aload_n hx hb dX7_leaves_65 rfl (lv_at hl 0 rfl) ?_
    refine xt_get (ci := 7) (C := RX7) (T := TX7) (n := 25) (v := .ref (ad 1)) hx hb hts iX7_leaves_X7 hown hK hP 0 (by decide) (LX7_obj ad cy _) rfl 0 (by decide) w1 rfl dX7_leaves_66 ?_
    refine lv_bipush (v := 20) hx hb dX7_leaves_69 (by decide) ?_
    refine lv_iconst (v := 2) hx hb dX7_leaves_71 (by decide) ?_
    refine lv_iload_n hx hb dX7_leaves_72 rfl (lv_at hl 1 rfl) ?_
    refine lv_imul hx hb dX7_leaves_73 ?_
    refine lv_iadd hx hb dX7_leaves_74 ?_
    refine lv_iconst (v := 0) hx hb dX7_leaves_75 (by decide) ?_
    obtain ⟨g1, hf⟩ := gd_some hf
    refine xt_iast hx hb hK hP hJ hS 1 (by decide) 0 (LX7_all ad cy) rfl g1 dX7_leaves_76 (fun H locs hP hS => ?_)
    obtain ⟨σ2, eσ2⟩ : ∃ z : St, z = su σ 1 (20 + (2 * x2)).toNatClampNeg 0 := ⟨_, rfl⟩
    rw [← eσ2] at hP
    have hf := nm_to hf eσ2
    refine lv_aload_n hx hb dX7_leaves_77 rfl (lv_at hl 0 rfl) ?_
    refine xt_get (ci := 7) (C := RX7) (T := TX7) (n := 25) (v := .ref (ad 1)) hx hb hts iX7_leaves_X7 hown hK hP 0 (by decide) (LX7_obj ad cy _) rfl 0 (by decide) w1 rfl dX7_leaves_78 ?_
    refine lv_bipush (v := 20) hx hb dX7_leaves_81 (by decide) ?_
    refine lv_iconst (v := 2) hx hb dX7_leaves_83 (by decide) ?_
    refine lv_iload_n hx hb dX7_leaves_84 rfl (lv_at hl 1 rfl) ?_
    refine lv_imul hx hb dX7_leaves_85 ?_
    refine lv_iadd hx hb dX7_leaves_86 ?_
    refine lv_iconst (v := 1) hx hb dX7_leaves_87 (by decide) ?_
    refine lv_iadd hx hb dX7_leaves_88 ?_
    refine lv_iconst (v := 0) hx hb dX7_leaves_89 (by decide) ?_
    obtain ⟨g3, hf⟩ := gd_some hf
    refine xt_iast hx hb hK hP hJ hS 1 (by decide) 0 (LX7_all ad cy) rfl g3 dX7_leaves_90 (fun H locs hP hS => ?_)
    obtain ⟨σ4, eσ4⟩ : ∃ z : St, z = su σ2 1 ((20 + (2 * x2)) + 1).toNatClampNeg 0 := ⟨_, rfl⟩
    rw [← eσ4] at hP
    have hf := nm_to hf eσ4
    refine lv_iload_n hx hb dX7_leaves_91 rfl (lv_at hl 1 rfl) ?_
    exact xt_iret hx hb hr hP hS (rs_1 hf) (rs_2 hf) dX7_leaves_92 hlocks
  have loop32 : ∀ (x2 : Int32) (n32 : Nat) (σ : St) (x3 : Int32), fX7_leaves_L32 x2 (fun σ => fX7_leaves_B65 σ x2) n32 σ x3 = some res → ∀ (H : Heap) (locs : List Loc), va_P (dC, dI) vwCl (wd 16 ad (layM ad cy) σ) H → va_S (WA 16 ad) s.heap H locs → ∀ (ls : Array Slot), lv_has ls 4 [(0, .ref (ad 0)), (2, .int x2), (3, .int x3)] → W p l e rmX7_leaves s m args below meth c H locs 0 0 (MQ below (Qiw (dC, dI) 16 ad (layM ad cy) res.1 res.2) args s 0 0 (WA 16 ad)) (F0 m 32 ls []) := by
    intro x2 n32
    induction n32 with
    | zero => intro σ x3 hf; simp [fX7_leaves_L32] at hf
    | succ n32 ih32 =>
      intro σ x3 hf H locs hP hS ls hl
      rw [fX7_leaves_L32] at hf
      refine lv_iload_n hx hb dX7_leaves_32 rfl (lv_at hl 2 rfl) ?_
      refine lv_iconst (v := 2) hx hb dX7_leaves_33 (by decide) ?_
      refine lv_iload_n hx hb dX7_leaves_34 rfl (lv_at hl 1 rfl) ?_
      refine lv_imul hx hb dX7_leaves_35 ?_
      refine lv_icmp_ge (tgt := 65) hx hb dX7_leaves_36 (by decide) (fun c5 => ?_) (fun c5 => ?_)
      · have hf := (if_pos c5).symm.trans hf
        exact kB65 σ x2 hf H locs hP hS ls (lv_sub hl [0, 1] rfl)
      · have hf := (if_neg c5).symm.trans hf
        refine lv_aload_n hx hb dX7_leaves_39 rfl (lv_at hl 0 rfl) ?_
        refine xt_get (ci := 7) (C := RX7) (T := TX7) (n := 25) (v := .ref (ad 1)) hx hb hts iX7_leaves_X7 hown hK hP 0 (by decide) (LX7_obj ad cy _) rfl 0 (by decide) w1 rfl dX7_leaves_40 ?_
        refine lv_bipush (v := 20) hx hb dX7_leaves_43 (by decide) ?_
        refine lv_iload_n hx hb dX7_leaves_45 rfl (lv_at hl 2 rfl) ?_
        refine lv_iadd hx hb dX7_leaves_46 ?_
        refine lv_aload_n hx hb dX7_leaves_47 rfl (lv_at hl 0 rfl) ?_
        refine xt_get (ci := 7) (C := RX7) (T := TX7) (n := 25) (v := .ref (ad 1)) hx hb hts iX7_leaves_X7 hown hK hP 0 (by decide) (LX7_obj ad cy _) rfl 0 (by decide) w1 rfl dX7_leaves_48 ?_
        refine lv_bipush (v := 20) hx hb dX7_leaves_51 (by decide) ?_
        refine lv_iload_n hx hb dX7_leaves_53 rfl (lv_at hl 2 rfl) ?_
        refine lv_iadd hx hb dX7_leaves_54 ?_
        refine lv_iconst (v := 2) hx hb dX7_leaves_55 (by decide) ?_
        refine lv_iadd hx hb dX7_leaves_56 ?_
        obtain ⟨g6, hf⟩ := gd_some hf
        refine xt_iald hx hb hK hP 1 (by decide) 0 (LX7_all ad cy _) rfl g6 dX7_leaves_57 ?_
        obtain ⟨g7, hf⟩ := gd_some hf
        refine xt_iast hx hb hK hP hJ hS 1 (by decide) 0 (LX7_all ad cy) rfl g7 dX7_leaves_58 (fun H locs hP hS => ?_)
        obtain ⟨σ8, eσ8⟩ : ∃ z : St, z = su σ 1 (20 + x3).toNatClampNeg (σ 1 ((20 + x3) + 2).toNatClampNeg) := ⟨_, rfl⟩
        rw [← eσ8] at hP
        have hf := nm_to hf eσ8
        obtain ⟨v9, ev9⟩ : ∃ y : Int32, y = x3 + 1 := ⟨_, rfl⟩
        have hf := nm_to hf ev9
        refine lv_iinc (v := v9) (lv' := [(3, .int v9), (0, .ref (ad 0)), (2, .int x2)]) hx hb dX7_leaves_59 hl (k := 2) rfl (by rw [ev9]; rfl) (by decide) rfl (fun ls hl => ?_)
        refine lv_goto (tgt := 32) hx hb dX7_leaves_62 (by decide) ?_
        exact ih32 σ8 v9 hf H locs hP hS ls (lv_sub hl [1, 2, 0] rfl)
  unfold fX7_leaves at hf
  obtain ⟨H, eH⟩ : ∃ H : Heap, H = s.heap := ⟨_, rfl⟩
  rw [← eH] at hP
  have hS : va_S (WA 16 ad) s.heap H [] := by rw [eH]; exact hS
  suffices K : W p l e rmX7_leaves s m args below meth c H [] 0 0 (MQ below (Qiw (dC, dI) 16 ad (layM ad cy) res.1 res.2) args s 0 0 (WA 16 ad)) (F0 m 0 ls []) by rw [eH] at K; exact K
  clear eH
  obtain ⟨locs, elocs⟩ : ∃ z : List Loc, z = [] := ⟨_, rfl⟩
  rw [← elocs] at hS ⊢
  refine lv_aload_n hx hb dX7_leaves_0 rfl (lv_at hl 0 rfl) ?_
  refine lv_iload_n hx hb dX7_leaves_1 rfl (lv_at hl 1 rfl) ?_
  obtain ⟨r10, qr10, hf⟩ := bd_some hf
  refine xt_callVi (As := [.int a1]) (rest := []) (C := RX7) (ci := 7) ⟨hx, hb, hml, hown, hts⟩ 0 (mX7_isBarge l dC dI ad cy hJ σ a1 r10 qr10) (cwV 1 hts gX7_leaves_X7_isBarge rfl rfl rfl dmX7_isBarge ⟨Nat.le_of_ble_eq_true rfl, Nat.le_of_ble_eq_true rfl⟩) hK hP hS (by decide) (LX7_obj ad cy _) rfl rfl rfl hl.1 (Nat.le_of_ble_eq_true rfl) ⟨Nat.zero_le _, Nat.zero_le _⟩ dX7_leaves_2 (fun H locs hP hS => ?_)
  refine lv_if_ne (tgt := 11) hx hb dX7_leaves_5 (by decide) (fun c11 => ?_) (fun c11 => ?_)
  · have hf := (if_neg c11).symm.trans hf
    refine lv_aload_n hx hb dX7_leaves_11 rfl (lv_at hl 0 rfl) ?_
    refine xt_get (ci := 7) (C := RX7) (T := TX7) (n := 25) (v := .ref (ad 1)) hx hb hts iX7_leaves_X7 hown hK hP 0 (by decide) (LX7_obj ad cy _) rfl 0 (by decide) w1 rfl dX7_leaves_12 ?_
    refine lv_iconst (v := 1) hx hb dX7_leaves_15 (by decide) ?_
    refine lv_dup2_11 hx hb dX7_leaves_16 rfl rfl ?_
    refine xt_iald hx hb hK hP 1 (by decide) 0 (LX7_all ad cy _) rfl (by decide) dX7_leaves_17 ?_
    refine lv_iconst (v := 1) hx hb dX7_leaves_18 (by decide) ?_
    refine lv_isub hx hb dX7_leaves_19 ?_
    refine xt_iast hx hb hK hP hJ hS 1 (by decide) 0 (LX7_all ad cy) rfl (by decide) dX7_leaves_20 (fun H locs hP hS => ?_)
    obtain ⟨σ12, eσ12⟩ : ∃ z : St, z = su σ 1 (1 : Int32).toNatClampNeg ((σ 1 (1 : Int32).toNatClampNeg) - 1) := ⟨_, rfl⟩
    rw [← eσ12] at hP
    have hf := nm_to hf eσ12
    refine lv_aload_n hx hb dX7_leaves_21 rfl (lv_at hl 0 rfl) ?_
    refine xt_get (ci := 7) (C := RX7) (T := TX7) (n := 25) (v := .ref (ad 1)) hx hb hts iX7_leaves_X7 hown hK hP 0 (by decide) (LX7_obj ad cy _) rfl 0 (by decide) w1 rfl dX7_leaves_22 ?_
    refine lv_iconst (v := 1) hx hb dX7_leaves_25 (by decide) ?_
    refine xt_iald hx hb hK hP 1 (by decide) 0 (LX7_all ad cy _) rfl (by decide) dX7_leaves_26 ?_
    refine lv_topi (fun v13 ev13 => ?_)
    have hf := nm_to hf ev13
    refine lv_istore_n (lv' := [(2, .int v13), (0, .ref (ad 0)), (1, .int a1)]) hx hb dX7_leaves_27 rfl hl (by decide) rfl (fun ls hl => ?_)
    refine lv_iconst (v := 2) hx hb dX7_leaves_28 (by decide) ?_
    refine lv_iload_n hx hb dX7_leaves_29 rfl (lv_at hl 2 rfl) ?_
    refine lv_imul hx hb dX7_leaves_30 ?_
    refine lv_topi (fun v14 ev14 => ?_)
    have hf := nm_to hf ev14
    refine lv_istore_n (lv' := [(3, .int v14), (2, .int v13), (0, .ref (ad 0)), (1, .int a1)]) hx hb dX7_leaves_31 rfl hl (by decide) rfl (fun ls hl => ?_)
    exact loop32 v13 1000 σ12 v14 hf H locs hP hS ls (lv_sub hl [2, 1, 0] rfl)
  · have hf := (if_pos c11).symm.trans hf
    refine lv_bipush (v := (-11)) hx hb dX7_leaves_8 (by decide) ?_
    exact xt_iret hx hb hr hP hS (rs_1 hf) (rs_2 hf) dX7_leaves_10 hlocks
def fX7_leave (σ : St) (a1 : Int32) : Option (Int32 × St) :=
  bd (fX7_begins σ) fun r1 => bd (fX7_leaves r1 a1) fun r2 => bd (fX7_ends r2.2 r2.1) fun r3 => some (r3.1, r3.2)
abbrev rmX7_leave : Room := { frames := 3, cells := 0, slots := 0, locals := 66 }
theorem dmX7_leave : yX7_leave.cls = RX7 ∧ yX7_leave.cls ≠ "java/lang/invoke/MethodHandle" ∧ yX7_leave.cls ≠ "java/lang/invoke/VarHandle" ∧ (parseMethodDescriptor yX7_leave.desc).map (fun d => d.parameters.length) = some 1 := by decide +kernel
set_option maxHeartbeats 8000000 in
set_option maxRecDepth 100000 in
theorem mX7_leave (l : Launch) (dC : Nat → ClassId) (dI : Nat → Nat → Nat) (ad : Nat → Nat) (cy : Nat → ClassId) (hJ : WJ 16 ad) (σ : St) (a1 : Int32) (res : (Int32 × St)) (hf : fX7_leave σ a1 = some res) : CMi l yX7_leave wsX7_leave rmX7_leave (dC, dI) (tysX cy) 16 ad (layM ad cy) [.ref (ad 0), .int a1] σ res.1 res.2 := by
  refine Met.ofW (cc := cX7_leave) (maxL := 2) (ret := (some .int)) (by decide) rfl ?_
  intro p e s m args below meth c s₁ B hml hv
  obtain ⟨hargs, hP, hK⟩ := hv
  have hx := B.exec
  have hb := B.bytes
  have hr := B.returns
  have hts := atoms_spec (ws := wsX7_leave) B.pre
  have hown : s.vm.findClass RX7 = some m.cls := findClass_of_methodNamed B.named
  have hlocks := B.notSynchronized
  have hS : va_S (WA 16 ad) s.heap s.heap [] := va_S.rf
  have hfr : entryFrame m args 2 = F0 m 0 ((lg_sl [.ref (ad 0), .int a1] ++ List.replicate (2 - (lg_sl [.ref (ad 0), .int a1]).length) Slot.unset).toArray) [] := by rw [hargs]; exact lg_entry_eq _ _ _
  rw [hfr]
  have hl := lv_entry ([.ref (ad 0), .int a1]) (n := 2) (Nat.le_of_ble_eq_true rfl)
  generalize (lg_sl [.ref (ad 0), .int a1] ++ List.replicate (2 - (lg_sl [.ref (ad 0), .int a1]).length) Slot.unset).toArray = ls at hl ⊢
  have hl : lv_has ls 2 [(0, .ref (ad 0)), (1, .int a1)] := hl
  clear hfr hargs B
  show W p l e rmX7_leave s m args below meth c s.heap [] 0 0 (MQ below (Qiw (dC, dI) 16 ad (layM ad cy) res.1 res.2) args s 0 0 (WA 16 ad)) (F0 m 0 ls [])
  unfold fX7_leave at hf
  obtain ⟨H, eH⟩ : ∃ H : Heap, H = s.heap := ⟨_, rfl⟩
  rw [← eH] at hP
  have hS : va_S (WA 16 ad) s.heap H [] := by rw [eH]; exact hS
  suffices K : W p l e rmX7_leave s m args below meth c H [] 0 0 (MQ below (Qiw (dC, dI) 16 ad (layM ad cy) res.1 res.2) args s 0 0 (WA 16 ad)) (F0 m 0 ls []) by rw [eH] at K; exact K
  clear eH
  obtain ⟨locs, elocs⟩ : ∃ z : List Loc, z = [] := ⟨_, rfl⟩
  rw [← elocs] at hS ⊢
  refine lv_aload_n hx hb dX7_leave_0 rfl (lv_at hl 0 rfl) ?_
  obtain ⟨r1, qr1, hf⟩ := bd_some hf
  refine xt_callVv (As := []) (rest := []) (C := RX7) (ci := 7) ⟨hx, hb, hml, hown, hts⟩ 0 (mX7_begins l dC dI ad cy hJ σ r1 qr1) (cwV 0 hts gX7_leave_X7_begins rfl rfl rfl dmX7_begins ⟨Nat.le_of_ble_eq_true rfl, Nat.le_of_ble_eq_true rfl⟩) hK hP hS (by decide) (LX7_obj ad cy _) rfl rfl rfl hl.1 (Nat.le_of_ble_eq_true rfl) ⟨Nat.zero_le _, Nat.zero_le _⟩ dX7_leave_1 (fun H locs hP hS => ?_)
  refine lv_aload_n hx hb dX7_leave_4 rfl (lv_at hl 0 rfl) ?_
  refine lv_aload_n hx hb dX7_leave_5 rfl (lv_at hl 0 rfl) ?_
  refine lv_iload_n hx hb dX7_leave_6 rfl (lv_at hl 1 rfl) ?_
  obtain ⟨r2, qr2, hf⟩ := bd_some hf
  refine xt_callVi (As := [.int a1]) (rest := [.ref (ad 0)]) (C := RX7) (ci := 7) ⟨hx, hb, hml, hown, hts⟩ 0 (mX7_leaves l dC dI ad cy hJ r1 a1 r2 qr2) (cwV 1 hts gX7_leave_X7_leaves rfl rfl rfl dmX7_leaves ⟨Nat.le_of_ble_eq_true rfl, Nat.le_of_ble_eq_true rfl⟩) hK hP hS (by decide) (LX7_obj ad cy _) rfl rfl rfl hl.1 (Nat.le_of_ble_eq_true rfl) ⟨Nat.zero_le _, Nat.zero_le _⟩ dX7_leave_7 (fun H locs hP hS => ?_)
  obtain ⟨r3, qr3, hf⟩ := bd_some hf
  refine xt_callVi (As := [.int r2.1]) (rest := []) (C := RX7) (ci := 7) ⟨hx, hb, hml, hown, hts⟩ 0 (mX7_ends l dC dI ad cy hJ r2.2 r2.1 r3 qr3) (cwV 1 hts gX7_leave_X7_ends rfl rfl rfl dmX7_ends ⟨Nat.le_of_ble_eq_true rfl, Nat.le_of_ble_eq_true rfl⟩) hK hP hS (by decide) (LX7_obj ad cy _) rfl rfl rfl hl.1 (Nat.le_of_ble_eq_true rfl) ⟨Nat.zero_le _, Nat.zero_le _⟩ dX7_leave_10 (fun H locs hP hS => ?_)
  exact xt_iret hx hb hr hP hS (rs_1 hf) (rs_2 hf) dX7_leave_13 hlocks
def fX7_loads (σ : St) (a1 : Int32) (a2 : Int32) : Option (Int32 × St) :=
  bd (fX7_isBarge σ a1) fun r1 => if r1 = 0 then (some ((-11), σ)) else (bd (fX7_in σ a2 1 99) fun r3 => if r3 = 0 then (some ((-12), σ)) else (bd (fX7_b σ a1 1) fun r5 => if r5 = a2 then (bd (fX7_refuses σ 3 a2) fun r9 => some (r9.1, r9.2)) else (gd (okI ((20 + (2 * a1)) + 1) 816) <| nm (su σ 1 ((20 + (2 * a1)) + 1).toNatClampNeg a2) fun σ8 => some (r5, σ8))))
abbrev rmX7_loads : Room := { frames := 2, cells := 0, slots := 0, locals := 43 }
theorem dmX7_loads : yX7_loads.cls = RX7 ∧ yX7_loads.cls ≠ "java/lang/invoke/MethodHandle" ∧ yX7_loads.cls ≠ "java/lang/invoke/VarHandle" ∧ (parseMethodDescriptor yX7_loads.desc).map (fun d => d.parameters.length) = some 2 := by decide +kernel
theorem iX7_loads_X7 : ∀ w ∈ wsX70, w ∈ wsX7_loads := fun w h => List.mem_cons_of_mem _ (List.mem_append_right _ (h))
set_option maxHeartbeats 8000000 in
set_option maxRecDepth 100000 in
theorem mX7_loads (l : Launch) (dC : Nat → ClassId) (dI : Nat → Nat → Nat) (ad : Nat → Nat) (cy : Nat → ClassId) (hJ : WJ 16 ad) (σ : St) (a1 : Int32) (a2 : Int32) (res : (Int32 × St)) (hf : fX7_loads σ a1 a2 = some res) : CMi l yX7_loads wsX7_loads rmX7_loads (dC, dI) (tysX cy) 16 ad (layM ad cy) [.ref (ad 0), .int a1, .int a2] σ res.1 res.2 := by
  refine Met.ofW (cc := cX7_loads) (maxL := 4) (ret := (some .int)) (by decide) rfl ?_
  intro p e s m args below meth c s₁ B hml hv
  obtain ⟨hargs, hP, hK⟩ := hv
  have hx := B.exec
  have hb := B.bytes
  have hr := B.returns
  have hts := atoms_spec (ws := wsX7_loads) B.pre
  have hown : s.vm.findClass RX7 = some m.cls := findClass_of_methodNamed B.named
  have hlocks := B.notSynchronized
  have w1 := hts (.fieldLink RX7 9 "PierRingsModel" "all" "[I") (List.mem_of_getElem? (i := 1) rfl)
  have hS : va_S (WA 16 ad) s.heap s.heap [] := va_S.rf
  have hfr : entryFrame m args 4 = F0 m 0 ((lg_sl [.ref (ad 0), .int a1, .int a2] ++ List.replicate (4 - (lg_sl [.ref (ad 0), .int a1, .int a2]).length) Slot.unset).toArray) [] := by rw [hargs]; exact lg_entry_eq _ _ _
  rw [hfr]
  have hl := lv_entry ([.ref (ad 0), .int a1, .int a2]) (n := 4) (Nat.le_of_ble_eq_true rfl)
  generalize (lg_sl [.ref (ad 0), .int a1, .int a2] ++ List.replicate (4 - (lg_sl [.ref (ad 0), .int a1, .int a2]).length) Slot.unset).toArray = ls at hl ⊢
  have hl : lv_has ls 4 [(0, .ref (ad 0)), (1, .int a1), (2, .int a2)] := hl
  clear hfr hargs B
  show W p l e rmX7_loads s m args below meth c s.heap [] 0 0 (MQ below (Qiw (dC, dI) 16 ad (layM ad cy) res.1 res.2) args s 0 0 (WA 16 ad)) (F0 m 0 ls [])
  unfold fX7_loads at hf
  obtain ⟨H, eH⟩ : ∃ H : Heap, H = s.heap := ⟨_, rfl⟩
  rw [← eH] at hP
  have hS : va_S (WA 16 ad) s.heap H [] := by rw [eH]; exact hS
  suffices K : W p l e rmX7_loads s m args below meth c H [] 0 0 (MQ below (Qiw (dC, dI) 16 ad (layM ad cy) res.1 res.2) args s 0 0 (WA 16 ad)) (F0 m 0 ls []) by rw [eH] at K; exact K
  clear eH
  obtain ⟨locs, elocs⟩ : ∃ z : List Loc, z = [] := ⟨_, rfl⟩
  rw [← elocs] at hS ⊢
  refine lv_aload_n hx hb dX7_loads_0 rfl (lv_at hl 0 rfl) ?_
  refine lv_iload_n hx hb dX7_loads_1 rfl (lv_at hl 1 rfl) ?_
  obtain ⟨r1, qr1, hf⟩ := bd_some hf
  refine xt_callVi (As := [.int a1]) (rest := []) (C := RX7) (ci := 7) ⟨hx, hb, hml, hown, hts⟩ 0 (mX7_isBarge l dC dI ad cy hJ σ a1 r1 qr1) (cwV 1 hts gX7_loads_X7_isBarge rfl rfl rfl dmX7_isBarge ⟨Nat.le_of_ble_eq_true rfl, Nat.le_of_ble_eq_true rfl⟩) hK hP hS (by decide) (LX7_obj ad cy _) rfl rfl rfl hl.1 (Nat.le_of_ble_eq_true rfl) ⟨Nat.zero_le _, Nat.zero_le _⟩ dX7_loads_2 (fun H locs hP hS => ?_)
  refine lv_if_ne (tgt := 11) hx hb dX7_loads_5 (by decide) (fun c2 => ?_) (fun c2 => ?_)
  · have hf := (if_neg c2).symm.trans hf
    refine lv_iload_n hx hb dX7_loads_11 rfl (lv_at hl 2 rfl) ?_
    refine lv_iconst (v := 1) hx hb dX7_loads_12 (by decide) ?_
    refine lv_bipush (v := 99) hx hb dX7_loads_13 (by decide) ?_
    obtain ⟨r3, qr3, hf⟩ := bd_some hf
    refine xt_callSi (As := [.int a2, .int 1, .int 99]) (rest := []) ⟨hx, hb, hml, hown, hts⟩ (mX7_in l dC dI ad cy hJ σ a2 1 99 r3 qr3) (va_cwS 3 hts gX7_loads_X7_in rfl rfl rfl dmX7_in ⟨Nat.le_of_ble_eq_true rfl, Nat.le_of_ble_eq_true rfl⟩) hK hP hS rfl rfl hl.1 (Nat.le_of_ble_eq_true rfl) ⟨Nat.zero_le _, Nat.zero_le _⟩ dX7_loads_15 (fun H locs hP hS => ?_)
    refine lv_if_ne (tgt := 24) hx hb dX7_loads_18 (by decide) (fun c4 => ?_) (fun c4 => ?_)
    · have hf := (if_neg c4).symm.trans hf
      refine lv_aload_n hx hb dX7_loads_24 rfl (lv_at hl 0 rfl) ?_
      refine lv_iload_n hx hb dX7_loads_25 rfl (lv_at hl 1 rfl) ?_
      refine lv_iconst (v := 1) hx hb dX7_loads_26 (by decide) ?_
      obtain ⟨r5, qr5, hf⟩ := bd_some hf
      refine xt_callVi (As := [.int a1, .int 1]) (rest := []) (C := RX7) (ci := 7) ⟨hx, hb, hml, hown, hts⟩ 0 (mX7_b l dC dI ad cy hJ σ a1 1 r5 qr5) (cwV 2 hts gX7_loads_X7_b rfl rfl rfl dmX7_b ⟨Nat.le_of_ble_eq_true rfl, Nat.le_of_ble_eq_true rfl⟩) hK hP hS (by decide) (LX7_obj ad cy _) rfl rfl rfl hl.1 (Nat.le_of_ble_eq_true rfl) ⟨Nat.zero_le _, Nat.zero_le _⟩ dX7_loads_27 (fun H locs hP hS => ?_)
      refine lv_istore_n (lv' := [(3, .int r5), (0, .ref (ad 0)), (1, .int a1), (2, .int a2)]) hx hb dX7_loads_30 rfl hl (by decide) rfl (fun ls hl => ?_)
      refine lv_iload_n hx hb dX7_loads_31 rfl (lv_at hl 0 rfl) ?_
      refine lv_iload_n hx hb dX7_loads_32 rfl (lv_at hl 3 rfl) ?_
      refine lv_icmp_ne (tgt := 43) hx hb dX7_loads_33 (by decide) (fun c6 => ?_) (fun c6 => ?_)
      · have hf := (if_neg c6).symm.trans hf
        refine lv_aload_n hx hb dX7_loads_43 rfl (lv_at hl 1 rfl) ?_
        refine xt_get (ci := 7) (C := RX7) (T := TX7) (n := 25) (v := .ref (ad 1)) hx hb hts iX7_loads_X7 hown hK hP 0 (by decide) (LX7_obj ad cy _) rfl 0 (by decide) w1 rfl dX7_loads_44 ?_
        refine lv_bipush (v := 20) hx hb dX7_loads_47 (by decide) ?_
        refine lv_iconst (v := 2) hx hb dX7_loads_49 (by decide) ?_
        refine lv_iload_n hx hb dX7_loads_50 rfl (lv_at hl 2 rfl) ?_
        refine lv_imul hx hb dX7_loads_51 ?_
        refine lv_iadd hx hb dX7_loads_52 ?_
        refine lv_iconst (v := 1) hx hb dX7_loads_53 (by decide) ?_
        refine lv_iadd hx hb dX7_loads_54 ?_
        refine lv_iload_n hx hb dX7_loads_55 rfl (lv_at hl 3 rfl) ?_
        obtain ⟨g7, hf⟩ := gd_some hf
        refine xt_iast hx hb hK hP hJ hS 1 (by decide) 0 (LX7_all ad cy) rfl g7 dX7_loads_56 (fun H locs hP hS => ?_)
        obtain ⟨σ8, eσ8⟩ : ∃ z : St, z = su σ 1 ((20 + (2 * a1)) + 1).toNatClampNeg a2 := ⟨_, rfl⟩
        rw [← eσ8] at hP
        have hf := nm_to hf eσ8
        refine lv_iload_n hx hb dX7_loads_57 rfl (lv_at hl 0 rfl) ?_
        exact xt_iret hx hb hr hP hS (rs_1 hf) (rs_2 hf) dX7_loads_58 hlocks
      · have hf := (if_pos c6).symm.trans hf
        refine lv_aload_n hx hb dX7_loads_36 rfl (lv_at hl 1 rfl) ?_
        refine lv_iconst (v := 3) hx hb dX7_loads_37 (by decide) ?_
        refine lv_iload_n hx hb dX7_loads_38 rfl (lv_at hl 3 rfl) ?_
        obtain ⟨r9, qr9, hf⟩ := bd_some hf
        refine xt_callVi (As := [.int 3, .int a2]) (rest := []) (C := RX7) (ci := 7) ⟨hx, hb, hml, hown, hts⟩ 0 (mX7_refuses l dC dI ad cy hJ σ 3 a2 r9 qr9) (cwV 2 hts gX7_loads_X7_refuses rfl rfl rfl dmX7_refuses ⟨Nat.le_of_ble_eq_true rfl, Nat.le_of_ble_eq_true rfl⟩) hK hP hS (by decide) (LX7_obj ad cy _) rfl rfl rfl hl.1 (Nat.le_of_ble_eq_true rfl) ⟨Nat.zero_le _, Nat.zero_le _⟩ dX7_loads_39 (fun H locs hP hS => ?_)
        exact xt_iret hx hb hr hP hS (rs_1 hf) (rs_2 hf) dX7_loads_42 hlocks
    · have hf := (if_pos c4).symm.trans hf
      refine lv_bipush (v := (-12)) hx hb dX7_loads_21 (by decide) ?_
      exact xt_iret hx hb hr hP hS (rs_1 hf) (rs_2 hf) dX7_loads_23 hlocks
  · have hf := (if_pos c2).symm.trans hf
    refine lv_bipush (v := (-11)) hx hb dX7_loads_8 (by decide) ?_
    exact xt_iret hx hb hr hP hS (rs_1 hf) (rs_2 hf) dX7_loads_10 hlocks
def fX7_load (σ : St) (a1 : Int32) (a2 : Int32) : Option (Int32 × St) :=
  bd (fX7_begins σ) fun r1 => bd (fX7_loads r1 a1 a2) fun r2 => bd (fX7_ends r2.2 r2.1) fun r3 => some (r3.1, r3.2)
abbrev rmX7_load : Room := { frames := 3, cells := 0, slots := 0, locals := 66 }
theorem dmX7_load : yX7_load.cls = RX7 ∧ yX7_load.cls ≠ "java/lang/invoke/MethodHandle" ∧ yX7_load.cls ≠ "java/lang/invoke/VarHandle" ∧ (parseMethodDescriptor yX7_load.desc).map (fun d => d.parameters.length) = some 2 := by decide +kernel
set_option maxHeartbeats 8000000 in
set_option maxRecDepth 100000 in
theorem mX7_load (l : Launch) (dC : Nat → ClassId) (dI : Nat → Nat → Nat) (ad : Nat → Nat) (cy : Nat → ClassId) (hJ : WJ 16 ad) (σ : St) (a1 : Int32) (a2 : Int32) (res : (Int32 × St)) (hf : fX7_load σ a1 a2 = some res) : CMi l yX7_load wsX7_load rmX7_load (dC, dI) (tysX cy) 16 ad (layM ad cy) [.ref (ad 0), .int a1, .int a2] σ res.1 res.2 := by
  refine Met.ofW (cc := cX7_load) (maxL := 3) (ret := (some .int)) (by decide) rfl ?_
  intro p e s m args below meth c s₁ B hml hv
  obtain ⟨hargs, hP, hK⟩ := hv
  have hx := B.exec
  have hb := B.bytes
  have hr := B.returns
  have hts := atoms_spec (ws := wsX7_load) B.pre
  have hown : s.vm.findClass RX7 = some m.cls := findClass_of_methodNamed B.named
  have hlocks := B.notSynchronized
  have hS : va_S (WA 16 ad) s.heap s.heap [] := va_S.rf
  have hfr : entryFrame m args 3 = F0 m 0 ((lg_sl [.ref (ad 0), .int a1, .int a2] ++ List.replicate (3 - (lg_sl [.ref (ad 0), .int a1, .int a2]).length) Slot.unset).toArray) [] := by rw [hargs]; exact lg_entry_eq _ _ _
  rw [hfr]
  have hl := lv_entry ([.ref (ad 0), .int a1, .int a2]) (n := 3) (Nat.le_of_ble_eq_true rfl)
  generalize (lg_sl [.ref (ad 0), .int a1, .int a2] ++ List.replicate (3 - (lg_sl [.ref (ad 0), .int a1, .int a2]).length) Slot.unset).toArray = ls at hl ⊢
  have hl : lv_has ls 3 [(0, .ref (ad 0)), (1, .int a1), (2, .int a2)] := hl
  clear hfr hargs B
  show W p l e rmX7_load s m args below meth c s.heap [] 0 0 (MQ below (Qiw (dC, dI) 16 ad (layM ad cy) res.1 res.2) args s 0 0 (WA 16 ad)) (F0 m 0 ls [])
  unfold fX7_load at hf
  obtain ⟨H, eH⟩ : ∃ H : Heap, H = s.heap := ⟨_, rfl⟩
  rw [← eH] at hP
  have hS : va_S (WA 16 ad) s.heap H [] := by rw [eH]; exact hS
  suffices K : W p l e rmX7_load s m args below meth c H [] 0 0 (MQ below (Qiw (dC, dI) 16 ad (layM ad cy) res.1 res.2) args s 0 0 (WA 16 ad)) (F0 m 0 ls []) by rw [eH] at K; exact K
  clear eH
  obtain ⟨locs, elocs⟩ : ∃ z : List Loc, z = [] := ⟨_, rfl⟩
  rw [← elocs] at hS ⊢
  refine lv_aload_n hx hb dX7_load_0 rfl (lv_at hl 0 rfl) ?_
  obtain ⟨r1, qr1, hf⟩ := bd_some hf
  refine xt_callVv (As := []) (rest := []) (C := RX7) (ci := 7) ⟨hx, hb, hml, hown, hts⟩ 0 (mX7_begins l dC dI ad cy hJ σ r1 qr1) (cwV 0 hts gX7_load_X7_begins rfl rfl rfl dmX7_begins ⟨Nat.le_of_ble_eq_true rfl, Nat.le_of_ble_eq_true rfl⟩) hK hP hS (by decide) (LX7_obj ad cy _) rfl rfl rfl hl.1 (Nat.le_of_ble_eq_true rfl) ⟨Nat.zero_le _, Nat.zero_le _⟩ dX7_load_1 (fun H locs hP hS => ?_)
  refine lv_aload_n hx hb dX7_load_4 rfl (lv_at hl 0 rfl) ?_
  refine lv_aload_n hx hb dX7_load_5 rfl (lv_at hl 0 rfl) ?_
  refine lv_iload_n hx hb dX7_load_6 rfl (lv_at hl 1 rfl) ?_
  refine lv_iload_n hx hb dX7_load_7 rfl (lv_at hl 2 rfl) ?_
  obtain ⟨r2, qr2, hf⟩ := bd_some hf
  refine xt_callVi (As := [.int a1, .int a2]) (rest := [.ref (ad 0)]) (C := RX7) (ci := 7) ⟨hx, hb, hml, hown, hts⟩ 0 (mX7_loads l dC dI ad cy hJ r1 a1 a2 r2 qr2) (cwV 2 hts gX7_load_X7_loads rfl rfl rfl dmX7_loads ⟨Nat.le_of_ble_eq_true rfl, Nat.le_of_ble_eq_true rfl⟩) hK hP hS (by decide) (LX7_obj ad cy _) rfl rfl rfl hl.1 (Nat.le_of_ble_eq_true rfl) ⟨Nat.zero_le _, Nat.zero_le _⟩ dX7_load_8 (fun H locs hP hS => ?_)
  obtain ⟨r3, qr3, hf⟩ := bd_some hf
  refine xt_callVi (As := [.int r2.1]) (rest := []) (C := RX7) (ci := 7) ⟨hx, hb, hml, hown, hts⟩ 0 (mX7_ends l dC dI ad cy hJ r2.2 r2.1 r3 qr3) (cwV 1 hts gX7_load_X7_ends rfl rfl rfl dmX7_ends ⟨Nat.le_of_ble_eq_true rfl, Nat.le_of_ble_eq_true rfl⟩) hK hP hS (by decide) (LX7_obj ad cy _) rfl rfl rfl hl.1 (Nat.le_of_ble_eq_true rfl) ⟨Nat.zero_le _, Nat.zero_le _⟩ dX7_load_11 (fun H locs hP hS => ?_)
  exact xt_iret hx hb hr hP hS (rs_1 hf) (rs_2 hf) dX7_load_14 hlocks
def fX7_goesAlong_B144 (σ : St) : Option St :=
  some σ
def fX7_goesAlong_L26 (x1 : Int32) (x2 : Int32) (K26_144 : St → Option St) : Nat → St → Int32 → Option St
  | 0, _, _ => none
  | n26 + 1, σ, x3 => if (360 : Int32) ≤ x3 then (K26_144 σ) else (gd (okI x1 24) <| if (σ 5 x1.toNatClampNeg) = (-1 : Int32) then (gd (okI (jrem (x2 + x3) 360) 360) <| nm (σ 2 (jrem (x2 + x3) 360).toNatClampNeg) fun v5 => if v5 = (-1 : Int32) then (nm (x3 + 1) fun v22 => (fX7_goesAlong_L26 x1 x2 K26_144 n26) σ v22) else (gd (okI (jrem v5 8) 8) <| bd (fX7_b σ x1 1) fun r8 => bd (fX7_room σ (jrem v5 8)) fun r9 => if r9 < ((σ 7 (jrem v5 8).toNatClampNeg) + r8) then (gd (okI x1 24) <| gd (okI x1 24) <| nm (su σ 6 x1.toNatClampNeg ((σ 6 x1.toNatClampNeg) + 1)) fun σ13 => nm (x3 + 1) fun v14 => (fX7_goesAlong_L26 x1 x2 K26_144 n26) σ13 v14) else (gd (okI x1 24) <| nm (su σ 5 x1.toNatClampNeg (jrem v5 8)) fun σ16 => gd (okI (jrem v5 8) 8) <| bd (fX7_b σ16 x1 1) fun r18 => gd (okI (jrem v5 8) 8) <| nm (su σ16 7 (jrem v5 8).toNatClampNeg ((σ16 7 (jrem v5 8).toNatClampNeg) + r18)) fun σ20 => nm (x3 + 1) fun v21 => (fX7_goesAlong_L26 x1 x2 K26_144 n26) σ20 v21))) else (K26_144 σ))
def fX7_goesAlong (σ : St) (a1 : Int32) : Option St :=
  bd (fX7_b σ a1 0) fun r23 => bd (fX7_placeOf σ r23) fun r24 => gd (okI a1 24) <| nm (su σ 5 a1.toNatClampNeg (-1)) fun σ26 => gd (okI a1 24) <| nm (su σ26 6 a1.toNatClampNeg 0) fun σ28 => fX7_goesAlong_L26 a1 r24 (fun σ => fX7_goesAlong_B144 σ) 1000 σ28 0
abbrev rmX7_goesAlong : Room := { frames := 3, cells := 0, slots := 0, locals := 64 }
theorem dmX7_goesAlong : yX7_goesAlong.cls = RX7 ∧ yX7_goesAlong.cls ≠ "java/lang/invoke/MethodHandle" ∧ yX7_goesAlong.cls ≠ "java/lang/invoke/VarHandle" ∧ (parseMethodDescriptor yX7_goesAlong.desc).map (fun d => d.parameters.length) = some 1 := by decide +kernel
theorem iX7_goesAlong_X7 : ∀ w ∈ wsX70, w ∈ wsX7_goesAlong := fun w h => List.mem_cons_of_mem _ (List.mem_append_right _ (h))
set_option maxHeartbeats 8000000 in
set_option maxRecDepth 100000 in
theorem mX7_goesAlong (l : Launch) (dC : Nat → ClassId) (dI : Nat → Nat → Nat) (ad : Nat → Nat) (cy : Nat → ClassId) (hJ : WJ 16 ad) (σ : St) (a1 : Int32) (res : St) (hf : fX7_goesAlong σ a1 = some res) : CMv l yX7_goesAlong wsX7_goesAlong rmX7_goesAlong (dC, dI) (tysX cy) 16 ad (layM ad cy) [.ref (ad 0), .int a1] σ res := by
  refine Met.ofW (cc := cX7_goesAlong) (maxL := 5) (ret := none) (by decide) rfl ?_
  intro p e s m args below meth c s₁ B hml hv
  obtain ⟨hargs, hP, hK⟩ := hv
  have hx := B.exec
  have hb := B.bytes
  have hr := B.returns
  have hts := atoms_spec (ws := wsX7_goesAlong) B.pre
  have hown : s.vm.findClass RX7 = some m.cls := findClass_of_methodNamed B.named
  have hlocks := B.notSynchronized
  have w1 := hts (.fieldLink RX7 22 "PierRingsModel" "lies" "[I") (List.mem_of_getElem? (i := 1) rfl)
  have w2 := hts (.fieldLink RX7 25 "PierRingsModel" "passed" "[I") (List.mem_of_getElem? (i := 2) rfl)
  have w3 := hts (.fieldLink RX7 13 "PierRingsModel" "owner" "[I") (List.mem_of_getElem? (i := 3) rfl)
  have w4 := hts (.fieldLink RX7 28 "PierRingsModel" "taken" "[I") (List.mem_of_getElem? (i := 4) rfl)
  have hS : va_S (WA 16 ad) s.heap s.heap [] := va_S.rf
  have hfr : entryFrame m args 5 = F0 m 0 ((lg_sl [.ref (ad 0), .int a1] ++ List.replicate (5 - (lg_sl [.ref (ad 0), .int a1]).length) Slot.unset).toArray) [] := by rw [hargs]; exact lg_entry_eq _ _ _
  rw [hfr]
  have hl := lv_entry ([.ref (ad 0), .int a1]) (n := 5) (Nat.le_of_ble_eq_true rfl)
  generalize (lg_sl [.ref (ad 0), .int a1] ++ List.replicate (5 - (lg_sl [.ref (ad 0), .int a1]).length) Slot.unset).toArray = ls at hl ⊢
  have hl : lv_has ls 5 [(0, .ref (ad 0)), (1, .int a1)] := hl
  clear hfr hargs B
  show W p l e rmX7_goesAlong s m args below meth c s.heap [] 0 0 (MQ below (Qvw (dC, dI) 16 ad (layM ad cy) res) args s 0 0 (WA 16 ad)) (F0 m 0 ls [])
  have kB144 : ∀ (σ : St), fX7_goesAlong_B144 σ = some res → ∀ (H : Heap) (locs : List Loc), va_P (dC, dI) vwCl (wd 16 ad (layM ad cy) σ) H → va_S (WA 16 ad) s.heap H locs → ∀ (ls : Array Slot), lv_has ls 5 [] → W p l e rmX7_goesAlong s m args below meth c H locs 0 0 (MQ below (Qvw (dC, dI) 16 ad (layM ad cy) res) args s 0 0 (WA 16 ad)) (F0 m 144 ls []) := by
    intro σ hf H locs hP hS ls hl
    unfold fX7_goesAlong_B144 at hf
    exact xt_vret hx hb hr hP hS (Option.some.inj hf) dX7_goesAlong_144 hlocks
  have loop26 : ∀ (x1 : Int32) (x2 : Int32) (n26 : Nat) (σ : St) (x3 : Int32), fX7_goesAlong_L26 x1 x2 (fun σ => fX7_goesAlong_B144 σ) n26 σ x3 = some res → ∀ (H : Heap) (locs : List Loc), va_P (dC, dI) vwCl (wd 16 ad (layM ad cy) σ) H → va_S (WA 16 ad) s.heap H locs → ∀ (ls : Array Slot), lv_has ls 5 [(0, .ref (ad 0)), (1, .int x1), (2, .int x2), (3, .int x3)] → W p l e rmX7_goesAlong s m args below meth c H locs 0 0 (MQ below (Qvw (dC, dI) 16 ad (layM ad cy) res) args s 0 0 (WA 16 ad)) (F0 m 26 ls []) := by
    intro x1 x2 n26
    induction n26 with
    | zero => intro σ x3 hf; simp [fX7_goesAlong_L26] at hf
    | succ n26 ih26 =>
      intro σ x3 hf H locs hP hS ls hl
      rw [fX7_goesAlong_L26] at hf
      refine lv_iload_n hx hb dX7_goesAlong_26 rfl (lv_at hl 3 rfl) ?_
      refine lv_sipush (v := 360) hx hb dX7_goesAlong_27 (by decide) ?_
      refine lv_icmp_ge (tgt := 144) hx hb dX7_goesAlong_30 (by decide) (fun c1 => ?_) (fun c1 => ?_)
      · have hf := (if_pos c1).symm.trans hf
        exact kB144 σ hf H locs hP hS ls (lv_sub hl [] rfl)
      · have hf := (if_neg c1).symm.trans hf
        refine lv_aload_n hx hb dX7_goesAlong_33 rfl (lv_at hl 0 rfl) ?_
        refine xt_get (ci := 7) (C := RX7) (T := TX7) (n := 25) (v := .ref (ad 5)) hx hb hts iX7_goesAlong_X7 hown hK hP 0 (by decide) (LX7_obj ad cy _) rfl 8 (by decide) w1 rfl dX7_goesAlong_34 ?_
        refine lv_iload_n hx hb dX7_goesAlong_37 rfl (lv_at hl 1 rfl) ?_
        obtain ⟨g2, hf⟩ := gd_some hf
        refine xt_iald hx hb hK hP 5 (by decide) 0 (LX7_lies ad cy _) rfl g2 dX7_goesAlong_38 ?_
        refine lv_iconst (v := (-1)) hx hb dX7_goesAlong_39 (by decide) ?_
        refine lv_icmp_ne (tgt := 144) hx hb dX7_goesAlong_40 (by decide) (fun c3 => ?_) (fun c3 => ?_)
        · have hf := (if_neg c3).symm.trans hf
          exact kB144 σ hf H locs hP hS ls (lv_sub hl [] rfl)
        · have hf := (if_pos c3).symm.trans hf
          refine lv_aload_n hx hb dX7_goesAlong_43 rfl (lv_at hl 0 rfl) ?_
          refine xt_get (ci := 7) (C := RX7) (T := TX7) (n := 25) (v := .ref (ad 2)) hx hb hts iX7_goesAlong_X7 hown hK hP 0 (by decide) (LX7_obj ad cy _) rfl 5 (by decide) w3 rfl dX7_goesAlong_44 ?_
          refine lv_iload_n hx hb dX7_goesAlong_47 rfl (lv_at hl 2 rfl) ?_
          refine lv_iload_n hx hb dX7_goesAlong_48 rfl (lv_at hl 3 rfl) ?_
          refine lv_iadd hx hb dX7_goesAlong_49 ?_
          refine lv_sipush (v := 360) hx hb dX7_goesAlong_50 (by decide) ?_
          refine xt_irem hx hb dX7_goesAlong_53 (by decide) ?_
          obtain ⟨g4, hf⟩ := gd_some hf
          refine xt_iald hx hb hK hP 2 (by decide) 0 (LX7_owner ad cy _) rfl g4 dX7_goesAlong_54 ?_
          refine lv_topi (fun v5 ev5 => ?_)
          have hf := nm_to hf ev5
          refine lv_istore (lv' := [(4, .int v5), (0, .ref (ad 0)), (1, .int x1), (2, .int x2), (3, .int x3)]) hx hb dX7_goesAlong_55 hl (by decide) rfl (fun ls hl => ?_)
          refine lv_iload hx hb dX7_goesAlong_57 (lv_at hl 0 rfl) ?_
          refine lv_iconst (v := (-1)) hx hb dX7_goesAlong_59 (by decide) ?_
          refine lv_icmp_ne (tgt := 66) hx hb dX7_goesAlong_60 (by decide) (fun c6 => ?_) (fun c6 => ?_)
          · have hf := (if_neg c6).symm.trans hf
            refine lv_aload_n hx hb dX7_goesAlong_66 rfl (lv_at hl 1 rfl) ?_
            refine xt_get (ci := 7) (C := RX7) (T := TX7) (n := 25) (v := .ref (ad 7)) hx hb hts iX7_goesAlong_X7 hown hK hP 0 (by decide) (LX7_obj ad cy _) rfl 10 (by decide) w4 rfl dX7_goesAlong_67 ?_
            refine lv_iload hx hb dX7_goesAlong_70 (lv_at hl 0 rfl) ?_
            refine lv_bipush (v := 8) hx hb dX7_goesAlong_72 (by decide) ?_
            refine xt_irem hx hb dX7_goesAlong_74 (by decide) ?_
            obtain ⟨g7, hf⟩ := gd_some hf
            refine xt_iald hx hb hK hP 7 (by decide) 0 (LX7_taken ad cy _) rfl g7 dX7_goesAlong_75 ?_
            refine lv_aload_n hx hb dX7_goesAlong_76 rfl (lv_at hl 1 rfl) ?_
            refine lv_iload_n hx hb dX7_goesAlong_77 rfl (lv_at hl 2 rfl) ?_
            refine lv_iconst (v := 1) hx hb dX7_goesAlong_78 (by decide) ?_
            obtain ⟨r8, qr8, hf⟩ := bd_some hf
            refine xt_callVi (As := [.int x1, .int 1]) (rest := [.int (σ 7 (jrem v5 8).toNatClampNeg)]) (C := RX7) (ci := 7) ⟨hx, hb, hml, hown, hts⟩ 0 (mX7_b l dC dI ad cy hJ σ x1 1 r8 qr8) (cwV 2 hts gX7_goesAlong_X7_b rfl rfl rfl dmX7_b ⟨Nat.le_of_ble_eq_true rfl, Nat.le_of_ble_eq_true rfl⟩) hK hP hS (by decide) (LX7_obj ad cy _) rfl rfl rfl hl.1 (Nat.le_of_ble_eq_true rfl) ⟨Nat.zero_le _, Nat.zero_le _⟩ dX7_goesAlong_79 (fun H locs hP hS => ?_)
            refine lv_iadd hx hb dX7_goesAlong_82 ?_
            refine lv_aload_n hx hb dX7_goesAlong_83 rfl (lv_at hl 1 rfl) ?_
            refine lv_iload hx hb dX7_goesAlong_84 (lv_at hl 0 rfl) ?_
            refine lv_bipush (v := 8) hx hb dX7_goesAlong_86 (by decide) ?_
            refine xt_irem hx hb dX7_goesAlong_88 (by decide) ?_
            obtain ⟨r9, qr9, hf⟩ := bd_some hf
            refine xt_callVi (As := [.int (jrem v5 8)]) (rest := [.int ((σ 7 (jrem v5 8).toNatClampNeg) + r8)]) (C := RX7) (ci := 7) ⟨hx, hb, hml, hown, hts⟩ 0 (mX7_room l dC dI ad cy hJ σ (jrem v5 8) r9 qr9) (cwV 1 hts gX7_goesAlong_X7_room rfl rfl rfl dmX7_room ⟨Nat.le_of_ble_eq_true rfl, Nat.le_of_ble_eq_true rfl⟩) hK hP hS (by decide) (LX7_obj ad cy _) rfl rfl rfl hl.1 (Nat.le_of_ble_eq_true rfl) ⟨Nat.zero_le _, Nat.zero_le _⟩ dX7_goesAlong_89 (fun H locs hP hS => ?_)
            refine lv_icmp_gt (tgt := 128) hx hb dX7_goesAlong_92 (by decide) (fun c10 => ?_) (fun c10 => ?_)
            · have hf := (if_pos c10).symm.trans hf
              refine lv_aload_n hx hb dX7_goesAlong_128 rfl (lv_at hl 1 rfl) ?_
              refine xt_get (ci := 7) (C := RX7) (T := TX7) (n := 25) (v := .ref (ad 6)) hx hb hts iX7_goesAlong_X7 hown hK hP 0 (by decide) (LX7_obj ad cy _) rfl 9 (by decide) w2 rfl dX7_goesAlong_129 ?_
              refine lv_iload_n hx hb dX7_goesAlong_132 rfl (lv_at hl 2 rfl) ?_
              refine lv_dup2_11 hx hb dX7_goesAlong_133 rfl rfl ?_
              obtain ⟨g11, hf⟩ := gd_some hf
              refine xt_iald hx hb hK hP 6 (by decide) 0 (LX7_passed ad cy _) rfl g11 dX7_goesAlong_134 ?_
              refine lv_iconst (v := 1) hx hb dX7_goesAlong_135 (by decide) ?_
              refine lv_iadd hx hb dX7_goesAlong_136 ?_
              obtain ⟨g12, hf⟩ := gd_some hf
              refine xt_iast hx hb hK hP hJ hS 6 (by decide) 0 (LX7_passed ad cy) rfl g12 dX7_goesAlong_137 (fun H locs hP hS => ?_)
              obtain ⟨σ13, eσ13⟩ : ∃ z : St, z = su σ 6 x1.toNatClampNeg ((σ 6 x1.toNatClampNeg) + 1) := ⟨_, rfl⟩
              rw [← eσ13] at hP
              have hf := nm_to hf eσ13
              obtain ⟨v14, ev14⟩ : ∃ y : Int32, y = x3 + 1 := ⟨_, rfl⟩
              have hf := nm_to hf ev14
              refine lv_iinc (v := v14) (lv' := [(3, .int v14), (4, .int v5), (0, .ref (ad 0)), (1, .int x1), (2, .int x2)]) hx hb dX7_goesAlong_138 hl (k := 4) rfl (by rw [ev14]; rfl) (by decide) rfl (fun ls hl => ?_)
              refine lv_goto (tgt := 26) hx hb dX7_goesAlong_141 (by decide) ?_
              exact ih26 σ13 v14 hf H locs hP hS ls (lv_sub hl [2, 3, 4, 0] rfl)
            · have hf := (if_neg c10).symm.trans hf
              refine lv_aload_n hx hb dX7_goesAlong_95 rfl (lv_at hl 1 rfl) ?_
              refine xt_get (ci := 7) (C := RX7) (T := TX7) (n := 25) (v := .ref (ad 5)) hx hb hts iX7_goesAlong_X7 hown hK hP 0 (by decide) (LX7_obj ad cy _) rfl 8 (by decide) w1 rfl dX7_goesAlong_96 ?_
              refine lv_iload_n hx hb dX7_goesAlong_99 rfl (lv_at hl 2 rfl) ?_
              refine lv_iload hx hb dX7_goesAlong_100 (lv_at hl 0 rfl) ?_
              refine lv_bipush (v := 8) hx hb dX7_goesAlong_102 (by decide) ?_
              refine xt_irem hx hb dX7_goesAlong_104 (by decide) ?_
              obtain ⟨g15, hf⟩ := gd_some hf
              refine xt_iast hx hb hK hP hJ hS 5 (by decide) 0 (LX7_lies ad cy) rfl g15 dX7_goesAlong_105 (fun H locs hP hS => ?_)
              obtain ⟨σ16, eσ16⟩ : ∃ z : St, z = su σ 5 x1.toNatClampNeg (jrem v5 8) := ⟨_, rfl⟩
              rw [← eσ16] at hP
              have hf := nm_to hf eσ16
              refine lv_aload_n hx hb dX7_goesAlong_106 rfl (lv_at hl 1 rfl) ?_
              refine xt_get (ci := 7) (C := RX7) (T := TX7) (n := 25) (v := .ref (ad 7)) hx hb hts iX7_goesAlong_X7 hown hK hP 0 (by decide) (LX7_obj ad cy _) rfl 10 (by decide) w4 rfl dX7_goesAlong_107 ?_
              refine lv_iload hx hb dX7_goesAlong_110 (lv_at hl 0 rfl) ?_
              refine lv_bipush (v := 8) hx hb dX7_goesAlong_112 (by decide) ?_
              refine xt_irem hx hb dX7_goesAlong_114 (by decide) ?_
              refine lv_dup2_11 hx hb dX7_goesAlong_115 rfl rfl ?_
              obtain ⟨g17, hf⟩ := gd_some hf
              refine xt_iald hx hb hK hP 7 (by decide) 0 (LX7_taken ad cy _) rfl g17 dX7_goesAlong_116 ?_
              refine lv_aload_n hx hb dX7_goesAlong_117 rfl (lv_at hl 1 rfl) ?_
              refine lv_iload_n hx hb dX7_goesAlong_118 rfl (lv_at hl 2 rfl) ?_
              refine lv_iconst (v := 1) hx hb dX7_goesAlong_119 (by decide) ?_
              obtain ⟨r18, qr18, hf⟩ := bd_some hf
              refine xt_callVi (As := [.int x1, .int 1]) (rest := [.int (σ16 7 (jrem v5 8).toNatClampNeg), .int (jrem v5 8), .ref (ad 7)]) (C := RX7) (ci := 7) ⟨hx, hb, hml, hown, hts⟩ 0 (mX7_b l dC dI ad cy hJ σ16 x1 1 r18 qr18) (cwV 2 hts gX7_goesAlong_X7_b rfl rfl rfl dmX7_b ⟨Nat.le_of_ble_eq_true rfl, Nat.le_of_ble_eq_true rfl⟩) hK hP hS (by decide) (LX7_obj ad cy _) rfl rfl rfl hl.1 (Nat.le_of_ble_eq_true rfl) ⟨Nat.zero_le _, Nat.zero_le _⟩ dX7_goesAlong_120 (fun H locs hP hS => ?_)
              refine lv_iadd hx hb dX7_goesAlong_123 ?_
              obtain ⟨g19, hf⟩ := gd_some hf
              refine xt_iast hx hb hK hP hJ hS 7 (by decide) 0 (LX7_taken ad cy) rfl g19 dX7_goesAlong_124 (fun H locs hP hS => ?_)
              obtain ⟨σ20, eσ20⟩ : ∃ z : St, z = su σ16 7 (jrem v5 8).toNatClampNeg ((σ16 7 (jrem v5 8).toNatClampNeg) + r18) := ⟨_, rfl⟩
              rw [← eσ20] at hP
              have hf := nm_to hf eσ20
              refine lv_goto (tgt := 138) hx hb dX7_goesAlong_125 (by decide) ?_
              obtain ⟨v21, ev21⟩ : ∃ y : Int32, y = x3 + 1 := ⟨_, rfl⟩
              have hf := nm_to hf ev21
              refine lv_iinc (v := v21) (lv' := [(3, .int v21), (4, .int v5), (0, .ref (ad 0)), (1, .int x1), (2, .int x2)]) hx hb dX7_goesAlong_138 hl (k := 4) rfl (by rw [ev21]; rfl) (by decide) rfl (fun ls hl => ?_)
              refine lv_goto (tgt := 26) hx hb dX7_goesAlong_141 (by decide) ?_
              exact ih26 σ20 v21 hf H locs hP hS ls (lv_sub hl [2, 3, 4, 0] rfl)
          · have hf := (if_pos c6).symm.trans hf
            refine lv_goto (tgt := 138) hx hb dX7_goesAlong_63 (by decide) ?_
            obtain ⟨v22, ev22⟩ : ∃ y : Int32, y = x3 + 1 := ⟨_, rfl⟩
            have hf := nm_to hf ev22
            refine lv_iinc (v := v22) (lv' := [(3, .int v22), (4, .int v5), (0, .ref (ad 0)), (1, .int x1), (2, .int x2)]) hx hb dX7_goesAlong_138 hl (k := 4) rfl (by rw [ev22]; rfl) (by decide) rfl (fun ls hl => ?_)
            refine lv_goto (tgt := 26) hx hb dX7_goesAlong_141 (by decide) ?_
            exact ih26 σ v22 hf H locs hP hS ls (lv_sub hl [2, 3, 4, 0] rfl)
  unfold fX7_goesAlong at hf
  obtain ⟨H, eH⟩ : ∃ H : Heap, H = s.heap := ⟨_, rfl⟩
  rw [← eH] at hP
  have hS : va_S (WA 16 ad) s.heap H [] := by rw [eH]; exact hS
  suffices K : W p l e rmX7_goesAlong s m args below meth c H [] 0 0 (MQ below (Qvw (dC, dI) 16 ad (layM ad cy) res) args s 0 0 (WA 16 ad)) (F0 m 0 ls []) by rw [eH] at K; exact K
  clear eH
  obtain ⟨locs, elocs⟩ : ∃ z : List Loc, z = [] := ⟨_, rfl⟩
  rw [← elocs] at hS ⊢
  refine lv_aload_n hx hb dX7_goesAlong_0 rfl (lv_at hl 0 rfl) ?_
  refine lv_iload_n hx hb dX7_goesAlong_1 rfl (lv_at hl 1 rfl) ?_
  refine lv_iconst (v := 0) hx hb dX7_goesAlong_2 (by decide) ?_
  obtain ⟨r23, qr23, hf⟩ := bd_some hf
  refine xt_callVi (As := [.int a1, .int 0]) (rest := []) (C := RX7) (ci := 7) ⟨hx, hb, hml, hown, hts⟩ 0 (mX7_b l dC dI ad cy hJ σ a1 0 r23 qr23) (cwV 2 hts gX7_goesAlong_X7_b rfl rfl rfl dmX7_b ⟨Nat.le_of_ble_eq_true rfl, Nat.le_of_ble_eq_true rfl⟩) hK hP hS (by decide) (LX7_obj ad cy _) rfl rfl rfl hl.1 (Nat.le_of_ble_eq_true rfl) ⟨Nat.zero_le _, Nat.zero_le _⟩ dX7_goesAlong_3 (fun H locs hP hS => ?_)
  obtain ⟨r24, qr24, hf⟩ := bd_some hf
  refine xt_callSi (As := [.int r23]) (rest := []) ⟨hx, hb, hml, hown, hts⟩ (mX7_placeOf l dC dI ad cy hJ σ r23 r24 qr24) (va_cwS 1 hts gX7_goesAlong_X7_placeOf rfl rfl rfl dmX7_placeOf ⟨Nat.le_of_ble_eq_true rfl, Nat.le_of_ble_eq_true rfl⟩) hK hP hS rfl rfl hl.1 (Nat.le_of_ble_eq_true rfl) ⟨Nat.zero_le _, Nat.zero_le _⟩ dX7_goesAlong_6 (fun H locs hP hS => ?_)
  refine lv_istore_n (lv' := [(2, .int r24), (0, .ref (ad 0)), (1, .int a1)]) hx hb dX7_goesAlong_9 rfl hl (by decide) rfl (fun ls hl => ?_)
  refine lv_aload_n hx hb dX7_goesAlong_10 rfl (lv_at hl 1 rfl) ?_
  refine xt_get (ci := 7) (C := RX7) (T := TX7) (n := 25) (v := .ref (ad 5)) hx hb hts iX7_goesAlong_X7 hown hK hP 0 (by decide) (LX7_obj ad cy _) rfl 8 (by decide) w1 rfl dX7_goesAlong_11 ?_
  refine lv_iload_n hx hb dX7_goesAlong_14 rfl (lv_at hl 2 rfl) ?_
  refine lv_iconst (v := (-1)) hx hb dX7_goesAlong_15 (by decide) ?_
  obtain ⟨g25, hf⟩ := gd_some hf
  refine xt_iast hx hb hK hP hJ hS 5 (by decide) 0 (LX7_lies ad cy) rfl g25 dX7_goesAlong_16 (fun H locs hP hS => ?_)
  obtain ⟨σ26, eσ26⟩ : ∃ z : St, z = su σ 5 a1.toNatClampNeg (-1) := ⟨_, rfl⟩
  rw [← eσ26] at hP
  have hf := nm_to hf eσ26
  refine lv_aload_n hx hb dX7_goesAlong_17 rfl (lv_at hl 1 rfl) ?_
  refine xt_get (ci := 7) (C := RX7) (T := TX7) (n := 25) (v := .ref (ad 6)) hx hb hts iX7_goesAlong_X7 hown hK hP 0 (by decide) (LX7_obj ad cy _) rfl 9 (by decide) w2 rfl dX7_goesAlong_18 ?_
  refine lv_iload_n hx hb dX7_goesAlong_21 rfl (lv_at hl 2 rfl) ?_
  refine lv_iconst (v := 0) hx hb dX7_goesAlong_22 (by decide) ?_
  obtain ⟨g27, hf⟩ := gd_some hf
  refine xt_iast hx hb hK hP hJ hS 6 (by decide) 0 (LX7_passed ad cy) rfl g27 dX7_goesAlong_23 (fun H locs hP hS => ?_)
  obtain ⟨σ28, eσ28⟩ : ∃ z : St, z = su σ26 6 a1.toNatClampNeg 0 := ⟨_, rfl⟩
  rw [← eσ28] at hP
  have hf := nm_to hf eσ28
  refine lv_iconst (v := 0) hx hb dX7_goesAlong_24 (by decide) ?_
  refine lv_istore_n (lv' := [(3, .int 0), (2, .int r24), (0, .ref (ad 0)), (1, .int a1)]) hx hb dX7_goesAlong_25 rfl hl (by decide) rfl (fun ls hl => ?_)
  exact loop26 a1 r24 1000 σ28 0 hf H locs hP hS ls (lv_sub hl [2, 3, 1, 0] rfl)
def fX7_lays_B48 (σ : St) : Option St :=
  some σ
def fX7_lays_L27 (K27_48 : St → Option St) : Nat → St → Int32 → Option St
  | 0, _, _ => none
  | n27 + 1, σ, x1 => if (σ 1 (1 : Int32).toNatClampNeg) ≤ x1 then (K27_48 σ) else (bd (fX7_goesAlong σ x1) fun r2 => nm (x1 + 1) fun v3 => (fX7_lays_L27 K27_48 n27) r2 v3)
def fX7_lays_B25 (σ : St) : Option St :=
  fX7_lays_L27 (fun σ => fX7_lays_B48 σ) 1000 σ 0
def fX7_lays_L6 (K6_25 : St → Option St) : Nat → St → Int32 → Option St
  | 0, _, _ => none
  | n6 + 1, σ, x1 => if (8 : Int32) ≤ x1 then (K6_25 σ) else (gd (okI x1 8) <| nm (su σ 7 x1.toNatClampNeg 0) fun σ6 => nm (x1 + 1) fun v7 => (fX7_lays_L6 K6_25 n6) σ6 v7)
def fX7_lays (σ : St) : Option St :=
  bd (fX7_laysRing σ) fun r8 => fX7_lays_L6 (fun σ => fX7_lays_B25 σ) 1000 r8 0
abbrev rmX7_lays : Room := { frames := 4, cells := 0, slots := 0, locals := 88 }
theorem dmX7_lays : yX7_lays.cls = RX7 ∧ yX7_lays.cls ≠ "java/lang/invoke/MethodHandle" ∧ yX7_lays.cls ≠ "java/lang/invoke/VarHandle" ∧ (parseMethodDescriptor yX7_lays.desc).map (fun d => d.parameters.length) = some 0 := by decide +kernel
theorem iX7_lays_X7 : ∀ w ∈ wsX70, w ∈ wsX7_lays := fun w h => List.mem_cons_of_mem _ (List.mem_append_right _ (h))
set_option maxHeartbeats 8000000 in
set_option maxRecDepth 100000 in
theorem mX7_lays (l : Launch) (dC : Nat → ClassId) (dI : Nat → Nat → Nat) (ad : Nat → Nat) (cy : Nat → ClassId) (hJ : WJ 16 ad) (σ : St) (res : St) (hf : fX7_lays σ = some res) : CMv l yX7_lays wsX7_lays rmX7_lays (dC, dI) (tysX cy) 16 ad (layM ad cy) [.ref (ad 0)] σ res := by
  refine Met.ofW (cc := cX7_lays) (maxL := 2) (ret := none) (by decide) rfl ?_
  intro p e s m args below meth c s₁ B hml hv
  obtain ⟨hargs, hP, hK⟩ := hv
  have hx := B.exec
  have hb := B.bytes
  have hr := B.returns
  have hts := atoms_spec (ws := wsX7_lays) B.pre
  have hown : s.vm.findClass RX7 = some m.cls := findClass_of_methodNamed B.named
  have hlocks := B.notSynchronized
  have w1 := hts (.fieldLink RX7 28 "PierRingsModel" "taken" "[I") (List.mem_of_getElem? (i := 1) rfl)
  have w2 := hts (.fieldLink RX7 9 "PierRingsModel" "all" "[I") (List.mem_of_getElem? (i := 2) rfl)
  have hS : va_S (WA 16 ad) s.heap s.heap [] := va_S.rf
  have hfr : entryFrame m args 2 = F0 m 0 ((lg_sl [.ref (ad 0)] ++ List.replicate (2 - (lg_sl [.ref (ad 0)]).length) Slot.unset).toArray) [] := by rw [hargs]; exact lg_entry_eq _ _ _
  rw [hfr]
  have hl := lv_entry ([.ref (ad 0)]) (n := 2) (Nat.le_of_ble_eq_true rfl)
  generalize (lg_sl [.ref (ad 0)] ++ List.replicate (2 - (lg_sl [.ref (ad 0)]).length) Slot.unset).toArray = ls at hl ⊢
  have hl : lv_has ls 2 [(0, .ref (ad 0))] := hl
  clear hfr hargs B
  show W p l e rmX7_lays s m args below meth c s.heap [] 0 0 (MQ below (Qvw (dC, dI) 16 ad (layM ad cy) res) args s 0 0 (WA 16 ad)) (F0 m 0 ls [])
  have kB48 : ∀ (σ : St), fX7_lays_B48 σ = some res → ∀ (H : Heap) (locs : List Loc), va_P (dC, dI) vwCl (wd 16 ad (layM ad cy) σ) H → va_S (WA 16 ad) s.heap H locs → ∀ (ls : Array Slot), lv_has ls 2 [] → W p l e rmX7_lays s m args below meth c H locs 0 0 (MQ below (Qvw (dC, dI) 16 ad (layM ad cy) res) args s 0 0 (WA 16 ad)) (F0 m 48 ls []) := by
    intro σ hf H locs hP hS ls hl
    unfold fX7_lays_B48 at hf
    exact xt_vret hx hb hr hP hS (Option.some.inj hf) dX7_lays_48 hlocks
  have loop27 : ∀ (n27 : Nat) (σ : St) (x1 : Int32), fX7_lays_L27 (fun σ => fX7_lays_B48 σ) n27 σ x1 = some res → ∀ (H : Heap) (locs : List Loc), va_P (dC, dI) vwCl (wd 16 ad (layM ad cy) σ) H → va_S (WA 16 ad) s.heap H locs → ∀ (ls : Array Slot), lv_has ls 2 [(0, .ref (ad 0)), (1, .int x1)] → W p l e rmX7_lays s m args below meth c H locs 0 0 (MQ below (Qvw (dC, dI) 16 ad (layM ad cy) res) args s 0 0 (WA 16 ad)) (F0 m 27 ls []) := by
    intro n27
    induction n27 with
    | zero => intro σ x1 hf; simp [fX7_lays_L27] at hf
    | succ n27 ih27 =>
      intro σ x1 hf H locs hP hS ls hl
      rw [fX7_lays_L27] at hf
      refine lv_iload_n hx hb dX7_lays_27 rfl (lv_at hl 1 rfl) ?_
      refine lv_aload_n hx hb dX7_lays_28 rfl (lv_at hl 0 rfl) ?_
      refine xt_get (ci := 7) (C := RX7) (T := TX7) (n := 25) (v := .ref (ad 1)) hx hb hts iX7_lays_X7 hown hK hP 0 (by decide) (LX7_obj ad cy _) rfl 0 (by decide) w2 rfl dX7_lays_29 ?_
      refine lv_iconst (v := 1) hx hb dX7_lays_32 (by decide) ?_
      refine xt_iald hx hb hK hP 1 (by decide) 0 (LX7_all ad cy _) rfl (by decide) dX7_lays_33 ?_
      refine lv_icmp_ge (tgt := 48) hx hb dX7_lays_34 (by decide) (fun c1 => ?_) (fun c1 => ?_)
      · have hf := (if_pos c1).symm.trans hf
        exact kB48 σ hf H locs hP hS ls (lv_sub hl [] rfl)
      · have hf := (if_neg c1).symm.trans hf
        refine lv_aload_n hx hb dX7_lays_37 rfl (lv_at hl 0 rfl) ?_
        refine lv_iload_n hx hb dX7_lays_38 rfl (lv_at hl 1 rfl) ?_
        obtain ⟨r2, qr2, hf⟩ := bd_some hf
        refine xt_callVv (As := [.int x1]) (rest := []) (C := RX7) (ci := 7) ⟨hx, hb, hml, hown, hts⟩ 0 (mX7_goesAlong l dC dI ad cy hJ σ x1 r2 qr2) (cwV 1 hts gX7_lays_X7_goesAlong rfl rfl rfl dmX7_goesAlong ⟨Nat.le_of_ble_eq_true rfl, Nat.le_of_ble_eq_true rfl⟩) hK hP hS (by decide) (LX7_obj ad cy _) rfl rfl rfl hl.1 (Nat.le_of_ble_eq_true rfl) ⟨Nat.zero_le _, Nat.zero_le _⟩ dX7_lays_39 (fun H locs hP hS => ?_)
        obtain ⟨v3, ev3⟩ : ∃ y : Int32, y = x1 + 1 := ⟨_, rfl⟩
        have hf := nm_to hf ev3
        refine lv_iinc (v := v3) (lv' := [(1, .int v3), (0, .ref (ad 0))]) hx hb dX7_lays_42 hl (k := 1) rfl (by rw [ev3]; rfl) (by decide) rfl (fun ls hl => ?_)
        refine lv_goto (tgt := 27) hx hb dX7_lays_45 (by decide) ?_
        exact ih27 r2 v3 hf H locs hP hS ls (lv_sub hl [1, 0] rfl)
  have kB25 : ∀ (σ : St), fX7_lays_B25 σ = some res → ∀ (H : Heap) (locs : List Loc), va_P (dC, dI) vwCl (wd 16 ad (layM ad cy) σ) H → va_S (WA 16 ad) s.heap H locs → ∀ (ls : Array Slot), lv_has ls 2 [(0, .ref (ad 0))] → W p l e rmX7_lays s m args below meth c H locs 0 0 (MQ below (Qvw (dC, dI) 16 ad (layM ad cy) res) args s 0 0 (WA 16 ad)) (F0 m 25 ls []) := by
    intro σ hf H locs hP hS ls hl
    unfold fX7_lays_B25 at hf
    refine lv_iconst (v := 0) hx hb dX7_lays_25 (by decide) ?_
    refine lv_istore_n (lv' := [(1, .int 0), (0, .ref (ad 0))]) hx hb dX7_lays_26 rfl hl (by decide) rfl (fun ls hl => ?_)
    exact loop27 1000 σ 0 hf H locs hP hS ls (lv_sub hl [1, 0] rfl)
  have loop6 : ∀ (n6 : Nat) (σ : St) (x1 : Int32), fX7_lays_L6 (fun σ => fX7_lays_B25 σ) n6 σ x1 = some res → ∀ (H : Heap) (locs : List Loc), va_P (dC, dI) vwCl (wd 16 ad (layM ad cy) σ) H → va_S (WA 16 ad) s.heap H locs → ∀ (ls : Array Slot), lv_has ls 2 [(0, .ref (ad 0)), (1, .int x1)] → W p l e rmX7_lays s m args below meth c H locs 0 0 (MQ below (Qvw (dC, dI) 16 ad (layM ad cy) res) args s 0 0 (WA 16 ad)) (F0 m 6 ls []) := by
    intro n6
    induction n6 with
    | zero => intro σ x1 hf; simp [fX7_lays_L6] at hf
    | succ n6 ih6 =>
      intro σ x1 hf H locs hP hS ls hl
      rw [fX7_lays_L6] at hf
      refine lv_iload_n hx hb dX7_lays_6 rfl (lv_at hl 1 rfl) ?_
      refine lv_bipush (v := 8) hx hb dX7_lays_7 (by decide) ?_
      refine lv_icmp_ge (tgt := 25) hx hb dX7_lays_9 (by decide) (fun c4 => ?_) (fun c4 => ?_)
      · have hf := (if_pos c4).symm.trans hf
        exact kB25 σ hf H locs hP hS ls (lv_sub hl [0] rfl)
      · have hf := (if_neg c4).symm.trans hf
        refine lv_aload_n hx hb dX7_lays_12 rfl (lv_at hl 0 rfl) ?_
        refine xt_get (ci := 7) (C := RX7) (T := TX7) (n := 25) (v := .ref (ad 7)) hx hb hts iX7_lays_X7 hown hK hP 0 (by decide) (LX7_obj ad cy _) rfl 10 (by decide) w1 rfl dX7_lays_13 ?_
        refine lv_iload_n hx hb dX7_lays_16 rfl (lv_at hl 1 rfl) ?_
        refine lv_iconst (v := 0) hx hb dX7_lays_17 (by decide) ?_
        obtain ⟨g5, hf⟩ := gd_some hf
        refine xt_iast hx hb hK hP hJ hS 7 (by decide) 0 (LX7_taken ad cy) rfl g5 dX7_lays_18 (fun H locs hP hS => ?_)
        obtain ⟨σ6, eσ6⟩ : ∃ z : St, z = su σ 7 x1.toNatClampNeg 0 := ⟨_, rfl⟩
        rw [← eσ6] at hP
        have hf := nm_to hf eσ6
        obtain ⟨v7, ev7⟩ : ∃ y : Int32, y = x1 + 1 := ⟨_, rfl⟩
        have hf := nm_to hf ev7
        refine lv_iinc (v := v7) (lv' := [(1, .int v7), (0, .ref (ad 0))]) hx hb dX7_lays_19 hl (k := 1) rfl (by rw [ev7]; rfl) (by decide) rfl (fun ls hl => ?_)
        refine lv_goto (tgt := 6) hx hb dX7_lays_22 (by decide) ?_
        exact ih6 σ6 v7 hf H locs hP hS ls (lv_sub hl [1, 0] rfl)
  unfold fX7_lays at hf
  obtain ⟨H, eH⟩ : ∃ H : Heap, H = s.heap := ⟨_, rfl⟩
  rw [← eH] at hP
  have hS : va_S (WA 16 ad) s.heap H [] := by rw [eH]; exact hS
  suffices K : W p l e rmX7_lays s m args below meth c H [] 0 0 (MQ below (Qvw (dC, dI) 16 ad (layM ad cy) res) args s 0 0 (WA 16 ad)) (F0 m 0 ls []) by rw [eH] at K; exact K
  clear eH
  obtain ⟨locs, elocs⟩ : ∃ z : List Loc, z = [] := ⟨_, rfl⟩
  rw [← elocs] at hS ⊢
  refine lv_aload_n hx hb dX7_lays_0 rfl (lv_at hl 0 rfl) ?_
  obtain ⟨r8, qr8, hf⟩ := bd_some hf
  refine xt_callVv (As := []) (rest := []) (C := RX7) (ci := 7) ⟨hx, hb, hml, hown, hts⟩ 0 (mX7_laysRing l dC dI ad cy hJ σ r8 qr8) (cwV 0 hts gX7_lays_X7_laysRing rfl rfl rfl dmX7_laysRing ⟨Nat.le_of_ble_eq_true rfl, Nat.le_of_ble_eq_true rfl⟩) hK hP hS (by decide) (LX7_obj ad cy _) rfl rfl rfl hl.1 (Nat.le_of_ble_eq_true rfl) ⟨Nat.zero_le _, Nat.zero_le _⟩ dX7_lays_1 (fun H locs hP hS => ?_)
  refine lv_iconst (v := 0) hx hb dX7_lays_4 (by decide) ?_
  refine lv_istore_n (lv' := [(1, .int 0), (0, .ref (ad 0))]) hx hb dX7_lays_5 rfl hl (by decide) rfl (fun ls hl => ?_)
  exact loop6 1000 r8 0 hf H locs hP hS ls (lv_sub hl [1, 0] rfl)
def fX7_stretch_B35 (σ : St) (x2 : Int32) : Option Int32 :=
  some x2
def fX7_stretch_L4 (σ : St) (x1 : Int32) (K4_35 : Int32 → Option Int32) : Nat → Int32 → Int32 → Option Int32
  | 0, _, _ => none
  | n4 + 1, x2, x3 => if (360 : Int32) ≤ x3 then (K4_35 x2) else (gd (okI x3 360) <| if (σ 3 x3.toNatClampNeg) = x1 then (nm (x2 + 1) fun v6 => nm (x3 + 1) fun v7 => (fX7_stretch_L4 σ x1 K4_35 n4) v6 v7) else (nm (x2 + 0) fun v4 => nm (x3 + 1) fun v5 => (fX7_stretch_L4 σ x1 K4_35 n4) v4 v5))
def fX7_stretch (σ : St) (a1 : Int32) : Option Int32 :=
  fX7_stretch_L4 σ a1 (fun y2 => fX7_stretch_B35 σ y2) 1000 0 0
abbrev rmX7_stretch : Room := { frames := 0, cells := 0, slots := 0, locals := 0 }
theorem dmX7_stretch : yX7_stretch.cls = RX7 ∧ yX7_stretch.cls ≠ "java/lang/invoke/MethodHandle" ∧ yX7_stretch.cls ≠ "java/lang/invoke/VarHandle" ∧ (parseMethodDescriptor yX7_stretch.desc).map (fun d => d.parameters.length) = some 1 := by decide +kernel
theorem iX7_stretch_X7 : ∀ w ∈ wsX70, w ∈ wsX7_stretch := fun w h => List.mem_cons_of_mem _ (List.mem_append_right _ (h))
set_option maxHeartbeats 8000000 in
set_option maxRecDepth 100000 in
theorem mX7_stretch (l : Launch) (dC : Nat → ClassId) (dI : Nat → Nat → Nat) (ad : Nat → Nat) (cy : Nat → ClassId) (hJ : WJ 16 ad) (σ : St) (a1 : Int32) (res : Int32) (hf : fX7_stretch σ a1 = some res) : CMi l yX7_stretch wsX7_stretch rmX7_stretch (dC, dI) (tysX cy) 16 ad (layM ad cy) [.ref (ad 0), .int a1] σ res σ := by
  refine Met.ofW (cc := cX7_stretch) (maxL := 4) (ret := (some .int)) (by decide) rfl ?_
  intro p e s m args below meth c s₁ B hml hv
  obtain ⟨hargs, hP, hK⟩ := hv
  have hx := B.exec
  have hb := B.bytes
  have hr := B.returns
  have hts := atoms_spec (ws := wsX7_stretch) B.pre
  have hown : s.vm.findClass RX7 = some m.cls := findClass_of_methodNamed B.named
  have hlocks := B.notSynchronized
  have w1 := hts (.fieldLink RX7 16 "PierRingsModel" "homes" "[I") (List.mem_of_getElem? (i := 1) rfl)
  have hS : va_S (WA 16 ad) s.heap s.heap [] := va_S.rf
  have hfr : entryFrame m args 4 = F0 m 0 ((lg_sl [.ref (ad 0), .int a1] ++ List.replicate (4 - (lg_sl [.ref (ad 0), .int a1]).length) Slot.unset).toArray) [] := by rw [hargs]; exact lg_entry_eq _ _ _
  rw [hfr]
  have hl := lv_entry ([.ref (ad 0), .int a1]) (n := 4) (Nat.le_of_ble_eq_true rfl)
  generalize (lg_sl [.ref (ad 0), .int a1] ++ List.replicate (4 - (lg_sl [.ref (ad 0), .int a1]).length) Slot.unset).toArray = ls at hl ⊢
  have hl : lv_has ls 4 [(0, .ref (ad 0)), (1, .int a1)] := hl
  clear hfr hargs B
  show W p l e rmX7_stretch s m args below meth c s.heap [] 0 0 (MQ below (Qiw (dC, dI) 16 ad (layM ad cy) res σ) args s 0 0 (WA 16 ad)) (F0 m 0 ls [])
  have kB35 : ∀ (x2 : Int32), fX7_stretch_B35 σ x2 = some res → ∀ (H : Heap) (locs : List Loc), va_P (dC, dI) vwCl (wd 16 ad (layM ad cy) σ) H → va_S (WA 16 ad) s.heap H locs → ∀ (ls : Array Slot), lv_has ls 4 [(2, .int x2)] → W p l e rmX7_stretch s m args below meth c H locs 0 0 (MQ below (Qiw (dC, dI) 16 ad (layM ad cy) res σ) args s 0 0 (WA 16 ad)) (F0 m 35 ls []) := by
    intro x2 hf H locs hP hS ls hl
    unfold fX7_stretch_B35 at hf
    refine lv_iload_n hx hb dX7_stretch_35 rfl (lv_at hl 0 rfl) ?_
    exact xt_iret hx hb hr hP hS (Option.some.inj hf) rfl dX7_stretch_36 hlocks
  have loop4 : ∀ (x1 : Int32) (n4 : Nat) (x2 : Int32) (x3 : Int32), fX7_stretch_L4 σ x1 (fun y2 => fX7_stretch_B35 σ y2) n4 x2 x3 = some res → ∀ (H : Heap) (locs : List Loc), va_P (dC, dI) vwCl (wd 16 ad (layM ad cy) σ) H → va_S (WA 16 ad) s.heap H locs → ∀ (ls : Array Slot), lv_has ls 4 [(0, .ref (ad 0)), (1, .int x1), (2, .int x2), (3, .int x3)] → W p l e rmX7_stretch s m args below meth c H locs 0 0 (MQ below (Qiw (dC, dI) 16 ad (layM ad cy) res σ) args s 0 0 (WA 16 ad)) (F0 m 4 ls []) := by
    intro x1 n4
    induction n4 with
    | zero => intro x2 x3 hf; simp [fX7_stretch_L4] at hf
    | succ n4 ih4 =>
      intro x2 x3 hf H locs hP hS ls hl
      rw [fX7_stretch_L4] at hf
      refine lv_iload_n hx hb dX7_stretch_4 rfl (lv_at hl 3 rfl) ?_
      refine lv_sipush (v := 360) hx hb dX7_stretch_5 (by decide) ?_
      refine lv_icmp_ge (tgt := 35) hx hb dX7_stretch_8 (by decide) (fun c1 => ?_) (fun c1 => ?_)
      · have hf := (if_pos c1).symm.trans hf
        exact kB35 x2 hf H locs hP hS ls (lv_sub hl [2] rfl)
      · have hf := (if_neg c1).symm.trans hf
        refine lv_iload_n hx hb dX7_stretch_11 rfl (lv_at hl 2 rfl) ?_
        refine lv_aload_n hx hb dX7_stretch_12 rfl (lv_at hl 0 rfl) ?_
        refine xt_get (ci := 7) (C := RX7) (T := TX7) (n := 25) (v := .ref (ad 3)) hx hb hts iX7_stretch_X7 hown hK hP 0 (by decide) (LX7_obj ad cy _) rfl 6 (by decide) w1 rfl dX7_stretch_13 ?_
        refine lv_iload_n hx hb dX7_stretch_16 rfl (lv_at hl 3 rfl) ?_
        obtain ⟨g2, hf⟩ := gd_some hf
        refine xt_iald hx hb hK hP 3 (by decide) 0 (LX7_homes ad cy _) rfl g2 dX7_stretch_17 ?_
        refine lv_iload_n hx hb dX7_stretch_18 rfl (lv_at hl 1 rfl) ?_
        refine lv_icmp_ne (tgt := 26) hx hb dX7_stretch_19 (by decide) (fun c3 => ?_) (fun c3 => ?_)
        · have hf := (if_neg c3).symm.trans hf
          refine lv_iconst (v := 0) hx hb dX7_stretch_26 (by decide) ?_
          refine lv_iadd hx hb dX7_stretch_27 ?_
          refine lv_topi (fun v4 ev4 => ?_)
          have hf := nm_to hf ev4
          refine lv_istore_n (lv' := [(2, .int v4), (0, .ref (ad 0)), (1, .int x1), (3, .int x3)]) hx hb dX7_stretch_28 rfl hl (by decide) rfl (fun ls hl => ?_)
          obtain ⟨v5, ev5⟩ : ∃ y : Int32, y = x3 + 1 := ⟨_, rfl⟩
          have hf := nm_to hf ev5
          refine lv_iinc (v := v5) (lv' := [(3, .int v5), (2, .int v4), (0, .ref (ad 0)), (1, .int x1)]) hx hb dX7_stretch_29 hl (k := 3) rfl (by rw [ev5]; rfl) (by decide) rfl (fun ls hl => ?_)
          refine lv_goto (tgt := 4) hx hb dX7_stretch_32 (by decide) ?_
          exact ih4 v4 v5 hf H locs hP hS ls (lv_sub hl [2, 3, 1, 0] rfl)
        · have hf := (if_pos c3).symm.trans hf
          refine lv_iconst (v := 1) hx hb dX7_stretch_22 (by decide) ?_
          refine lv_goto (tgt := 27) hx hb dX7_stretch_23 (by decide) ?_
          refine lv_iadd hx hb dX7_stretch_27 ?_
          refine lv_topi (fun v6 ev6 => ?_)
          have hf := nm_to hf ev6
          refine lv_istore_n (lv' := [(2, .int v6), (0, .ref (ad 0)), (1, .int x1), (3, .int x3)]) hx hb dX7_stretch_28 rfl hl (by decide) rfl (fun ls hl => ?_)
          obtain ⟨v7, ev7⟩ : ∃ y : Int32, y = x3 + 1 := ⟨_, rfl⟩
          have hf := nm_to hf ev7
          refine lv_iinc (v := v7) (lv' := [(3, .int v7), (2, .int v6), (0, .ref (ad 0)), (1, .int x1)]) hx hb dX7_stretch_29 hl (k := 3) rfl (by rw [ev7]; rfl) (by decide) rfl (fun ls hl => ?_)
          refine lv_goto (tgt := 4) hx hb dX7_stretch_32 (by decide) ?_
          exact ih4 v6 v7 hf H locs hP hS ls (lv_sub hl [2, 3, 1, 0] rfl)
  unfold fX7_stretch at hf
  obtain ⟨H, eH⟩ : ∃ H : Heap, H = s.heap := ⟨_, rfl⟩
  rw [← eH] at hP
  have hS : va_S (WA 16 ad) s.heap H [] := by rw [eH]; exact hS
  suffices K : W p l e rmX7_stretch s m args below meth c H [] 0 0 (MQ below (Qiw (dC, dI) 16 ad (layM ad cy) res σ) args s 0 0 (WA 16 ad)) (F0 m 0 ls []) by rw [eH] at K; exact K
  clear eH
  obtain ⟨locs, elocs⟩ : ∃ z : List Loc, z = [] := ⟨_, rfl⟩
  rw [← elocs] at hS ⊢
  refine lv_iconst (v := 0) hx hb dX7_stretch_0 (by decide) ?_
  refine lv_istore_n (lv' := [(2, .int 0), (0, .ref (ad 0)), (1, .int a1)]) hx hb dX7_stretch_1 rfl hl (by decide) rfl (fun ls hl => ?_)
  refine lv_iconst (v := 0) hx hb dX7_stretch_2 (by decide) ?_
  refine lv_istore_n (lv' := [(3, .int 0), (2, .int 0), (0, .ref (ad 0)), (1, .int a1)]) hx hb dX7_stretch_3 rfl hl (by decide) rfl (fun ls hl => ?_)
  exact loop4 a1 1000 0 0 hf H locs hP hS ls (lv_sub hl [2, 3, 1, 0] rfl)
