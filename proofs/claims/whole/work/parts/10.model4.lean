def fX7_sign (σ : St) : Option Int32 :=
  if (σ 0 18) ≤ (σ 0 19) then (some (-1 : Int32)) else (gd (okI (σ 0 19) 60) <| some (σ 13 (σ 0 19).toNatClampNeg))
abbrev rmX7_sign : Room := { frames := 0, cells := 0, slots := 0, locals := 0 }
theorem dmX7_sign : yX7_sign.cls = RX7 ∧ yX7_sign.cls ≠ "java/lang/invoke/MethodHandle" ∧ yX7_sign.cls ≠ "java/lang/invoke/VarHandle" ∧ (parseMethodDescriptor yX7_sign.desc).map (fun d => d.parameters.length) = some 0 := by decide +kernel
theorem iX7_sign_X7 : ∀ w ∈ wsX70, w ∈ wsX7_sign := fun w h => List.mem_cons_of_mem _ (List.mem_append_right _ (h))
set_option maxHeartbeats 8000000 in
set_option maxRecDepth 100000 in
theorem mX7_sign (l : Launch) (dC : Nat → ClassId) (dI : Nat → Nat → Nat) (ad : Nat → Nat) (cy : Nat → ClassId) (hJ : WJ 16 ad) (σ : St) (res : Int32) (hf : fX7_sign σ = some res) : CMi l yX7_sign wsX7_sign rmX7_sign (dC, dI) (tysX cy) 16 ad (layM ad cy) [.ref (ad 0)] σ res σ := by
  refine Met.ofW (cc := cX7_sign) (maxL := 1) (ret := (some .int)) (by decide) rfl ?_
  intro p e s m args below meth c s₁ B hml hv
  obtain ⟨hargs, hP, hK⟩ := hv
  have hx := B.exec
  have hb := B.bytes
  have hr := B.returns
  have hts := atoms_spec (ws := wsX7_sign) B.pre
  have hown : s.vm.findClass RX7 = some m.cls := findClass_of_methodNamed B.named
  have hlocks := B.notSynchronized
  have w1 := hts (.fieldLink RX7 196 "PierRingsModel" "here" "I") (List.mem_of_getElem? (i := 1) rfl)
  have w2 := hts (.fieldLink RX7 193 "PierRingsModel" "textSize" "I") (List.mem_of_getElem? (i := 2) rfl)
  have w3 := hts (.fieldLink RX7 46 "PierRingsModel" "text" "[I") (List.mem_of_getElem? (i := 3) rfl)
  have hS : va_S (WA 16 ad) s.heap s.heap [] := va_S.rf
  have hfr : entryFrame m args 1 = F0 m 0 ((lg_sl [.ref (ad 0)] ++ List.replicate (1 - (lg_sl [.ref (ad 0)]).length) Slot.unset).toArray) [] := by rw [hargs]; exact lg_entry_eq _ _ _
  rw [hfr]
  have hl := lv_entry ([.ref (ad 0)]) (n := 1) (Nat.le_of_ble_eq_true rfl)
  generalize (lg_sl [.ref (ad 0)] ++ List.replicate (1 - (lg_sl [.ref (ad 0)]).length) Slot.unset).toArray = ls at hl ⊢
  have hl : lv_has ls 1 [(0, .ref (ad 0))] := hl
  clear hfr hargs B
  show W p l e rmX7_sign s m args below meth c s.heap [] 0 0 (MQ below (Qiw (dC, dI) 16 ad (layM ad cy) res σ) args s 0 0 (WA 16 ad)) (F0 m 0 ls [])
  unfold fX7_sign at hf
  obtain ⟨H, eH⟩ : ∃ H : Heap, H = s.heap := ⟨_, rfl⟩
  rw [← eH] at hP
  have hS : va_S (WA 16 ad) s.heap H [] := by rw [eH]; exact hS
  suffices K : W p l e rmX7_sign s m args below meth c H [] 0 0 (MQ below (Qiw (dC, dI) 16 ad (layM ad cy) res σ) args s 0 0 (WA 16 ad)) (F0 m 0 ls []) by rw [eH] at K; exact K
  clear eH
  obtain ⟨locs, elocs⟩ : ∃ z : List Loc, z = [] := ⟨_, rfl⟩
  rw [← elocs] at hS ⊢
  refine lv_aload_n hx hb dX7_sign_0 rfl (lv_at hl 0 rfl) ?_
  refine xt_get (ci := 7) (C := RX7) (T := TX7) (n := 25) (v := .int (σ 0 19)) hx hb hts iX7_sign_X7 hown hK hP 0 (by decide) (LX7_obj ad cy _) rfl 19 (by decide) w1 rfl dX7_sign_1 ?_
  refine lv_aload_n hx hb dX7_sign_4 rfl (lv_at hl 0 rfl) ?_
  refine xt_get (ci := 7) (C := RX7) (T := TX7) (n := 25) (v := .int (σ 0 18)) hx hb hts iX7_sign_X7 hown hK hP 0 (by decide) (LX7_obj ad cy _) rfl 18 (by decide) w2 rfl dX7_sign_5 ?_
  refine lv_icmp_ge (tgt := 23) hx hb dX7_sign_8 (by decide) (fun c1 => ?_) (fun c1 => ?_)
  · have hf := (if_pos c1).symm.trans hf
    refine lv_iconst (v := (-1)) hx hb dX7_sign_23 (by decide) ?_
    exact xt_iret hx hb hr hP hS (Option.some.inj hf) rfl dX7_sign_24 hlocks
  · have hf := (if_neg c1).symm.trans hf
    refine lv_aload_n hx hb dX7_sign_11 rfl (lv_at hl 0 rfl) ?_
    refine xt_get (ci := 7) (C := RX7) (T := TX7) (n := 25) (v := .ref (ad 13)) hx hb hts iX7_sign_X7 hown hK hP 0 (by decide) (LX7_obj ad cy _) rfl 17 (by decide) w3 rfl dX7_sign_12 ?_
    refine lv_aload_n hx hb dX7_sign_15 rfl (lv_at hl 0 rfl) ?_
    refine xt_get (ci := 7) (C := RX7) (T := TX7) (n := 25) (v := .int (σ 0 19)) hx hb hts iX7_sign_X7 hown hK hP 0 (by decide) (LX7_obj ad cy _) rfl 19 (by decide) w1 rfl dX7_sign_16 ?_
    obtain ⟨g2, hf⟩ := gd_some hf
    refine xt_iald hx hb hK hP 13 (by decide) 0 (LX7_text ad cy _) rfl g2 dX7_sign_19 ?_
    refine lv_goto (tgt := 24) hx hb dX7_sign_20 (by decide) ?_
    exact xt_iret hx hb hr hP hS (Option.some.inj hf) rfl dX7_sign_24 hlocks
def fX7_needs (σ : St) (a1 : Int32) : Option St :=
  if (σ 0 20) < 0 then (bd (fX7_sign σ) fun r2 => if r2 = a1 then (nm (su σ 0 19 ((σ 0 19) + 1)) fun σ4 => some σ4) else (nm (su σ 0 20 (σ 0 19)) fun σ5 => some σ5)) else (some σ)
abbrev rmX7_needs : Room := { frames := 1, cells := 0, slots := 0, locals := 20 }
theorem dmX7_needs : yX7_needs.cls = RX7 ∧ yX7_needs.cls ≠ "java/lang/invoke/MethodHandle" ∧ yX7_needs.cls ≠ "java/lang/invoke/VarHandle" ∧ (parseMethodDescriptor yX7_needs.desc).map (fun d => d.parameters.length) = some 1 := by decide +kernel
theorem iX7_needs_X7 : ∀ w ∈ wsX70, w ∈ wsX7_needs := fun w h => List.mem_cons_of_mem _ (List.mem_append_right _ (h))
set_option maxHeartbeats 8000000 in
set_option maxRecDepth 100000 in
theorem mX7_needs (l : Launch) (dC : Nat → ClassId) (dI : Nat → Nat → Nat) (ad : Nat → Nat) (cy : Nat → ClassId) (hJ : WJ 16 ad) (σ : St) (a1 : Int32) (res : St) (hf : fX7_needs σ a1 = some res) : CMv l yX7_needs wsX7_needs rmX7_needs (dC, dI) (tysX cy) 16 ad (layM ad cy) [.ref (ad 0), .int a1] σ res := by
  refine Met.ofW (cc := cX7_needs) (maxL := 2) (ret := none) (by decide) rfl ?_
  intro p e s m args below meth c s₁ B hml hv
  obtain ⟨hargs, hP, hK⟩ := hv
  have hx := B.exec
  have hb := B.bytes
  have hr := B.returns
  have hts := atoms_spec (ws := wsX7_needs) B.pre
  have hown : s.vm.findClass RX7 = some m.cls := findClass_of_methodNamed B.named
  have hlocks := B.notSynchronized
  have w1 := hts (.fieldLink RX7 199 "PierRingsModel" "fault" "I") (List.mem_of_getElem? (i := 1) rfl)
  have w2 := hts (.fieldLink RX7 196 "PierRingsModel" "here" "I") (List.mem_of_getElem? (i := 2) rfl)
  have hS : va_S (WA 16 ad) s.heap s.heap [] := va_S.rf
  have hfr : entryFrame m args 2 = F0 m 0 ((lg_sl [.ref (ad 0), .int a1] ++ List.replicate (2 - (lg_sl [.ref (ad 0), .int a1]).length) Slot.unset).toArray) [] := by rw [hargs]; exact lg_entry_eq _ _ _
  rw [hfr]
  have hl := lv_entry ([.ref (ad 0), .int a1]) (n := 2) (Nat.le_of_ble_eq_true rfl)
  generalize (lg_sl [.ref (ad 0), .int a1] ++ List.replicate (2 - (lg_sl [.ref (ad 0), .int a1]).length) Slot.unset).toArray = ls at hl ⊢
  have hl : lv_has ls 2 [(0, .ref (ad 0)), (1, .int a1)] := hl
  clear hfr hargs B
  show W p l e rmX7_needs s m args below meth c s.heap [] 0 0 (MQ below (Qvw (dC, dI) 16 ad (layM ad cy) res) args s 0 0 (WA 16 ad)) (F0 m 0 ls [])
  unfold fX7_needs at hf
  obtain ⟨H, eH⟩ : ∃ H : Heap, H = s.heap := ⟨_, rfl⟩
  rw [← eH] at hP
  have hS : va_S (WA 16 ad) s.heap H [] := by rw [eH]; exact hS
  suffices K : W p l e rmX7_needs s m args below meth c H [] 0 0 (MQ below (Qvw (dC, dI) 16 ad (layM ad cy) res) args s 0 0 (WA 16 ad)) (F0 m 0 ls []) by rw [eH] at K; exact K
  clear eH
  obtain ⟨locs, elocs⟩ : ∃ z : List Loc, z = [] := ⟨_, rfl⟩
  rw [← elocs] at hS ⊢
  refine lv_aload_n hx hb dX7_needs_0 rfl (lv_at hl 0 rfl) ?_
  refine xt_get (ci := 7) (C := RX7) (T := TX7) (n := 25) (v := .int (σ 0 20)) hx hb hts iX7_needs_X7 hown hK hP 0 (by decide) (LX7_obj ad cy _) rfl 20 (by decide) w1 rfl dX7_needs_1 ?_
  refine lv_if_lt (tgt := 8) hx hb dX7_needs_4 (by decide) (fun c1 => ?_) (fun c1 => ?_)
  · have hf := (if_pos c1).symm.trans hf
    refine lv_aload_n hx hb dX7_needs_8 rfl (lv_at hl 0 rfl) ?_
    obtain ⟨r2, qr2, hf⟩ := bd_some hf
    refine xt_callVi (As := []) (rest := []) (C := RX7) (ci := 7) ⟨hx, hb, hml, hown, hts⟩ 0 (mX7_sign l dC dI ad cy hJ σ r2 qr2) (cwV 0 hts gX7_needs_X7_sign rfl rfl rfl dmX7_sign ⟨Nat.le_of_ble_eq_true rfl, Nat.le_of_ble_eq_true rfl⟩) hK hP hS (by decide) (LX7_obj ad cy _) rfl rfl rfl hl.1 (Nat.le_of_ble_eq_true rfl) ⟨Nat.zero_le _, Nat.zero_le _⟩ dX7_needs_9 (fun H locs hP hS => ?_)
    refine lv_iload_n hx hb dX7_needs_12 rfl (lv_at hl 1 rfl) ?_
    refine lv_icmp_eq (tgt := 25) hx hb dX7_needs_13 (by decide) (fun c3 => ?_) (fun c3 => ?_)
    · have hf := (if_pos c3).symm.trans hf
      refine lv_aload_n hx hb dX7_needs_25 rfl (lv_at hl 0 rfl) ?_
      refine lv_dup hx hb dX7_needs_26 rfl ?_
      refine xt_get (ci := 7) (C := RX7) (T := TX7) (n := 25) (v := .int (σ 0 19)) hx hb hts iX7_needs_X7 hown hK hP 0 (by decide) (LX7_obj ad cy _) rfl 19 (by decide) w2 rfl dX7_needs_27 ?_
      refine lv_iconst (v := 1) hx hb dX7_needs_30 (by decide) ?_
      refine lv_iadd hx hb dX7_needs_31 ?_
      refine xt_put (ci := 7) (C := RX7) (T := TX7) (n := 25) hx hb hts iX7_needs_X7 tyX7 tyX7_ok nmX7 hown hK hP hJ hS 0 (by decide) (LX7_obj ad cy _) rfl 19 (by decide) w2 rfl (v := ((σ 0 19) + 1)) rfl rfl (Nat.le_of_ble_eq_true rfl) (LX7_obj ad cy _) dX7_needs_32 (fun H locs hP hS => ?_)
      obtain ⟨σ4, eσ4⟩ : ∃ z : St, z = su σ 0 19 ((σ 0 19) + 1) := ⟨_, rfl⟩
      rw [← eσ4] at hP
      have hf := nm_to hf eσ4
      exact xt_vret hx hb hr hP hS (Option.some.inj hf) dX7_needs_35 hlocks
    · have hf := (if_neg c3).symm.trans hf
      refine lv_aload_n hx hb dX7_needs_16 rfl (lv_at hl 0 rfl) ?_
      refine lv_aload_n hx hb dX7_needs_17 rfl (lv_at hl 0 rfl) ?_
      refine xt_get (ci := 7) (C := RX7) (T := TX7) (n := 25) (v := .int (σ 0 19)) hx hb hts iX7_needs_X7 hown hK hP 0 (by decide) (LX7_obj ad cy _) rfl 19 (by decide) w2 rfl dX7_needs_18 ?_
      refine xt_put (ci := 7) (C := RX7) (T := TX7) (n := 25) hx hb hts iX7_needs_X7 tyX7 tyX7_ok nmX7 hown hK hP hJ hS 0 (by decide) (LX7_obj ad cy _) rfl 20 (by decide) w1 rfl (v := (σ 0 19)) rfl rfl (Nat.le_of_ble_eq_true rfl) (LX7_obj ad cy _) dX7_needs_21 (fun H locs hP hS => ?_)
      obtain ⟨σ5, eσ5⟩ : ∃ z : St, z = su σ 0 20 (σ 0 19) := ⟨_, rfl⟩
      rw [← eσ5] at hP
      have hf := nm_to hf eσ5
      exact xt_vret hx hb hr hP hS (Option.some.inj hf) dX7_needs_24 hlocks
  · have hf := (if_neg c1).symm.trans hf
    exact xt_vret hx hb hr hP hS (Option.some.inj hf) dX7_needs_7 hlocks
def fX7_signs (σ : St) (a1 : Int32) (a2 : Int32) (a3 : Int32) : Option St :=
  bd (fX7_needs σ a1) fun r1 => bd (fX7_needs r1 a2) fun r2 => if a3 = 0 then (some r2) else (bd (fX7_needs r2 a3) fun r4 => some r4)
abbrev rmX7_signs : Room := { frames := 2, cells := 0, slots := 0, locals := 41 }
theorem dmX7_signs : yX7_signs.cls = RX7 ∧ yX7_signs.cls ≠ "java/lang/invoke/MethodHandle" ∧ yX7_signs.cls ≠ "java/lang/invoke/VarHandle" ∧ (parseMethodDescriptor yX7_signs.desc).map (fun d => d.parameters.length) = some 3 := by decide +kernel
set_option maxHeartbeats 8000000 in
set_option maxRecDepth 100000 in
theorem mX7_signs (l : Launch) (dC : Nat → ClassId) (dI : Nat → Nat → Nat) (ad : Nat → Nat) (cy : Nat → ClassId) (hJ : WJ 16 ad) (σ : St) (a1 : Int32) (a2 : Int32) (a3 : Int32) (res : St) (hf : fX7_signs σ a1 a2 a3 = some res) : CMv l yX7_signs wsX7_signs rmX7_signs (dC, dI) (tysX cy) 16 ad (layM ad cy) [.ref (ad 0), .int a1, .int a2, .int a3] σ res := by
  refine Met.ofW (cc := cX7_signs) (maxL := 4) (ret := none) (by decide) rfl ?_
  intro p e s m args below meth c s₁ B hml hv
  obtain ⟨hargs, hP, hK⟩ := hv
  have hx := B.exec
  have hb := B.bytes
  have hr := B.returns
  have hts := atoms_spec (ws := wsX7_signs) B.pre
  have hown : s.vm.findClass RX7 = some m.cls := findClass_of_methodNamed B.named
  have hlocks := B.notSynchronized
  have hS : va_S (WA 16 ad) s.heap s.heap [] := va_S.rf
  have hfr : entryFrame m args 4 = F0 m 0 ((lg_sl [.ref (ad 0), .int a1, .int a2, .int a3] ++ List.replicate (4 - (lg_sl [.ref (ad 0), .int a1, .int a2, .int a3]).length) Slot.unset).toArray) [] := by rw [hargs]; exact lg_entry_eq _ _ _
  rw [hfr]
  have hl := lv_entry ([.ref (ad 0), .int a1, .int a2, .int a3]) (n := 4) (Nat.le_of_ble_eq_true rfl)
  generalize (lg_sl [.ref (ad 0), .int a1, .int a2, .int a3] ++ List.replicate (4 - (lg_sl [.ref (ad 0), .int a1, .int a2, .int a3]).length) Slot.unset).toArray = ls at hl ⊢
  have hl : lv_has ls 4 [(0, .ref (ad 0)), (1, .int a1), (2, .int a2), (3, .int a3)] := hl
  clear hfr hargs B
  show W p l e rmX7_signs s m args below meth c s.heap [] 0 0 (MQ below (Qvw (dC, dI) 16 ad (layM ad cy) res) args s 0 0 (WA 16 ad)) (F0 m 0 ls [])
  unfold fX7_signs at hf
  obtain ⟨H, eH⟩ : ∃ H : Heap, H = s.heap := ⟨_, rfl⟩
  rw [← eH] at hP
  have hS : va_S (WA 16 ad) s.heap H [] := by rw [eH]; exact hS
  suffices K : W p l e rmX7_signs s m args below meth c H [] 0 0 (MQ below (Qvw (dC, dI) 16 ad (layM ad cy) res) args s 0 0 (WA 16 ad)) (F0 m 0 ls []) by rw [eH] at K; exact K
  clear eH
  obtain ⟨locs, elocs⟩ : ∃ z : List Loc, z = [] := ⟨_, rfl⟩
  rw [← elocs] at hS ⊢
  refine lv_aload_n hx hb dX7_signs_0 rfl (lv_at hl 0 rfl) ?_
  refine lv_iload_n hx hb dX7_signs_1 rfl (lv_at hl 1 rfl) ?_
  obtain ⟨r1, qr1, hf⟩ := bd_some hf
  refine xt_callVv (As := [.int a1]) (rest := []) (C := RX7) (ci := 7) ⟨hx, hb, hml, hown, hts⟩ 0 (mX7_needs l dC dI ad cy hJ σ a1 r1 qr1) (cwV 1 hts gX7_signs_X7_needs rfl rfl rfl dmX7_needs ⟨Nat.le_of_ble_eq_true rfl, Nat.le_of_ble_eq_true rfl⟩) hK hP hS (by decide) (LX7_obj ad cy _) rfl rfl rfl hl.1 (Nat.le_of_ble_eq_true rfl) ⟨Nat.zero_le _, Nat.zero_le _⟩ dX7_signs_2 (fun H locs hP hS => ?_)
  refine lv_aload_n hx hb dX7_signs_5 rfl (lv_at hl 0 rfl) ?_
  refine lv_iload_n hx hb dX7_signs_6 rfl (lv_at hl 2 rfl) ?_
  obtain ⟨r2, qr2, hf⟩ := bd_some hf
  refine xt_callVv (As := [.int a2]) (rest := []) (C := RX7) (ci := 7) ⟨hx, hb, hml, hown, hts⟩ 0 (mX7_needs l dC dI ad cy hJ r1 a2 r2 qr2) (cwV 1 hts gX7_signs_X7_needs rfl rfl rfl dmX7_needs ⟨Nat.le_of_ble_eq_true rfl, Nat.le_of_ble_eq_true rfl⟩) hK hP hS (by decide) (LX7_obj ad cy _) rfl rfl rfl hl.1 (Nat.le_of_ble_eq_true rfl) ⟨Nat.zero_le _, Nat.zero_le _⟩ dX7_signs_7 (fun H locs hP hS => ?_)
  refine lv_iload_n hx hb dX7_signs_10 rfl (lv_at hl 3 rfl) ?_
  refine lv_if_eq (tgt := 19) hx hb dX7_signs_11 (by decide) (fun c3 => ?_) (fun c3 => ?_)
  · have hf := (if_pos c3).symm.trans hf
    exact xt_vret hx hb hr hP hS (Option.some.inj hf) dX7_signs_19 hlocks
  · have hf := (if_neg c3).symm.trans hf
    refine lv_aload_n hx hb dX7_signs_14 rfl (lv_at hl 0 rfl) ?_
    refine lv_iload_n hx hb dX7_signs_15 rfl (lv_at hl 3 rfl) ?_
    obtain ⟨r4, qr4, hf⟩ := bd_some hf
    refine xt_callVv (As := [.int a3]) (rest := []) (C := RX7) (ci := 7) ⟨hx, hb, hml, hown, hts⟩ 0 (mX7_needs l dC dI ad cy hJ r2 a3 r4 qr4) (cwV 1 hts gX7_signs_X7_needs rfl rfl rfl dmX7_needs ⟨Nat.le_of_ble_eq_true rfl, Nat.le_of_ble_eq_true rfl⟩) hK hP hS (by decide) (LX7_obj ad cy _) rfl rfl rfl hl.1 (Nat.le_of_ble_eq_true rfl) ⟨Nat.zero_le _, Nat.zero_le _⟩ dX7_signs_16 (fun H locs hP hS => ?_)
    exact xt_vret hx hb hr hP hS (Option.some.inj hf) dX7_signs_19 hlocks
def fX7_number_B91 (σ : St) (x2 : Int32) : Option (Int32 × St) :=
  some (x2, σ)
def fX7_number_L43 (x1 : Int32) (K43_91 : St → Int32 → Option (Int32 × St)) : Nat → St → Int32 → Int32 → Option (Int32 × St)
  | 0, _, _, _ => none
  | n43 + 1, σ, x2, x3 => if x1 ≤ x3 then (K43_91 σ x2) else (bd (fX7_sign σ) fun r2 => bd (fX7_in σ r2 48 57) fun r3 => if r3 = 0 then (K43_91 σ x2) else (bd (fX7_sign σ) fun r5 => nm (((10 * x2) + r5) - 48) fun v6 => nm (su σ 0 19 ((σ 0 19) + 1)) fun σ7 => nm (x3 + 1) fun v8 => (fX7_number_L43 x1 K43_91 n43) σ7 v6 v8))
def fX7_number (σ : St) (a1 : Int32) : Option (Int32 × St) :=
  bd (fX7_needs σ 32) fun r9 => if (r9 0 20) < 0 then (bd (fX7_sign r9) fun r11 => bd (fX7_in r9 r11 48 57) fun r12 => if r12 = 0 then (nm (su r9 0 20 (r9 0 19)) fun σ14 => some (0, σ14)) else (fX7_number_L43 a1 (fun σ y2 => fX7_number_B91 σ y2) 1000 r9 0 0)) else (some (0, r9))
abbrev rmX7_number : Room := { frames := 2, cells := 0, slots := 0, locals := 41 }
theorem dmX7_number : yX7_number.cls = RX7 ∧ yX7_number.cls ≠ "java/lang/invoke/MethodHandle" ∧ yX7_number.cls ≠ "java/lang/invoke/VarHandle" ∧ (parseMethodDescriptor yX7_number.desc).map (fun d => d.parameters.length) = some 1 := by decide +kernel
theorem iX7_number_X7 : ∀ w ∈ wsX70, w ∈ wsX7_number := fun w h => List.mem_cons_of_mem _ (List.mem_append_right _ (h))
set_option maxHeartbeats 8000000 in
set_option maxRecDepth 100000 in
theorem mX7_number (l : Launch) (dC : Nat → ClassId) (dI : Nat → Nat → Nat) (ad : Nat → Nat) (cy : Nat → ClassId) (hJ : WJ 16 ad) (σ : St) (a1 : Int32) (res : (Int32 × St)) (hf : fX7_number σ a1 = some res) : CMi l yX7_number wsX7_number rmX7_number (dC, dI) (tysX cy) 16 ad (layM ad cy) [.ref (ad 0), .int a1] σ res.1 res.2 := by
  refine Met.ofW (cc := cX7_number) (maxL := 4) (ret := (some .int)) (by decide) rfl ?_
  intro p e s m args below meth c s₁ B hml hv
  obtain ⟨hargs, hP, hK⟩ := hv
  have hx := B.exec
  have hb := B.bytes
  have hr := B.returns
  have hts := atoms_spec (ws := wsX7_number) B.pre
  have hown : s.vm.findClass RX7 = some m.cls := findClass_of_methodNamed B.named
  have hlocks := B.notSynchronized
  have w1 := hts (.fieldLink RX7 199 "PierRingsModel" "fault" "I") (List.mem_of_getElem? (i := 1) rfl)
  have w2 := hts (.fieldLink RX7 196 "PierRingsModel" "here" "I") (List.mem_of_getElem? (i := 2) rfl)
  have hS : va_S (WA 16 ad) s.heap s.heap [] := va_S.rf
  have hfr : entryFrame m args 4 = F0 m 0 ((lg_sl [.ref (ad 0), .int a1] ++ List.replicate (4 - (lg_sl [.ref (ad 0), .int a1]).length) Slot.unset).toArray) [] := by rw [hargs]; exact lg_entry_eq _ _ _
  rw [hfr]
  have hl := lv_entry ([.ref (ad 0), .int a1]) (n := 4) (Nat.le_of_ble_eq_true rfl)
  generalize (lg_sl [.ref (ad 0), .int a1] ++ List.replicate (4 - (lg_sl [.ref (ad 0), .int a1]).length) Slot.unset).toArray = ls at hl ⊢
  have hl : lv_has ls 4 [(0, .ref (ad 0)), (1, .int a1)] := hl
  clear hfr hargs B
  show W p l e rmX7_number s m args below meth c s.heap [] 0 0 (MQ below (Qiw (dC, dI) 16 ad (layM ad cy) res.1 res.2) args s 0 0 (WA 16 ad)) (F0 m 0 ls [])
  have kB91 : ∀ (σ : St) (x2 : Int32), fX7_number_B91 σ x2 = some res → ∀ (H : Heap) (locs : List Loc), va_P (dC, dI) vwCl (wd 16 ad (layM ad cy) σ) H → va_S (WA 16 ad) s.heap H locs → ∀ (ls : Array Slot), lv_has ls 4 [(2, .int x2)] → W p l e rmX7_number s m args below meth c H locs 0 0 (MQ below (Qiw (dC, dI) 16 ad (layM ad cy) res.1 res.2) args s 0 0 (WA 16 ad)) (F0 m 91 ls []) := by
    intro σ x2 hf H locs hP hS ls hl
    unfold fX7_number_B91 at hf
    refine lv_iload_n hx hb dX7_number_91 rfl (lv_at hl 0 rfl) ?_
    exact xt_iret hx hb hr hP hS (rs_1 hf) (rs_2 hf) dX7_number_92 hlocks
  have loop43 : ∀ (x1 : Int32) (n43 : Nat) (σ : St) (x2 : Int32) (x3 : Int32), fX7_number_L43 x1 (fun σ y2 => fX7_number_B91 σ y2) n43 σ x2 x3 = some res → ∀ (H : Heap) (locs : List Loc), va_P (dC, dI) vwCl (wd 16 ad (layM ad cy) σ) H → va_S (WA 16 ad) s.heap H locs → ∀ (ls : Array Slot), lv_has ls 4 [(0, .ref (ad 0)), (1, .int x1), (2, .int x2), (3, .int x3)] → W p l e rmX7_number s m args below meth c H locs 0 0 (MQ below (Qiw (dC, dI) 16 ad (layM ad cy) res.1 res.2) args s 0 0 (WA 16 ad)) (F0 m 43 ls []) := by
    intro x1 n43
    induction n43 with
    | zero => intro σ x2 x3 hf; simp [fX7_number_L43] at hf
    | succ n43 ih43 =>
      intro σ x2 x3 hf H locs hP hS ls hl
      rw [fX7_number_L43] at hf
      refine lv_iload_n hx hb dX7_number_43 rfl (lv_at hl 3 rfl) ?_
      refine lv_iload_n hx hb dX7_number_44 rfl (lv_at hl 1 rfl) ?_
      refine lv_icmp_ge (tgt := 91) hx hb dX7_number_45 (by decide) (fun c1 => ?_) (fun c1 => ?_)
      · have hf := (if_pos c1).symm.trans hf
        exact kB91 σ x2 hf H locs hP hS ls (lv_sub hl [2] rfl)
      · have hf := (if_neg c1).symm.trans hf
        refine lv_aload_n hx hb dX7_number_48 rfl (lv_at hl 0 rfl) ?_
        obtain ⟨r2, qr2, hf⟩ := bd_some hf
        refine xt_callVi (As := []) (rest := []) (C := RX7) (ci := 7) ⟨hx, hb, hml, hown, hts⟩ 0 (mX7_sign l dC dI ad cy hJ σ r2 qr2) (cwV 0 hts gX7_number_X7_sign rfl rfl rfl dmX7_sign ⟨Nat.le_of_ble_eq_true rfl, Nat.le_of_ble_eq_true rfl⟩) hK hP hS (by decide) (LX7_obj ad cy _) rfl rfl rfl hl.1 (Nat.le_of_ble_eq_true rfl) ⟨Nat.zero_le _, Nat.zero_le _⟩ dX7_number_49 (fun H locs hP hS => ?_)
        refine lv_bipush (v := 48) hx hb dX7_number_52 (by decide) ?_
        refine lv_bipush (v := 57) hx hb dX7_number_54 (by decide) ?_
        obtain ⟨r3, qr3, hf⟩ := bd_some hf
        refine xt_callSi (As := [.int r2, .int 48, .int 57]) (rest := []) ⟨hx, hb, hml, hown, hts⟩ (mX7_in l dC dI ad cy hJ σ r2 48 57 r3 qr3) (va_cwS 3 hts gX7_number_X7_in rfl rfl rfl dmX7_in ⟨Nat.le_of_ble_eq_true rfl, Nat.le_of_ble_eq_true rfl⟩) hK hP hS rfl rfl hl.1 (Nat.le_of_ble_eq_true rfl) ⟨Nat.zero_le _, Nat.zero_le _⟩ dX7_number_56 (fun H locs hP hS => ?_)
        refine lv_if_eq (tgt := 91) hx hb dX7_number_59 (by decide) (fun c4 => ?_) (fun c4 => ?_)
        · have hf := (if_pos c4).symm.trans hf
          exact kB91 σ x2 hf H locs hP hS ls (lv_sub hl [2] rfl)
        · have hf := (if_neg c4).symm.trans hf
          refine lv_bipush (v := 10) hx hb dX7_number_62 (by decide) ?_
          refine lv_iload_n hx hb dX7_number_64 rfl (lv_at hl 2 rfl) ?_
          refine lv_imul hx hb dX7_number_65 ?_
          refine lv_aload_n hx hb dX7_number_66 rfl (lv_at hl 0 rfl) ?_
          obtain ⟨r5, qr5, hf⟩ := bd_some hf
          refine xt_callVi (As := []) (rest := [.int (10 * x2)]) (C := RX7) (ci := 7) ⟨hx, hb, hml, hown, hts⟩ 0 (mX7_sign l dC dI ad cy hJ σ r5 qr5) (cwV 0 hts gX7_number_X7_sign rfl rfl rfl dmX7_sign ⟨Nat.le_of_ble_eq_true rfl, Nat.le_of_ble_eq_true rfl⟩) hK hP hS (by decide) (LX7_obj ad cy _) rfl rfl rfl hl.1 (Nat.le_of_ble_eq_true rfl) ⟨Nat.zero_le _, Nat.zero_le _⟩ dX7_number_67 (fun H locs hP hS => ?_)
          refine lv_iadd hx hb dX7_number_70 ?_
          refine lv_bipush (v := 48) hx hb dX7_number_71 (by decide) ?_
          refine lv_isub hx hb dX7_number_73 ?_
          refine lv_topi (fun v6 ev6 => ?_)
          have hf := nm_to hf ev6
          refine lv_istore_n (lv' := [(2, .int v6), (0, .ref (ad 0)), (1, .int x1), (3, .int x3)]) hx hb dX7_number_74 rfl hl (by decide) rfl (fun ls hl => ?_)
          refine lv_aload_n hx hb dX7_number_75 rfl (lv_at hl 1 rfl) ?_
          refine lv_dup hx hb dX7_number_76 rfl ?_
          refine xt_get (ci := 7) (C := RX7) (T := TX7) (n := 25) (v := .int (σ 0 19)) hx hb hts iX7_number_X7 hown hK hP 0 (by decide) (LX7_obj ad cy _) rfl 19 (by decide) w2 rfl dX7_number_77 ?_
          refine lv_iconst (v := 1) hx hb dX7_number_80 (by decide) ?_
          refine lv_iadd hx hb dX7_number_81 ?_
          refine xt_put (ci := 7) (C := RX7) (T := TX7) (n := 25) hx hb hts iX7_number_X7 tyX7 tyX7_ok nmX7 hown hK hP hJ hS 0 (by decide) (LX7_obj ad cy _) rfl 19 (by decide) w2 rfl (v := ((σ 0 19) + 1)) rfl rfl (Nat.le_of_ble_eq_true rfl) (LX7_obj ad cy _) dX7_number_82 (fun H locs hP hS => ?_)
          obtain ⟨σ7, eσ7⟩ : ∃ z : St, z = su σ 0 19 ((σ 0 19) + 1) := ⟨_, rfl⟩
          rw [← eσ7] at hP
          have hf := nm_to hf eσ7
          obtain ⟨v8, ev8⟩ : ∃ y : Int32, y = x3 + 1 := ⟨_, rfl⟩
          have hf := nm_to hf ev8
          refine lv_iinc (v := v8) (lv' := [(3, .int v8), (2, .int v6), (0, .ref (ad 0)), (1, .int x1)]) hx hb dX7_number_85 hl (k := 3) rfl (by rw [ev8]; rfl) (by decide) rfl (fun ls hl => ?_)
          refine lv_goto (tgt := 43) hx hb dX7_number_88 (by decide) ?_
          exact ih43 σ7 v6 v8 hf H locs hP hS ls (lv_sub hl [2, 3, 1, 0] rfl)
  unfold fX7_number at hf
  obtain ⟨H, eH⟩ : ∃ H : Heap, H = s.heap := ⟨_, rfl⟩
  rw [← eH] at hP
  have hS : va_S (WA 16 ad) s.heap H [] := by rw [eH]; exact hS
  suffices K : W p l e rmX7_number s m args below meth c H [] 0 0 (MQ below (Qiw (dC, dI) 16 ad (layM ad cy) res.1 res.2) args s 0 0 (WA 16 ad)) (F0 m 0 ls []) by rw [eH] at K; exact K
  clear eH
  obtain ⟨locs, elocs⟩ : ∃ z : List Loc, z = [] := ⟨_, rfl⟩
  rw [← elocs] at hS ⊢
  refine lv_aload_n hx hb dX7_number_0 rfl (lv_at hl 0 rfl) ?_
  refine lv_bipush (v := 32) hx hb dX7_number_1 (by decide) ?_
  obtain ⟨r9, qr9, hf⟩ := bd_some hf
  refine xt_callVv (As := [.int 32]) (rest := []) (C := RX7) (ci := 7) ⟨hx, hb, hml, hown, hts⟩ 0 (mX7_needs l dC dI ad cy hJ σ 32 r9 qr9) (cwV 1 hts gX7_number_X7_needs rfl rfl rfl dmX7_needs ⟨Nat.le_of_ble_eq_true rfl, Nat.le_of_ble_eq_true rfl⟩) hK hP hS (by decide) (LX7_obj ad cy _) rfl rfl rfl hl.1 (Nat.le_of_ble_eq_true rfl) ⟨Nat.zero_le _, Nat.zero_le _⟩ dX7_number_3 (fun H locs hP hS => ?_)
  refine lv_aload_n hx hb dX7_number_6 rfl (lv_at hl 0 rfl) ?_
  refine xt_get (ci := 7) (C := RX7) (T := TX7) (n := 25) (v := .int (r9 0 20)) hx hb hts iX7_number_X7 hown hK hP 0 (by decide) (LX7_obj ad cy _) rfl 20 (by decide) w1 rfl dX7_number_7 ?_
  refine lv_if_lt (tgt := 15) hx hb dX7_number_10 (by decide) (fun c10 => ?_) (fun c10 => ?_)
  · have hf := (if_pos c10).symm.trans hf
    refine lv_aload_n hx hb dX7_number_15 rfl (lv_at hl 0 rfl) ?_
    obtain ⟨r11, qr11, hf⟩ := bd_some hf
    refine xt_callVi (As := []) (rest := []) (C := RX7) (ci := 7) ⟨hx, hb, hml, hown, hts⟩ 0 (mX7_sign l dC dI ad cy hJ r9 r11 qr11) (cwV 0 hts gX7_number_X7_sign rfl rfl rfl dmX7_sign ⟨Nat.le_of_ble_eq_true rfl, Nat.le_of_ble_eq_true rfl⟩) hK hP hS (by decide) (LX7_obj ad cy _) rfl rfl rfl hl.1 (Nat.le_of_ble_eq_true rfl) ⟨Nat.zero_le _, Nat.zero_le _⟩ dX7_number_16 (fun H locs hP hS => ?_)
    refine lv_bipush (v := 48) hx hb dX7_number_19 (by decide) ?_
    refine lv_bipush (v := 57) hx hb dX7_number_21 (by decide) ?_
    obtain ⟨r12, qr12, hf⟩ := bd_some hf
    refine xt_callSi (As := [.int r11, .int 48, .int 57]) (rest := []) ⟨hx, hb, hml, hown, hts⟩ (mX7_in l dC dI ad cy hJ r9 r11 48 57 r12 qr12) (va_cwS 3 hts gX7_number_X7_in rfl rfl rfl dmX7_in ⟨Nat.le_of_ble_eq_true rfl, Nat.le_of_ble_eq_true rfl⟩) hK hP hS rfl rfl hl.1 (Nat.le_of_ble_eq_true rfl) ⟨Nat.zero_le _, Nat.zero_le _⟩ dX7_number_23 (fun H locs hP hS => ?_)
    refine lv_if_ne (tgt := 39) hx hb dX7_number_26 (by decide) (fun c13 => ?_) (fun c13 => ?_)
    · have hf := (if_neg c13).symm.trans hf
      refine lv_iconst (v := 0) hx hb dX7_number_39 (by decide) ?_
      refine lv_istore_n (lv' := [(2, .int 0), (0, .ref (ad 0)), (1, .int a1)]) hx hb dX7_number_40 rfl hl (by decide) rfl (fun ls hl => ?_)
      refine lv_iconst (v := 0) hx hb dX7_number_41 (by decide) ?_
      refine lv_istore_n (lv' := [(3, .int 0), (2, .int 0), (0, .ref (ad 0)), (1, .int a1)]) hx hb dX7_number_42 rfl hl (by decide) rfl (fun ls hl => ?_)
      exact loop43 a1 1000 r9 0 0 hf H locs hP hS ls (lv_sub hl [2, 3, 1, 0] rfl)
    · have hf := (if_pos c13).symm.trans hf
      refine lv_aload_n hx hb dX7_number_29 rfl (lv_at hl 0 rfl) ?_
      refine lv_aload_n hx hb dX7_number_30 rfl (lv_at hl 0 rfl) ?_
      refine xt_get (ci := 7) (C := RX7) (T := TX7) (n := 25) (v := .int (r9 0 19)) hx hb hts iX7_number_X7 hown hK hP 0 (by decide) (LX7_obj ad cy _) rfl 19 (by decide) w2 rfl dX7_number_31 ?_
      refine xt_put (ci := 7) (C := RX7) (T := TX7) (n := 25) hx hb hts iX7_number_X7 tyX7 tyX7_ok nmX7 hown hK hP hJ hS 0 (by decide) (LX7_obj ad cy _) rfl 20 (by decide) w1 rfl (v := (r9 0 19)) rfl rfl (Nat.le_of_ble_eq_true rfl) (LX7_obj ad cy _) dX7_number_34 (fun H locs hP hS => ?_)
      obtain ⟨σ14, eσ14⟩ : ∃ z : St, z = su r9 0 20 (r9 0 19) := ⟨_, rfl⟩
      rw [← eσ14] at hP
      have hf := nm_to hf eσ14
      refine lv_iconst (v := 0) hx hb dX7_number_37 (by decide) ?_
      exact xt_iret hx hb hr hP hS (rs_1 hf) (rs_2 hf) dX7_number_38 hlocks
  · have hf := (if_neg c10).symm.trans hf
    refine lv_iconst (v := 0) hx hb dX7_number_13 (by decide) ?_
    exact xt_iret hx hb hr hP hS (rs_1 hf) (rs_2 hf) dX7_number_14 hlocks
def fX7_word (σ : St) (a1 : Int32) : Option (Int32 × St) :=
  if a1 = 99 then (bd (fX7_signs σ 108 111 115) fun r2 => bd (fX7_needs r2 101) fun r3 => some (a1, r3)) else (if a1 = 103 then (bd (fX7_signs σ 111 110 101) fun r5 => some (a1, r5)) else (if a1 = 108 then (bd (fX7_signs σ 111 97 100) fun r7 => some (a1, r7)) else (if a1 = 111 then (bd (fX7_signs σ 112 101 110) fun r9 => some (a1, r9)) else (if a1 = 112 then (bd (fX7_signs σ 105 101 114) fun r11 => some (a1, r11)) else (if a1 = 119 then (bd (fX7_signs σ 101 105 103) fun r13 => bd (fX7_needs r13 104) fun r14 => some (a1, r14)) else (bd (fX7_sign σ) fun r15 => if r15 = (101 : Int32) then (bd (fX7_signs σ 101 114 116) fun r19 => bd (fX7_needs r19 104) fun r20 => some (116, r20)) else (bd (fX7_signs σ 97 114 103) fun r17 => bd (fX7_needs r17 101) fun r18 => some (98, r18))))))))
abbrev rmX7_word : Room := { frames := 3, cells := 0, slots := 0, locals := 64 }
theorem dmX7_word : yX7_word.cls = RX7 ∧ yX7_word.cls ≠ "java/lang/invoke/MethodHandle" ∧ yX7_word.cls ≠ "java/lang/invoke/VarHandle" ∧ (parseMethodDescriptor yX7_word.desc).map (fun d => d.parameters.length) = some 1 := by decide +kernel
set_option maxHeartbeats 8000000 in
set_option maxRecDepth 100000 in
theorem mX7_word (l : Launch) (dC : Nat → ClassId) (dI : Nat → Nat → Nat) (ad : Nat → Nat) (cy : Nat → ClassId) (hJ : WJ 16 ad) (σ : St) (a1 : Int32) (res : (Int32 × St)) (hf : fX7_word σ a1 = some res) : CMi l yX7_word wsX7_word rmX7_word (dC, dI) (tysX cy) 16 ad (layM ad cy) [.ref (ad 0), .int a1] σ res.1 res.2 := by
  refine Met.ofW (cc := cX7_word) (maxL := 2) (ret := (some .int)) (by decide) rfl ?_
  intro p e s m args below meth c s₁ B hml hv
  obtain ⟨hargs, hP, hK⟩ := hv
  have hx := B.exec
  have hb := B.bytes
  have hr := B.returns
  have hts := atoms_spec (ws := wsX7_word) B.pre
  have hown : s.vm.findClass RX7 = some m.cls := findClass_of_methodNamed B.named
  have hlocks := B.notSynchronized
  have hS : va_S (WA 16 ad) s.heap s.heap [] := va_S.rf
  have hfr : entryFrame m args 2 = F0 m 0 ((lg_sl [.ref (ad 0), .int a1] ++ List.replicate (2 - (lg_sl [.ref (ad 0), .int a1]).length) Slot.unset).toArray) [] := by rw [hargs]; exact lg_entry_eq _ _ _
  rw [hfr]
  have hl := lv_entry ([.ref (ad 0), .int a1]) (n := 2) (Nat.le_of_ble_eq_true rfl)
  generalize (lg_sl [.ref (ad 0), .int a1] ++ List.replicate (2 - (lg_sl [.ref (ad 0), .int a1]).length) Slot.unset).toArray = ls at hl ⊢
  have hl : lv_has ls 2 [(0, .ref (ad 0)), (1, .int a1)] := hl
  clear hfr hargs B
  show W p l e rmX7_word s m args below meth c s.heap [] 0 0 (MQ below (Qiw (dC, dI) 16 ad (layM ad cy) res.1 res.2) args s 0 0 (WA 16 ad)) (F0 m 0 ls [])
  unfold fX7_word at hf
  obtain ⟨H, eH⟩ : ∃ H : Heap, H = s.heap := ⟨_, rfl⟩
  rw [← eH] at hP
  have hS : va_S (WA 16 ad) s.heap H [] := by rw [eH]; exact hS
  suffices K : W p l e rmX7_word s m args below meth c H [] 0 0 (MQ below (Qiw (dC, dI) 16 ad (layM ad cy) res.1 res.2) args s 0 0 (WA 16 ad)) (F0 m 0 ls []) by rw [eH] at K; exact K
  clear eH
  obtain ⟨locs, elocs⟩ : ∃ z : List Loc, z = [] := ⟨_, rfl⟩
  rw [← elocs] at hS ⊢
  refine lv_iload_n hx hb dX7_word_0 rfl (lv_at hl 1 rfl) ?_
  by_cases c1 : a1 = 99
  · have hf := (if_pos c1).symm.trans hf
    refine lv_lookup (tgt := 72) (off := 71) hx hb dX7_word_1 (by decide) (by rw [c1]; decide) (by decide) ?_
    refine lv_aload_n hx hb dX7_word_72 rfl (lv_at hl 0 rfl) ?_
    refine lv_bipush (v := 108) hx hb dX7_word_73 (by decide) ?_
    refine lv_bipush (v := 111) hx hb dX7_word_75 (by decide) ?_
    refine lv_bipush (v := 115) hx hb dX7_word_77 (by decide) ?_
    obtain ⟨r2, qr2, hf⟩ := bd_some hf
    refine xt_callVv (As := [.int 108, .int 111, .int 115]) (rest := []) (C := RX7) (ci := 7) ⟨hx, hb, hml, hown, hts⟩ 0 (mX7_signs l dC dI ad cy hJ σ 108 111 115 r2 qr2) (cwV 3 hts gX7_word_X7_signs rfl rfl rfl dmX7_signs ⟨Nat.le_of_ble_eq_true rfl, Nat.le_of_ble_eq_true rfl⟩) hK hP hS (by decide) (LX7_obj ad cy _) rfl rfl rfl hl.1 (Nat.le_of_ble_eq_true rfl) ⟨Nat.zero_le _, Nat.zero_le _⟩ dX7_word_79 (fun H locs hP hS => ?_)
    refine lv_aload_n hx hb dX7_word_82 rfl (lv_at hl 0 rfl) ?_
    refine lv_bipush (v := 101) hx hb dX7_word_83 (by decide) ?_
    obtain ⟨r3, qr3, hf⟩ := bd_some hf
    refine xt_callVv (As := [.int 101]) (rest := []) (C := RX7) (ci := 7) ⟨hx, hb, hml, hown, hts⟩ 0 (mX7_needs l dC dI ad cy hJ r2 101 r3 qr3) (cwV 1 hts gX7_word_X7_needs rfl rfl rfl dmX7_needs ⟨Nat.le_of_ble_eq_true rfl, Nat.le_of_ble_eq_true rfl⟩) hK hP hS (by decide) (LX7_obj ad cy _) rfl rfl rfl hl.1 (Nat.le_of_ble_eq_true rfl) ⟨Nat.zero_le _, Nat.zero_le _⟩ dX7_word_85 (fun H locs hP hS => ?_)
    refine lv_iload_n hx hb dX7_word_88 rfl (lv_at hl 1 rfl) ?_
    exact xt_iret hx hb hr hP hS (rs_1 hf) (rs_2 hf) dX7_word_89 hlocks
  · have hf := (if_neg c1).symm.trans hf
    by_cases c4 : a1 = 103
    · have hf := (if_pos c4).symm.trans hf
      refine lv_lookup (tgt := 120) (off := 119) hx hb dX7_word_1 (by decide) (by rw [c4]; decide) (by decide) ?_
      refine lv_aload_n hx hb dX7_word_120 rfl (lv_at hl 0 rfl) ?_
      refine lv_bipush (v := 111) hx hb dX7_word_121 (by decide) ?_
      refine lv_bipush (v := 110) hx hb dX7_word_123 (by decide) ?_
      refine lv_bipush (v := 101) hx hb dX7_word_125 (by decide) ?_
      obtain ⟨r5, qr5, hf⟩ := bd_some hf
      refine xt_callVv (As := [.int 111, .int 110, .int 101]) (rest := []) (C := RX7) (ci := 7) ⟨hx, hb, hml, hown, hts⟩ 0 (mX7_signs l dC dI ad cy hJ σ 111 110 101 r5 qr5) (cwV 3 hts gX7_word_X7_signs rfl rfl rfl dmX7_signs ⟨Nat.le_of_ble_eq_true rfl, Nat.le_of_ble_eq_true rfl⟩) hK hP hS (by decide) (LX7_obj ad cy _) rfl rfl rfl hl.1 (Nat.le_of_ble_eq_true rfl) ⟨Nat.zero_le _, Nat.zero_le _⟩ dX7_word_127 (fun H locs hP hS => ?_)
      refine lv_iload_n hx hb dX7_word_130 rfl (lv_at hl 1 rfl) ?_
      exact xt_iret hx hb hr hP hS (rs_1 hf) (rs_2 hf) dX7_word_131 hlocks
    · have hf := (if_neg c4).symm.trans hf
      by_cases c6 : a1 = 108
      · have hf := (if_pos c6).symm.trans hf
        refine lv_lookup (tgt := 132) (off := 131) hx hb dX7_word_1 (by decide) (by rw [c6]; decide) (by decide) ?_
        refine lv_aload_n hx hb dX7_word_132 rfl (lv_at hl 0 rfl) ?_
        refine lv_bipush (v := 111) hx hb dX7_word_133 (by decide) ?_
        refine lv_bipush (v := 97) hx hb dX7_word_135 (by decide) ?_
        refine lv_bipush (v := 100) hx hb dX7_word_137 (by decide) ?_
        obtain ⟨r7, qr7, hf⟩ := bd_some hf
        refine xt_callVv (As := [.int 111, .int 97, .int 100]) (rest := []) (C := RX7) (ci := 7) ⟨hx, hb, hml, hown, hts⟩ 0 (mX7_signs l dC dI ad cy hJ σ 111 97 100 r7 qr7) (cwV 3 hts gX7_word_X7_signs rfl rfl rfl dmX7_signs ⟨Nat.le_of_ble_eq_true rfl, Nat.le_of_ble_eq_true rfl⟩) hK hP hS (by decide) (LX7_obj ad cy _) rfl rfl rfl hl.1 (Nat.le_of_ble_eq_true rfl) ⟨Nat.zero_le _, Nat.zero_le _⟩ dX7_word_139 (fun H locs hP hS => ?_)
        refine lv_iload_n hx hb dX7_word_142 rfl (lv_at hl 1 rfl) ?_
        exact xt_iret hx hb hr hP hS (rs_1 hf) (rs_2 hf) dX7_word_143 hlocks
      · have hf := (if_neg c6).symm.trans hf
        by_cases c8 : a1 = 111
        · have hf := (if_pos c8).symm.trans hf
          refine lv_lookup (tgt := 90) (off := 89) hx hb dX7_word_1 (by decide) (by rw [c8]; decide) (by decide) ?_
          refine lv_aload_n hx hb dX7_word_90 rfl (lv_at hl 0 rfl) ?_
          refine lv_bipush (v := 112) hx hb dX7_word_91 (by decide) ?_
          refine lv_bipush (v := 101) hx hb dX7_word_93 (by decide) ?_
          refine lv_bipush (v := 110) hx hb dX7_word_95 (by decide) ?_
          obtain ⟨r9, qr9, hf⟩ := bd_some hf
          refine xt_callVv (As := [.int 112, .int 101, .int 110]) (rest := []) (C := RX7) (ci := 7) ⟨hx, hb, hml, hown, hts⟩ 0 (mX7_signs l dC dI ad cy hJ σ 112 101 110 r9 qr9) (cwV 3 hts gX7_word_X7_signs rfl rfl rfl dmX7_signs ⟨Nat.le_of_ble_eq_true rfl, Nat.le_of_ble_eq_true rfl⟩) hK hP hS (by decide) (LX7_obj ad cy _) rfl rfl rfl hl.1 (Nat.le_of_ble_eq_true rfl) ⟨Nat.zero_le _, Nat.zero_le _⟩ dX7_word_97 (fun H locs hP hS => ?_)
          refine lv_iload_n hx hb dX7_word_100 rfl (lv_at hl 1 rfl) ?_
          exact xt_iret hx hb hr hP hS (rs_1 hf) (rs_2 hf) dX7_word_101 hlocks
        · have hf := (if_neg c8).symm.trans hf
          by_cases c10 : a1 = 112
          · have hf := (if_pos c10).symm.trans hf
            refine lv_lookup (tgt := 60) (off := 59) hx hb dX7_word_1 (by decide) (by rw [c10]; decide) (by decide) ?_
            refine lv_aload_n hx hb dX7_word_60 rfl (lv_at hl 0 rfl) ?_
            refine lv_bipush (v := 105) hx hb dX7_word_61 (by decide) ?_
            refine lv_bipush (v := 101) hx hb dX7_word_63 (by decide) ?_
            refine lv_bipush (v := 114) hx hb dX7_word_65 (by decide) ?_
            obtain ⟨r11, qr11, hf⟩ := bd_some hf
            refine xt_callVv (As := [.int 105, .int 101, .int 114]) (rest := []) (C := RX7) (ci := 7) ⟨hx, hb, hml, hown, hts⟩ 0 (mX7_signs l dC dI ad cy hJ σ 105 101 114 r11 qr11) (cwV 3 hts gX7_word_X7_signs rfl rfl rfl dmX7_signs ⟨Nat.le_of_ble_eq_true rfl, Nat.le_of_ble_eq_true rfl⟩) hK hP hS (by decide) (LX7_obj ad cy _) rfl rfl rfl hl.1 (Nat.le_of_ble_eq_true rfl) ⟨Nat.zero_le _, Nat.zero_le _⟩ dX7_word_67 (fun H locs hP hS => ?_)
            refine lv_iload_n hx hb dX7_word_70 rfl (lv_at hl 1 rfl) ?_
            exact xt_iret hx hb hr hP hS (rs_1 hf) (rs_2 hf) dX7_word_71 hlocks
          · have hf := (if_neg c10).symm.trans hf
            by_cases c12 : a1 = 119
            · have hf := (if_pos c12).symm.trans hf
              refine lv_lookup (tgt := 102) (off := 101) hx hb dX7_word_1 (by decide) (by rw [c12]; decide) (by decide) ?_
              refine lv_aload_n hx hb dX7_word_102 rfl (lv_at hl 0 rfl) ?_
              refine lv_bipush (v := 101) hx hb dX7_word_103 (by decide) ?_
              refine lv_bipush (v := 105) hx hb dX7_word_105 (by decide) ?_
              refine lv_bipush (v := 103) hx hb dX7_word_107 (by decide) ?_
              obtain ⟨r13, qr13, hf⟩ := bd_some hf
              refine xt_callVv (As := [.int 101, .int 105, .int 103]) (rest := []) (C := RX7) (ci := 7) ⟨hx, hb, hml, hown, hts⟩ 0 (mX7_signs l dC dI ad cy hJ σ 101 105 103 r13 qr13) (cwV 3 hts gX7_word_X7_signs rfl rfl rfl dmX7_signs ⟨Nat.le_of_ble_eq_true rfl, Nat.le_of_ble_eq_true rfl⟩) hK hP hS (by decide) (LX7_obj ad cy _) rfl rfl rfl hl.1 (Nat.le_of_ble_eq_true rfl) ⟨Nat.zero_le _, Nat.zero_le _⟩ dX7_word_109 (fun H locs hP hS => ?_)
              refine lv_aload_n hx hb dX7_word_112 rfl (lv_at hl 0 rfl) ?_
              refine lv_bipush (v := 104) hx hb dX7_word_113 (by decide) ?_
              obtain ⟨r14, qr14, hf⟩ := bd_some hf
              refine xt_callVv (As := [.int 104]) (rest := []) (C := RX7) (ci := 7) ⟨hx, hb, hml, hown, hts⟩ 0 (mX7_needs l dC dI ad cy hJ r13 104 r14 qr14) (cwV 1 hts gX7_word_X7_needs rfl rfl rfl dmX7_needs ⟨Nat.le_of_ble_eq_true rfl, Nat.le_of_ble_eq_true rfl⟩) hK hP hS (by decide) (LX7_obj ad cy _) rfl rfl rfl hl.1 (Nat.le_of_ble_eq_true rfl) ⟨Nat.zero_le _, Nat.zero_le _⟩ dX7_word_115 (fun H locs hP hS => ?_)
              refine lv_iload_n hx hb dX7_word_118 rfl (lv_at hl 1 rfl) ?_
              exact xt_iret hx hb hr hP hS (rs_1 hf) (rs_2 hf) dX7_word_119 hlocks
            · have hf := (if_neg c12).symm.trans hf
              refine lv_lookup (tgt := 144) (off := 143) hx hb dX7_word_1 (by decide) (by show Op.lookupswitch.offset [(99, 71), (103, 119), (108, 131), (111, 89), (112, 59), (119, 101)] 143 (Int32.toInt a1) = 143; rw [lv_osw c1 (show Int32.toInt 99 = 99 by decide), lv_osw c4 (show Int32.toInt 103 = 103 by decide), lv_osw c6 (show Int32.toInt 108 = 108 by decide), lv_osw c8 (show Int32.toInt 111 = 111 by decide), lv_osw c10 (show Int32.toInt 112 = 112 by decide), lv_osw c12 (show Int32.toInt 119 = 119 by decide)]; rfl) (by decide) ?_
              refine lv_aload_n hx hb dX7_word_144 rfl (lv_at hl 0 rfl) ?_
              obtain ⟨r15, qr15, hf⟩ := bd_some hf
              refine xt_callVi (As := []) (rest := []) (C := RX7) (ci := 7) ⟨hx, hb, hml, hown, hts⟩ 0 (mX7_sign l dC dI ad cy hJ σ r15 qr15) (cwV 0 hts gX7_word_X7_sign rfl rfl rfl dmX7_sign ⟨Nat.le_of_ble_eq_true rfl, Nat.le_of_ble_eq_true rfl⟩) hK hP hS (by decide) (LX7_obj ad cy _) rfl rfl rfl hl.1 (Nat.le_of_ble_eq_true rfl) ⟨Nat.zero_le _, Nat.zero_le _⟩ dX7_word_145 (fun H locs hP hS => ?_)
              refine lv_bipush (v := 101) hx hb dX7_word_148 (by decide) ?_
              refine lv_icmp_ne (tgt := 172) hx hb dX7_word_150 (by decide) (fun c16 => ?_) (fun c16 => ?_)
              · have hf := (if_neg c16).symm.trans hf
                refine lv_aload_n hx hb dX7_word_172 rfl (lv_at hl 0 rfl) ?_
                refine lv_bipush (v := 97) hx hb dX7_word_173 (by decide) ?_
                refine lv_bipush (v := 114) hx hb dX7_word_175 (by decide) ?_
                refine lv_bipush (v := 103) hx hb dX7_word_177 (by decide) ?_
                obtain ⟨r17, qr17, hf⟩ := bd_some hf
                refine xt_callVv (As := [.int 97, .int 114, .int 103]) (rest := []) (C := RX7) (ci := 7) ⟨hx, hb, hml, hown, hts⟩ 0 (mX7_signs l dC dI ad cy hJ σ 97 114 103 r17 qr17) (cwV 3 hts gX7_word_X7_signs rfl rfl rfl dmX7_signs ⟨Nat.le_of_ble_eq_true rfl, Nat.le_of_ble_eq_true rfl⟩) hK hP hS (by decide) (LX7_obj ad cy _) rfl rfl rfl hl.1 (Nat.le_of_ble_eq_true rfl) ⟨Nat.zero_le _, Nat.zero_le _⟩ dX7_word_179 (fun H locs hP hS => ?_)
                refine lv_aload_n hx hb dX7_word_182 rfl (lv_at hl 0 rfl) ?_
                refine lv_bipush (v := 101) hx hb dX7_word_183 (by decide) ?_
                obtain ⟨r18, qr18, hf⟩ := bd_some hf
                refine xt_callVv (As := [.int 101]) (rest := []) (C := RX7) (ci := 7) ⟨hx, hb, hml, hown, hts⟩ 0 (mX7_needs l dC dI ad cy hJ r17 101 r18 qr18) (cwV 1 hts gX7_word_X7_needs rfl rfl rfl dmX7_needs ⟨Nat.le_of_ble_eq_true rfl, Nat.le_of_ble_eq_true rfl⟩) hK hP hS (by decide) (LX7_obj ad cy _) rfl rfl rfl hl.1 (Nat.le_of_ble_eq_true rfl) ⟨Nat.zero_le _, Nat.zero_le _⟩ dX7_word_185 (fun H locs hP hS => ?_)
                refine lv_bipush (v := 98) hx hb dX7_word_188 (by decide) ?_
                exact xt_iret hx hb hr hP hS (rs_1 hf) (rs_2 hf) dX7_word_190 hlocks
              · have hf := (if_pos c16).symm.trans hf
                refine lv_aload_n hx hb dX7_word_153 rfl (lv_at hl 0 rfl) ?_
                refine lv_bipush (v := 101) hx hb dX7_word_154 (by decide) ?_
                refine lv_bipush (v := 114) hx hb dX7_word_156 (by decide) ?_
                refine lv_bipush (v := 116) hx hb dX7_word_158 (by decide) ?_
                obtain ⟨r19, qr19, hf⟩ := bd_some hf
                refine xt_callVv (As := [.int 101, .int 114, .int 116]) (rest := []) (C := RX7) (ci := 7) ⟨hx, hb, hml, hown, hts⟩ 0 (mX7_signs l dC dI ad cy hJ σ 101 114 116 r19 qr19) (cwV 3 hts gX7_word_X7_signs rfl rfl rfl dmX7_signs ⟨Nat.le_of_ble_eq_true rfl, Nat.le_of_ble_eq_true rfl⟩) hK hP hS (by decide) (LX7_obj ad cy _) rfl rfl rfl hl.1 (Nat.le_of_ble_eq_true rfl) ⟨Nat.zero_le _, Nat.zero_le _⟩ dX7_word_160 (fun H locs hP hS => ?_)
                refine lv_aload_n hx hb dX7_word_163 rfl (lv_at hl 0 rfl) ?_
                refine lv_bipush (v := 104) hx hb dX7_word_164 (by decide) ?_
                obtain ⟨r20, qr20, hf⟩ := bd_some hf
                refine xt_callVv (As := [.int 104]) (rest := []) (C := RX7) (ci := 7) ⟨hx, hb, hml, hown, hts⟩ 0 (mX7_needs l dC dI ad cy hJ r19 104 r20 qr20) (cwV 1 hts gX7_word_X7_needs rfl rfl rfl dmX7_needs ⟨Nat.le_of_ble_eq_true rfl, Nat.le_of_ble_eq_true rfl⟩) hK hP hS (by decide) (LX7_obj ad cy _) rfl rfl rfl hl.1 (Nat.le_of_ble_eq_true rfl) ⟨Nat.zero_le _, Nat.zero_le _⟩ dX7_word_166 (fun H locs hP hS => ?_)
                refine lv_bipush (v := 116) hx hb dX7_word_169 (by decide) ?_
                exact xt_iret hx hb hr hP hS (rs_1 hf) (rs_2 hf) dX7_word_171 hlocks
def fX7_digitsOf (σ : St) (a0 : Int32) (a1 : Int32) : Option Int32 :=
  if a1 = 0 then (if a0 = (98 : Int32) then (some (4 : Int32)) else (if a0 = (116 : Int32) then (some (3 : Int32)) else (if a0 = (103 : Int32) then (some (2 : Int32)) else (if a0 = (108 : Int32) then (some (2 : Int32)) else (some (1 : Int32)))))) else (if a0 = (119 : Int32) then (some (1 : Int32)) else (if a0 = (98 : Int32) then (some (2 : Int32)) else (if a0 = (108 : Int32) then (some (2 : Int32)) else (some (0 : Int32)))))
abbrev rmX7_digitsOf : Room := { frames := 0, cells := 0, slots := 0, locals := 0 }
theorem dmX7_digitsOf : yX7_digitsOf.cls ≠ "java/lang/invoke/MethodHandle" ∧ yX7_digitsOf.cls ≠ "java/lang/invoke/VarHandle" ∧ (parseMethodDescriptor yX7_digitsOf.desc).map (fun d => d.parameters.length) = some 2 := by decide +kernel
set_option maxHeartbeats 8000000 in
set_option maxRecDepth 100000 in
theorem mX7_digitsOf (l : Launch) (dC : Nat → ClassId) (dI : Nat → Nat → Nat) (ad : Nat → Nat) (cy : Nat → ClassId) (hJ : WJ 16 ad) (σ : St) (a0 : Int32) (a1 : Int32) (res : Int32) (hf : fX7_digitsOf σ a0 a1 = some res) : CMi l yX7_digitsOf wsX7_digitsOf rmX7_digitsOf (dC, dI) (tysX cy) 16 ad (layM ad cy) [.int a0, .int a1] σ res σ := by
  refine Met.ofW (cc := cX7_digitsOf) (maxL := 2) (ret := (some .int)) (by decide) rfl ?_
  intro p e s m args below meth c s₁ B hml hv
  obtain ⟨hargs, hP, hK⟩ := hv
  have hx := B.exec
  have hb := B.bytes
  have hr := B.returns
  have hts := atoms_spec (ws := wsX7_digitsOf) B.pre
  have hown : s.vm.findClass RX7 = some m.cls := findClass_of_methodNamed B.named
  have hlocks := B.notSynchronized
  have hS : va_S (WA 16 ad) s.heap s.heap [] := va_S.rf
  have hfr : entryFrame m args 2 = F0 m 0 ((lg_sl [.int a0, .int a1] ++ List.replicate (2 - (lg_sl [.int a0, .int a1]).length) Slot.unset).toArray) [] := by rw [hargs]; exact lg_entry_eq _ _ _
  rw [hfr]
  have hl := lv_entry ([.int a0, .int a1]) (n := 2) (Nat.le_of_ble_eq_true rfl)
  generalize (lg_sl [.int a0, .int a1] ++ List.replicate (2 - (lg_sl [.int a0, .int a1]).length) Slot.unset).toArray = ls at hl ⊢
  have hl : lv_has ls 2 [(0, .int a0), (1, .int a1)] := hl
  clear hfr hargs B
  show W p l e rmX7_digitsOf s m args below meth c s.heap [] 0 0 (MQ below (Qiw (dC, dI) 16 ad (layM ad cy) res σ) args s 0 0 (WA 16 ad)) (F0 m 0 ls [])
  unfold fX7_digitsOf at hf
  obtain ⟨H, eH⟩ : ∃ H : Heap, H = s.heap := ⟨_, rfl⟩
  rw [← eH] at hP
  have hS : va_S (WA 16 ad) s.heap H [] := by rw [eH]; exact hS
  suffices K : W p l e rmX7_digitsOf s m args below meth c H [] 0 0 (MQ below (Qiw (dC, dI) 16 ad (layM ad cy) res σ) args s 0 0 (WA 16 ad)) (F0 m 0 ls []) by rw [eH] at K; exact K
  clear eH
  obtain ⟨locs, elocs⟩ : ∃ z : List Loc, z = [] := ⟨_, rfl⟩
  rw [← elocs] at hS ⊢
  refine lv_iload_n hx hb dX7_digitsOf_0 rfl (lv_at hl 1 rfl) ?_
  refine lv_if_eq (tgt := 32) hx hb dX7_digitsOf_1 (by decide) (fun c1 => ?_) (fun c1 => ?_)
  · have hf := (if_pos c1).symm.trans hf
    refine lv_iload_n hx hb dX7_digitsOf_32 rfl (lv_at hl 0 rfl) ?_
    refine lv_bipush (v := 98) hx hb dX7_digitsOf_33 (by decide) ?_
    refine lv_icmp_ne (tgt := 42) hx hb dX7_digitsOf_35 (by decide) (fun c2 => ?_) (fun c2 => ?_)
    · have hf := (if_neg c2).symm.trans hf
      refine lv_iload_n hx hb dX7_digitsOf_42 rfl (lv_at hl 0 rfl) ?_
      refine lv_bipush (v := 116) hx hb dX7_digitsOf_43 (by decide) ?_
      refine lv_icmp_ne (tgt := 52) hx hb dX7_digitsOf_45 (by decide) (fun c3 => ?_) (fun c3 => ?_)
      · have hf := (if_neg c3).symm.trans hf
        refine lv_iload_n hx hb dX7_digitsOf_52 rfl (lv_at hl 0 rfl) ?_
        refine lv_bipush (v := 103) hx hb dX7_digitsOf_53 (by decide) ?_
        refine lv_icmp_eq (tgt := 64) hx hb dX7_digitsOf_55 (by decide) (fun c4 => ?_) (fun c4 => ?_)
        · have hf := (if_pos c4).symm.trans hf
          refine lv_iconst (v := 2) hx hb dX7_digitsOf_64 (by decide) ?_
          refine lv_goto (tgt := 69) hx hb dX7_digitsOf_65 (by decide) ?_
          exact xt_iret hx hb hr hP hS (Option.some.inj hf) rfl dX7_digitsOf_69 hlocks
        · have hf := (if_neg c4).symm.trans hf
          refine lv_iload_n hx hb dX7_digitsOf_58 rfl (lv_at hl 0 rfl) ?_
          refine lv_bipush (v := 108) hx hb dX7_digitsOf_59 (by decide) ?_
          refine lv_icmp_ne (tgt := 68) hx hb dX7_digitsOf_61 (by decide) (fun c5 => ?_) (fun c5 => ?_)
          · have hf := (if_neg c5).symm.trans hf
            refine lv_iconst (v := 1) hx hb dX7_digitsOf_68 (by decide) ?_
            exact xt_iret hx hb hr hP hS (Option.some.inj hf) rfl dX7_digitsOf_69 hlocks
          · have hf := (if_pos c5).symm.trans hf
            refine lv_iconst (v := 2) hx hb dX7_digitsOf_64 (by decide) ?_
            refine lv_goto (tgt := 69) hx hb dX7_digitsOf_65 (by decide) ?_
            exact xt_iret hx hb hr hP hS (Option.some.inj hf) rfl dX7_digitsOf_69 hlocks
      · have hf := (if_pos c3).symm.trans hf
        refine lv_iconst (v := 3) hx hb dX7_digitsOf_48 (by decide) ?_
        refine lv_goto (tgt := 69) hx hb dX7_digitsOf_49 (by decide) ?_
        exact xt_iret hx hb hr hP hS (Option.some.inj hf) rfl dX7_digitsOf_69 hlocks
    · have hf := (if_pos c2).symm.trans hf
      refine lv_iconst (v := 4) hx hb dX7_digitsOf_38 (by decide) ?_
      refine lv_goto (tgt := 69) hx hb dX7_digitsOf_39 (by decide) ?_
      exact xt_iret hx hb hr hP hS (Option.some.inj hf) rfl dX7_digitsOf_69 hlocks
  · have hf := (if_neg c1).symm.trans hf
    refine lv_iload_n hx hb dX7_digitsOf_4 rfl (lv_at hl 0 rfl) ?_
    refine lv_bipush (v := 119) hx hb dX7_digitsOf_5 (by decide) ?_
    refine lv_icmp_ne (tgt := 14) hx hb dX7_digitsOf_7 (by decide) (fun c6 => ?_) (fun c6 => ?_)
    · have hf := (if_neg c6).symm.trans hf
      refine lv_iload_n hx hb dX7_digitsOf_14 rfl (lv_at hl 0 rfl) ?_
      refine lv_bipush (v := 98) hx hb dX7_digitsOf_15 (by decide) ?_
      refine lv_icmp_eq (tgt := 26) hx hb dX7_digitsOf_17 (by decide) (fun c7 => ?_) (fun c7 => ?_)
      · have hf := (if_pos c7).symm.trans hf
        refine lv_iconst (v := 2) hx hb dX7_digitsOf_26 (by decide) ?_
        refine lv_goto (tgt := 31) hx hb dX7_digitsOf_27 (by decide) ?_
        exact xt_iret hx hb hr hP hS (Option.some.inj hf) rfl dX7_digitsOf_31 hlocks
      · have hf := (if_neg c7).symm.trans hf
        refine lv_iload_n hx hb dX7_digitsOf_20 rfl (lv_at hl 0 rfl) ?_
        refine lv_bipush (v := 108) hx hb dX7_digitsOf_21 (by decide) ?_
        refine lv_icmp_ne (tgt := 30) hx hb dX7_digitsOf_23 (by decide) (fun c8 => ?_) (fun c8 => ?_)
        · have hf := (if_neg c8).symm.trans hf
          refine lv_iconst (v := 0) hx hb dX7_digitsOf_30 (by decide) ?_
          exact xt_iret hx hb hr hP hS (Option.some.inj hf) rfl dX7_digitsOf_31 hlocks
        · have hf := (if_pos c8).symm.trans hf
          refine lv_iconst (v := 2) hx hb dX7_digitsOf_26 (by decide) ?_
          refine lv_goto (tgt := 31) hx hb dX7_digitsOf_27 (by decide) ?_
          exact xt_iret hx hb hr hP hS (Option.some.inj hf) rfl dX7_digitsOf_31 hlocks
    · have hf := (if_pos c6).symm.trans hf
      refine lv_iconst (v := 1) hx hb dX7_digitsOf_10 (by decide) ?_
      refine lv_goto (tgt := 31) hx hb dX7_digitsOf_11 (by decide) ?_
      exact xt_iret hx hb hr hP hS (Option.some.inj hf) rfl dX7_digitsOf_31 hlocks
def fX7_command_B80 (σ : St) (x1 : Int32) (x2 : Int32) : Option St :=
  nm (su σ 0 19 ((σ 0 19) + 1)) fun σ1 => bd (fX7_word σ1 x2) fun r2 => gd (okI x1 183) <| nm (su r2.2 14 x1.toNatClampNeg r2.1) fun σ4 => gd (okI x1 183) <| bd (fX7_digitsOf σ4 (σ4 14 x1.toNatClampNeg) 0) fun r6 => bd (fX7_number σ4 r6) fun r7 => gd (okI (x1 + 1) 183) <| nm (su r7.2 14 (x1 + 1).toNatClampNeg r7.1) fun σ9 => gd (okI x1 183) <| bd (fX7_digitsOf σ9 (σ9 14 x1.toNatClampNeg) 1) fun r11 => if r11 = 0 then (gd (okI (x1 + 2) 183) <| nm (su σ9 14 (x1 + 2).toNatClampNeg 0) fun σ19 => some σ19) else (gd (okI x1 183) <| bd (fX7_digitsOf σ9 (σ9 14 x1.toNatClampNeg) 1) fun r14 => bd (fX7_number σ9 r14) fun r15 => gd (okI (x1 + 2) 183) <| nm (su r15.2 14 (x1 + 2).toNatClampNeg r15.1) fun σ17 => some σ17)
def fX7_command (σ : St) : Option St :=
  nm (3 * (σ 0 22)) fun v20 => nm (su σ 0 22 ((σ 0 22) + 1)) fun σ21 => bd (fX7_sign σ21) fun r22 => gd (okI v20 183) <| nm (su σ21 14 v20.toNatClampNeg r22) fun σ24 => if r22 = (112 : Int32) then (fX7_command_B80 σ24 v20 r22) else (if r22 = (99 : Int32) then (fX7_command_B80 σ24 v20 r22) else (if r22 = (111 : Int32) then (fX7_command_B80 σ24 v20 r22) else (if r22 = (119 : Int32) then (fX7_command_B80 σ24 v20 r22) else (if r22 = (103 : Int32) then (fX7_command_B80 σ24 v20 r22) else (if r22 = (108 : Int32) then (fX7_command_B80 σ24 v20 r22) else (if r22 = (98 : Int32) then (fX7_command_B80 σ24 v20 r22) else (nm (su σ24 0 20 (σ24 0 19)) fun σ32 => some σ32)))))))
abbrev rmX7_command : Room := { frames := 4, cells := 0, slots := 0, locals := 85 }
theorem dmX7_command : yX7_command.cls = RX7 ∧ yX7_command.cls ≠ "java/lang/invoke/MethodHandle" ∧ yX7_command.cls ≠ "java/lang/invoke/VarHandle" ∧ (parseMethodDescriptor yX7_command.desc).map (fun d => d.parameters.length) = some 0 := by decide +kernel
theorem iX7_command_X7 : ∀ w ∈ wsX70, w ∈ wsX7_command := fun w h => List.mem_cons_of_mem _ (List.mem_append_right _ (h))
set_option maxHeartbeats 8000000 in
set_option maxRecDepth 100000 in
theorem mX7_command (l : Launch) (dC : Nat → ClassId) (dI : Nat → Nat → Nat) (ad : Nat → Nat) (cy : Nat → ClassId) (hJ : WJ 16 ad) (σ : St) (res : St) (hf : fX7_command σ = some res) : CMv l yX7_command wsX7_command rmX7_command (dC, dI) (tysX cy) 16 ad (layM ad cy) [.ref (ad 0)] σ res := by
  refine Met.ofW (cc := cX7_command) (maxL := 3) (ret := none) (by decide) rfl ?_
  intro p e s m args below meth c s₁ B hml hv
  obtain ⟨hargs, hP, hK⟩ := hv
  have hx := B.exec
  have hb := B.bytes
  have hr := B.returns
  have hts := atoms_spec (ws := wsX7_command) B.pre
  have hown : s.vm.findClass RX7 = some m.cls := findClass_of_methodNamed B.named
  have hlocks := B.notSynchronized
  have w1 := hts (.fieldLink RX7 212 "PierRingsModel" "commandMany" "I") (List.mem_of_getElem? (i := 1) rfl)
  have w2 := hts (.fieldLink RX7 49 "PierRingsModel" "commands" "[I") (List.mem_of_getElem? (i := 2) rfl)
  have w3 := hts (.fieldLink RX7 196 "PierRingsModel" "here" "I") (List.mem_of_getElem? (i := 3) rfl)
  have w4 := hts (.fieldLink RX7 199 "PierRingsModel" "fault" "I") (List.mem_of_getElem? (i := 4) rfl)
  have hS : va_S (WA 16 ad) s.heap s.heap [] := va_S.rf
  have hfr : entryFrame m args 3 = F0 m 0 ((lg_sl [.ref (ad 0)] ++ List.replicate (3 - (lg_sl [.ref (ad 0)]).length) Slot.unset).toArray) [] := by rw [hargs]; exact lg_entry_eq _ _ _
  rw [hfr]
  have hl := lv_entry ([.ref (ad 0)]) (n := 3) (Nat.le_of_ble_eq_true rfl)
  generalize (lg_sl [.ref (ad 0)] ++ List.replicate (3 - (lg_sl [.ref (ad 0)]).length) Slot.unset).toArray = ls at hl ⊢
  have hl : lv_has ls 3 [(0, .ref (ad 0))] := hl
  clear hfr hargs B
  show W p l e rmX7_command s m args below meth c s.heap [] 0 0 (MQ below (Qvw (dC, dI) 16 ad (layM ad cy) res) args s 0 0 (WA 16 ad)) (F0 m 0 ls [])
  have kB80 : ∀ (σ : St) (x1 : Int32) (x2 : Int32), fX7_command_B80 σ x1 x2 = some res → ∀ (H : Heap) (locs : List Loc), va_P (dC, dI) vwCl (wd 16 ad (layM ad cy) σ) H → va_S (WA 16 ad) s.heap H locs → ∀ (ls : Array Slot), lv_has ls 3 [(0, .ref (ad 0)), (1, .int x1), (2, .int x2)] → W p l e rmX7_command s m args below meth c H locs 0 0 (MQ below (Qvw (dC, dI) 16 ad (layM ad cy) res) args s 0 0 (WA 16 ad)) (F0 m 80 ls []) := by
    intro σ x1 x2 hf H locs hP hS ls hl
    unfold fX7_command_B80 at hf
    refine lv_aload_n hx hb dX7_command_80 rfl (lv_at hl 0 rfl) ?_
    refine lv_dup hx hb dX7_command_81 rfl ?_
    refine xt_get (ci := 7) (C := RX7) (T := TX7) (n := 25) (v := .int (σ 0 19)) hx hb hts iX7_command_X7 hown hK hP 0 (by decide) (LX7_obj ad cy _) rfl 19 (by decide) w3 rfl dX7_command_82 ?_
    refine lv_iconst (v := 1) hx hb dX7_command_85 (by decide) ?_
    refine lv_iadd hx hb dX7_command_86 ?_
    refine xt_put (ci := 7) (C := RX7) (T := TX7) (n := 25) hx hb hts iX7_command_X7 tyX7 tyX7_ok nmX7 hown hK hP hJ hS 0 (by decide) (LX7_obj ad cy _) rfl 19 (by decide) w3 rfl (v := ((σ 0 19) + 1)) rfl rfl (Nat.le_of_ble_eq_true rfl) (LX7_obj ad cy _) dX7_command_87 (fun H locs hP hS => ?_)
    obtain ⟨σ1, eσ1⟩ : ∃ z : St, z = su σ 0 19 ((σ 0 19) + 1) := ⟨_, rfl⟩
    rw [← eσ1] at hP
    have hf := nm_to hf eσ1
    refine lv_aload_n hx hb dX7_command_90 rfl (lv_at hl 0 rfl) ?_
    refine xt_get (ci := 7) (C := RX7) (T := TX7) (n := 25) (v := .ref (ad 14)) hx hb hts iX7_command_X7 hown hK hP 0 (by decide) (LX7_obj ad cy _) rfl 21 (by decide) w2 rfl dX7_command_91 ?_
    refine lv_iload_n hx hb dX7_command_94 rfl (lv_at hl 1 rfl) ?_
    refine lv_aload_n hx hb dX7_command_95 rfl (lv_at hl 0 rfl) ?_
    refine lv_iload_n hx hb dX7_command_96 rfl (lv_at hl 2 rfl) ?_
    obtain ⟨r2, qr2, hf⟩ := bd_some hf
    refine xt_callVi (As := [.int x2]) (rest := [.int x1, .ref (ad 14)]) (C := RX7) (ci := 7) ⟨hx, hb, hml, hown, hts⟩ 0 (mX7_word l dC dI ad cy hJ σ1 x2 r2 qr2) (cwV 1 hts gX7_command_X7_word rfl rfl rfl dmX7_word ⟨Nat.le_of_ble_eq_true rfl, Nat.le_of_ble_eq_true rfl⟩) hK hP hS (by decide) (LX7_obj ad cy _) rfl rfl rfl hl.1 (Nat.le_of_ble_eq_true rfl) ⟨Nat.zero_le _, Nat.zero_le _⟩ dX7_command_97 (fun H locs hP hS => ?_)
    obtain ⟨g3, hf⟩ := gd_some hf
    refine xt_iast hx hb hK hP hJ hS 14 (by decide) 0 (LX7_commands ad cy) rfl g3 dX7_command_100 (fun H locs hP hS => ?_)
    obtain ⟨σ4, eσ4⟩ : ∃ z : St, z = su r2.2 14 x1.toNatClampNeg r2.1 := ⟨_, rfl⟩
    rw [← eσ4] at hP
    have hf := nm_to hf eσ4
    refine lv_aload_n hx hb dX7_command_101 rfl (lv_at hl 0 rfl) ?_
    refine xt_get (ci := 7) (C := RX7) (T := TX7) (n := 25) (v := .ref (ad 14)) hx hb hts iX7_command_X7 hown hK hP 0 (by decide) (LX7_obj ad cy _) rfl 21 (by decide) w2 rfl dX7_command_102 ?_
    refine lv_iload_n hx hb dX7_command_105 rfl (lv_at hl 1 rfl) ?_
    refine lv_iconst (v := 1) hx hb dX7_command_106 (by decide) ?_
    refine lv_iadd hx hb dX7_command_107 ?_
    refine lv_aload_n hx hb dX7_command_108 rfl (lv_at hl 0 rfl) ?_
    refine lv_aload_n hx hb dX7_command_109 rfl (lv_at hl 0 rfl) ?_
    refine xt_get (ci := 7) (C := RX7) (T := TX7) (n := 25) (v := .ref (ad 14)) hx hb hts iX7_command_X7 hown hK hP 0 (by decide) (LX7_obj ad cy _) rfl 21 (by decide) w2 rfl dX7_command_110 ?_
    refine lv_iload_n hx hb dX7_command_113 rfl (lv_at hl 1 rfl) ?_
    obtain ⟨g5, hf⟩ := gd_some hf
    refine xt_iald hx hb hK hP 14 (by decide) 0 (LX7_commands ad cy _) rfl g5 dX7_command_114 ?_
    refine lv_iconst (v := 0) hx hb dX7_command_115 (by decide) ?_
    obtain ⟨r6, qr6, hf⟩ := bd_some hf
    refine xt_callSi (As := [.int (σ4 14 x1.toNatClampNeg), .int 0]) (rest := [.ref (ad 0), .int (x1 + 1), .ref (ad 14)]) ⟨hx, hb, hml, hown, hts⟩ (mX7_digitsOf l dC dI ad cy hJ σ4 (σ4 14 x1.toNatClampNeg) 0 r6 qr6) (va_cwS 2 hts gX7_command_X7_digitsOf rfl rfl rfl dmX7_digitsOf ⟨Nat.le_of_ble_eq_true rfl, Nat.le_of_ble_eq_true rfl⟩) hK hP hS rfl rfl hl.1 (Nat.le_of_ble_eq_true rfl) ⟨Nat.zero_le _, Nat.zero_le _⟩ dX7_command_116 (fun H locs hP hS => ?_)
    obtain ⟨r7, qr7, hf⟩ := bd_some hf
    refine xt_callVi (As := [.int r6]) (rest := [.int (x1 + 1), .ref (ad 14)]) (C := RX7) (ci := 7) ⟨hx, hb, hml, hown, hts⟩ 0 (mX7_number l dC dI ad cy hJ σ4 r6 r7 qr7) (cwV 1 hts gX7_command_X7_number rfl rfl rfl dmX7_number ⟨Nat.le_of_ble_eq_true rfl, Nat.le_of_ble_eq_true rfl⟩) hK hP hS (by decide) (LX7_obj ad cy _) rfl rfl rfl hl.1 (Nat.le_of_ble_eq_true rfl) ⟨Nat.zero_le _, Nat.zero_le _⟩ dX7_command_119 (fun H locs hP hS => ?_)
    obtain ⟨g8, hf⟩ := gd_some hf
    refine xt_iast hx hb hK hP hJ hS 14 (by decide) 0 (LX7_commands ad cy) rfl g8 dX7_command_122 (fun H locs hP hS => ?_)
    obtain ⟨σ9, eσ9⟩ : ∃ z : St, z = su r7.2 14 (x1 + 1).toNatClampNeg r7.1 := ⟨_, rfl⟩
    rw [← eσ9] at hP
    have hf := nm_to hf eσ9
    refine lv_aload_n hx hb dX7_command_123 rfl (lv_at hl 0 rfl) ?_
    refine xt_get (ci := 7) (C := RX7) (T := TX7) (n := 25) (v := .ref (ad 14)) hx hb hts iX7_command_X7 hown hK hP 0 (by decide) (LX7_obj ad cy _) rfl 21 (by decide) w2 rfl dX7_command_124 ?_
    refine lv_iload_n hx hb dX7_command_127 rfl (lv_at hl 1 rfl) ?_
    refine lv_iconst (v := 2) hx hb dX7_command_128 (by decide) ?_
    refine lv_iadd hx hb dX7_command_129 ?_
    refine lv_aload_n hx hb dX7_command_130 rfl (lv_at hl 0 rfl) ?_
    refine xt_get (ci := 7) (C := RX7) (T := TX7) (n := 25) (v := .ref (ad 14)) hx hb hts iX7_command_X7 hown hK hP 0 (by decide) (LX7_obj ad cy _) rfl 21 (by decide) w2 rfl dX7_command_131 ?_
    refine lv_iload_n hx hb dX7_command_134 rfl (lv_at hl 1 rfl) ?_
    obtain ⟨g10, hf⟩ := gd_some hf
    refine xt_iald hx hb hK hP 14 (by decide) 0 (LX7_commands ad cy _) rfl g10 dX7_command_135 ?_
    refine lv_iconst (v := 1) hx hb dX7_command_136 (by decide) ?_
    obtain ⟨r11, qr11, hf⟩ := bd_some hf
    refine xt_callSi (As := [.int (σ9 14 x1.toNatClampNeg), .int 1]) (rest := [.int (x1 + 2), .ref (ad 14)]) ⟨hx, hb, hml, hown, hts⟩ (mX7_digitsOf l dC dI ad cy hJ σ9 (σ9 14 x1.toNatClampNeg) 1 r11 qr11) (va_cwS 2 hts gX7_command_X7_digitsOf rfl rfl rfl dmX7_digitsOf ⟨Nat.le_of_ble_eq_true rfl, Nat.le_of_ble_eq_true rfl⟩) hK hP hS rfl rfl hl.1 (Nat.le_of_ble_eq_true rfl) ⟨Nat.zero_le _, Nat.zero_le _⟩ dX7_command_137 (fun H locs hP hS => ?_)
    refine lv_if_ne (tgt := 147) hx hb dX7_command_140 (by decide) (fun c12 => ?_) (fun c12 => ?_)
    · have hf := (if_neg c12).symm.trans hf
      refine lv_aload_n hx hb dX7_command_147 rfl (lv_at hl 0 rfl) ?_
      refine lv_aload_n hx hb dX7_command_148 rfl (lv_at hl 0 rfl) ?_
      refine xt_get (ci := 7) (C := RX7) (T := TX7) (n := 25) (v := .ref (ad 14)) hx hb hts iX7_command_X7 hown hK hP 0 (by decide) (LX7_obj ad cy _) rfl 21 (by decide) w2 rfl dX7_command_149 ?_
      refine lv_iload_n hx hb dX7_command_152 rfl (lv_at hl 1 rfl) ?_
      obtain ⟨g13, hf⟩ := gd_some hf
      refine xt_iald hx hb hK hP 14 (by decide) 0 (LX7_commands ad cy _) rfl g13 dX7_command_153 ?_
      refine lv_iconst (v := 1) hx hb dX7_command_154 (by decide) ?_
      obtain ⟨r14, qr14, hf⟩ := bd_some hf
      refine xt_callSi (As := [.int (σ9 14 x1.toNatClampNeg), .int 1]) (rest := [.ref (ad 0), .int (x1 + 2), .ref (ad 14)]) ⟨hx, hb, hml, hown, hts⟩ (mX7_digitsOf l dC dI ad cy hJ σ9 (σ9 14 x1.toNatClampNeg) 1 r14 qr14) (va_cwS 2 hts gX7_command_X7_digitsOf rfl rfl rfl dmX7_digitsOf ⟨Nat.le_of_ble_eq_true rfl, Nat.le_of_ble_eq_true rfl⟩) hK hP hS rfl rfl hl.1 (Nat.le_of_ble_eq_true rfl) ⟨Nat.zero_le _, Nat.zero_le _⟩ dX7_command_155 (fun H locs hP hS => ?_)
      obtain ⟨r15, qr15, hf⟩ := bd_some hf
      refine xt_callVi (As := [.int r14]) (rest := [.int (x1 + 2), .ref (ad 14)]) (C := RX7) (ci := 7) ⟨hx, hb, hml, hown, hts⟩ 0 (mX7_number l dC dI ad cy hJ σ9 r14 r15 qr15) (cwV 1 hts gX7_command_X7_number rfl rfl rfl dmX7_number ⟨Nat.le_of_ble_eq_true rfl, Nat.le_of_ble_eq_true rfl⟩) hK hP hS (by decide) (LX7_obj ad cy _) rfl rfl rfl hl.1 (Nat.le_of_ble_eq_true rfl) ⟨Nat.zero_le _, Nat.zero_le _⟩ dX7_command_158 (fun H locs hP hS => ?_)
      obtain ⟨g16, hf⟩ := gd_some hf
      refine xt_iast hx hb hK hP hJ hS 14 (by decide) 0 (LX7_commands ad cy) rfl g16 dX7_command_161 (fun H locs hP hS => ?_)
      obtain ⟨σ17, eσ17⟩ : ∃ z : St, z = su r15.2 14 (x1 + 2).toNatClampNeg r15.1 := ⟨_, rfl⟩
      rw [← eσ17] at hP
      have hf := nm_to hf eσ17
      exact xt_vret hx hb hr hP hS (Option.some.inj hf) dX7_command_162 hlocks
    · have hf := (if_pos c12).symm.trans hf
      refine lv_iconst (v := 0) hx hb dX7_command_143 (by decide) ?_
      refine lv_goto (tgt := 161) hx hb dX7_command_144 (by decide) ?_
      obtain ⟨g18, hf⟩ := gd_some hf
      refine xt_iast hx hb hK hP hJ hS 14 (by decide) 0 (LX7_commands ad cy) rfl g18 dX7_command_161 (fun H locs hP hS => ?_)
      obtain ⟨σ19, eσ19⟩ : ∃ z : St, z = su σ9 14 (x1 + 2).toNatClampNeg 0 := ⟨_, rfl⟩
      rw [← eσ19] at hP
      have hf := nm_to hf eσ19
      exact xt_vret hx hb hr hP hS (Option.some.inj hf) dX7_command_162 hlocks
  unfold fX7_command at hf
  obtain ⟨H, eH⟩ : ∃ H : Heap, H = s.heap := ⟨_, rfl⟩
  rw [← eH] at hP
  have hS : va_S (WA 16 ad) s.heap H [] := by rw [eH]; exact hS
  suffices K : W p l e rmX7_command s m args below meth c H [] 0 0 (MQ below (Qvw (dC, dI) 16 ad (layM ad cy) res) args s 0 0 (WA 16 ad)) (F0 m 0 ls []) by rw [eH] at K; exact K
  clear eH
  obtain ⟨locs, elocs⟩ : ∃ z : List Loc, z = [] := ⟨_, rfl⟩
  rw [← elocs] at hS ⊢
  refine lv_iconst (v := 3) hx hb dX7_command_0 (by decide) ?_
  refine lv_aload_n hx hb dX7_command_1 rfl (lv_at hl 0 rfl) ?_
  refine xt_get (ci := 7) (C := RX7) (T := TX7) (n := 25) (v := .int (σ 0 22)) hx hb hts iX7_command_X7 hown hK hP 0 (by decide) (LX7_obj ad cy _) rfl 22 (by decide) w1 rfl dX7_command_2 ?_
  refine lv_imul hx hb dX7_command_5 ?_
  refine lv_topi (fun v20 ev20 => ?_)
  have hf := nm_to hf ev20
  refine lv_istore_n (lv' := [(1, .int v20), (0, .ref (ad 0))]) hx hb dX7_command_6 rfl hl (by decide) rfl (fun ls hl => ?_)
  refine lv_aload_n hx hb dX7_command_7 rfl (lv_at hl 1 rfl) ?_
  refine lv_dup hx hb dX7_command_8 rfl ?_
  refine xt_get (ci := 7) (C := RX7) (T := TX7) (n := 25) (v := .int (σ 0 22)) hx hb hts iX7_command_X7 hown hK hP 0 (by decide) (LX7_obj ad cy _) rfl 22 (by decide) w1 rfl dX7_command_9 ?_
  refine lv_iconst (v := 1) hx hb dX7_command_12 (by decide) ?_
  refine lv_iadd hx hb dX7_command_13 ?_
  refine xt_put (ci := 7) (C := RX7) (T := TX7) (n := 25) hx hb hts iX7_command_X7 tyX7 tyX7_ok nmX7 hown hK hP hJ hS 0 (by decide) (LX7_obj ad cy _) rfl 22 (by decide) w1 rfl (v := ((σ 0 22) + 1)) rfl rfl (Nat.le_of_ble_eq_true rfl) (LX7_obj ad cy _) dX7_command_14 (fun H locs hP hS => ?_)
  obtain ⟨σ21, eσ21⟩ : ∃ z : St, z = su σ 0 22 ((σ 0 22) + 1) := ⟨_, rfl⟩
  rw [← eσ21] at hP
  have hf := nm_to hf eσ21
  refine lv_aload_n hx hb dX7_command_17 rfl (lv_at hl 1 rfl) ?_
  obtain ⟨r22, qr22, hf⟩ := bd_some hf
  refine xt_callVi (As := []) (rest := []) (C := RX7) (ci := 7) ⟨hx, hb, hml, hown, hts⟩ 0 (mX7_sign l dC dI ad cy hJ σ21 r22 qr22) (cwV 0 hts gX7_command_X7_sign rfl rfl rfl dmX7_sign ⟨Nat.le_of_ble_eq_true rfl, Nat.le_of_ble_eq_true rfl⟩) hK hP hS (by decide) (LX7_obj ad cy _) rfl rfl rfl hl.1 (Nat.le_of_ble_eq_true rfl) ⟨Nat.zero_le _, Nat.zero_le _⟩ dX7_command_18 (fun H locs hP hS => ?_)
  refine lv_istore_n (lv' := [(2, .int r22), (1, .int v20), (0, .ref (ad 0))]) hx hb dX7_command_21 rfl hl (by decide) rfl (fun ls hl => ?_)
  refine lv_aload_n hx hb dX7_command_22 rfl (lv_at hl 2 rfl) ?_
  refine xt_get (ci := 7) (C := RX7) (T := TX7) (n := 25) (v := .ref (ad 14)) hx hb hts iX7_command_X7 hown hK hP 0 (by decide) (LX7_obj ad cy _) rfl 21 (by decide) w2 rfl dX7_command_23 ?_
  refine lv_iload_n hx hb dX7_command_26 rfl (lv_at hl 1 rfl) ?_
  refine lv_iload_n hx hb dX7_command_27 rfl (lv_at hl 0 rfl) ?_
  obtain ⟨g23, hf⟩ := gd_some hf
  refine xt_iast hx hb hK hP hJ hS 14 (by decide) 0 (LX7_commands ad cy) rfl g23 dX7_command_28 (fun H locs hP hS => ?_)
  obtain ⟨σ24, eσ24⟩ : ∃ z : St, z = su σ21 14 v20.toNatClampNeg r22 := ⟨_, rfl⟩
  rw [← eσ24] at hP
  have hf := nm_to hf eσ24
  refine lv_iload_n hx hb dX7_command_29 rfl (lv_at hl 0 rfl) ?_
  refine lv_bipush (v := 112) hx hb dX7_command_30 (by decide) ?_
  refine lv_icmp_eq (tgt := 80) hx hb dX7_command_32 (by decide) (fun c25 => ?_) (fun c25 => ?_)
  · have hf := (if_pos c25).symm.trans hf
    exact kB80 σ24 v20 r22 hf H locs hP hS ls (lv_sub hl [2, 1, 0] rfl)
  · have hf := (if_neg c25).symm.trans hf
    refine lv_iload_n hx hb dX7_command_35 rfl (lv_at hl 0 rfl) ?_
    refine lv_bipush (v := 99) hx hb dX7_command_36 (by decide) ?_
    refine lv_icmp_eq (tgt := 80) hx hb dX7_command_38 (by decide) (fun c26 => ?_) (fun c26 => ?_)
    · have hf := (if_pos c26).symm.trans hf
      exact kB80 σ24 v20 r22 hf H locs hP hS ls (lv_sub hl [2, 1, 0] rfl)
    · have hf := (if_neg c26).symm.trans hf
      refine lv_iload_n hx hb dX7_command_41 rfl (lv_at hl 0 rfl) ?_
      refine lv_bipush (v := 111) hx hb dX7_command_42 (by decide) ?_
      refine lv_icmp_eq (tgt := 80) hx hb dX7_command_44 (by decide) (fun c27 => ?_) (fun c27 => ?_)
      · have hf := (if_pos c27).symm.trans hf
        exact kB80 σ24 v20 r22 hf H locs hP hS ls (lv_sub hl [2, 1, 0] rfl)
      · have hf := (if_neg c27).symm.trans hf
        refine lv_iload_n hx hb dX7_command_47 rfl (lv_at hl 0 rfl) ?_
        refine lv_bipush (v := 119) hx hb dX7_command_48 (by decide) ?_
        refine lv_icmp_eq (tgt := 80) hx hb dX7_command_50 (by decide) (fun c28 => ?_) (fun c28 => ?_)
        · have hf := (if_pos c28).symm.trans hf
          exact kB80 σ24 v20 r22 hf H locs hP hS ls (lv_sub hl [2, 1, 0] rfl)
        · have hf := (if_neg c28).symm.trans hf
          refine lv_iload_n hx hb dX7_command_53 rfl (lv_at hl 0 rfl) ?_
          refine lv_bipush (v := 103) hx hb dX7_command_54 (by decide) ?_
          refine lv_icmp_eq (tgt := 80) hx hb dX7_command_56 (by decide) (fun c29 => ?_) (fun c29 => ?_)
          · have hf := (if_pos c29).symm.trans hf
            exact kB80 σ24 v20 r22 hf H locs hP hS ls (lv_sub hl [2, 1, 0] rfl)
          · have hf := (if_neg c29).symm.trans hf
            refine lv_iload_n hx hb dX7_command_59 rfl (lv_at hl 0 rfl) ?_
            refine lv_bipush (v := 108) hx hb dX7_command_60 (by decide) ?_
            refine lv_icmp_eq (tgt := 80) hx hb dX7_command_62 (by decide) (fun c30 => ?_) (fun c30 => ?_)
            · have hf := (if_pos c30).symm.trans hf
              exact kB80 σ24 v20 r22 hf H locs hP hS ls (lv_sub hl [2, 1, 0] rfl)
            · have hf := (if_neg c30).symm.trans hf
              refine lv_iload_n hx hb dX7_command_65 rfl (lv_at hl 0 rfl) ?_
              refine lv_bipush (v := 98) hx hb dX7_command_66 (by decide) ?_
              refine lv_icmp_eq (tgt := 80) hx hb dX7_command_68 (by decide) (fun c31 => ?_) (fun c31 => ?_)
              · have hf := (if_pos c31).symm.trans hf
                exact kB80 σ24 v20 r22 hf H locs hP hS ls (lv_sub hl [2, 1, 0] rfl)
              · have hf := (if_neg c31).symm.trans hf
                refine lv_aload_n hx hb dX7_command_71 rfl (lv_at hl 2 rfl) ?_
                refine lv_aload_n hx hb dX7_command_72 rfl (lv_at hl 2 rfl) ?_
                refine xt_get (ci := 7) (C := RX7) (T := TX7) (n := 25) (v := .int (σ24 0 19)) hx hb hts iX7_command_X7 hown hK hP 0 (by decide) (LX7_obj ad cy _) rfl 19 (by decide) w3 rfl dX7_command_73 ?_
                refine xt_put (ci := 7) (C := RX7) (T := TX7) (n := 25) hx hb hts iX7_command_X7 tyX7 tyX7_ok nmX7 hown hK hP hJ hS 0 (by decide) (LX7_obj ad cy _) rfl 20 (by decide) w4 rfl (v := (σ24 0 19)) rfl rfl (Nat.le_of_ble_eq_true rfl) (LX7_obj ad cy _) dX7_command_76 (fun H locs hP hS => ?_)
                obtain ⟨σ32, eσ32⟩ : ∃ z : St, z = su σ24 0 20 (σ24 0 19) := ⟨_, rfl⟩
                rw [← eσ32] at hP
                have hf := nm_to hf eσ32
                exact xt_vret hx hb hr hP hS (Option.some.inj hf) dX7_command_79 hlocks
def fX7_parse_B52 (σ : St) : Option St :=
  if 0 ≤ (σ 0 20) then (some σ) else (if (σ 0 18) ≤ (σ 0 19) then (some σ) else (nm (su σ 0 20 (σ 0 19)) fun σ3 => some σ3))
def fX7_parse_L19 (K19_52 : St → Option St) : Nat → St → Option St
  | 0, _ => none
  | n19 + 1, σ => if 0 ≤ (σ 0 20) then (K19_52 σ) else (bd (fX7_sign σ) fun r5 => if r5 = (59 : Int32) then (nm (su σ 0 19 ((σ 0 19) + 1)) fun σ7 => bd (fX7_command σ7) fun r8 => (fX7_parse_L19 K19_52 n19) r8) else (K19_52 σ))
def fX7_parse (σ : St) : Option St :=
  nm (su σ 0 19 0) fun σ9 => nm (su σ9 0 20 (-1)) fun σ10 => nm (su σ10 0 22 0) fun σ11 => bd (fX7_command σ11) fun r12 => fX7_parse_L19 (fun σ => fX7_parse_B52 σ) 1000 r12
abbrev rmX7_parse : Room := { frames := 5, cells := 0, slots := 0, locals := 107 }
theorem dmX7_parse : yX7_parse.cls = RX7 ∧ yX7_parse.cls ≠ "java/lang/invoke/MethodHandle" ∧ yX7_parse.cls ≠ "java/lang/invoke/VarHandle" ∧ (parseMethodDescriptor yX7_parse.desc).map (fun d => d.parameters.length) = some 0 := by decide +kernel
theorem iX7_parse_X7 : ∀ w ∈ wsX70, w ∈ wsX7_parse := fun w h => List.mem_cons_of_mem _ (List.mem_append_right _ (h))
set_option maxHeartbeats 8000000 in
set_option maxRecDepth 100000 in
theorem mX7_parse (l : Launch) (dC : Nat → ClassId) (dI : Nat → Nat → Nat) (ad : Nat → Nat) (cy : Nat → ClassId) (hJ : WJ 16 ad) (σ : St) (res : St) (hf : fX7_parse σ = some res) : CMv l yX7_parse wsX7_parse rmX7_parse (dC, dI) (tysX cy) 16 ad (layM ad cy) [.ref (ad 0)] σ res := by
  refine Met.ofW (cc := cX7_parse) (maxL := 1) (ret := none) (by decide) rfl ?_
  intro p e s m args below meth c s₁ B hml hv
  obtain ⟨hargs, hP, hK⟩ := hv
  have hx := B.exec
  have hb := B.bytes
  have hr := B.returns
  have hts := atoms_spec (ws := wsX7_parse) B.pre
  have hown : s.vm.findClass RX7 = some m.cls := findClass_of_methodNamed B.named
  have hlocks := B.notSynchronized
  have w1 := hts (.fieldLink RX7 196 "PierRingsModel" "here" "I") (List.mem_of_getElem? (i := 1) rfl)
  have w2 := hts (.fieldLink RX7 199 "PierRingsModel" "fault" "I") (List.mem_of_getElem? (i := 2) rfl)
  have w3 := hts (.fieldLink RX7 212 "PierRingsModel" "commandMany" "I") (List.mem_of_getElem? (i := 3) rfl)
  have w4 := hts (.fieldLink RX7 193 "PierRingsModel" "textSize" "I") (List.mem_of_getElem? (i := 4) rfl)
  have hS : va_S (WA 16 ad) s.heap s.heap [] := va_S.rf
  have hfr : entryFrame m args 1 = F0 m 0 ((lg_sl [.ref (ad 0)] ++ List.replicate (1 - (lg_sl [.ref (ad 0)]).length) Slot.unset).toArray) [] := by rw [hargs]; exact lg_entry_eq _ _ _
  rw [hfr]
  have hl := lv_entry ([.ref (ad 0)]) (n := 1) (Nat.le_of_ble_eq_true rfl)
  generalize (lg_sl [.ref (ad 0)] ++ List.replicate (1 - (lg_sl [.ref (ad 0)]).length) Slot.unset).toArray = ls at hl ⊢
  have hl : lv_has ls 1 [(0, .ref (ad 0))] := hl
  clear hfr hargs B
  show W p l e rmX7_parse s m args below meth c s.heap [] 0 0 (MQ below (Qvw (dC, dI) 16 ad (layM ad cy) res) args s 0 0 (WA 16 ad)) (F0 m 0 ls [])
  have kB52 : ∀ (σ : St), fX7_parse_B52 σ = some res → ∀ (H : Heap) (locs : List Loc), va_P (dC, dI) vwCl (wd 16 ad (layM ad cy) σ) H → va_S (WA 16 ad) s.heap H locs → ∀ (ls : Array Slot), lv_has ls 1 [(0, .ref (ad 0))] → W p l e rmX7_parse s m args below meth c H locs 0 0 (MQ below (Qvw (dC, dI) 16 ad (layM ad cy) res) args s 0 0 (WA 16 ad)) (F0 m 52 ls []) := by
    intro σ hf H locs hP hS ls hl
    unfold fX7_parse_B52 at hf
    refine lv_aload_n hx hb dX7_parse_52 rfl (lv_at hl 0 rfl) ?_
    refine xt_get (ci := 7) (C := RX7) (T := TX7) (n := 25) (v := .int (σ 0 20)) hx hb hts iX7_parse_X7 hown hK hP 0 (by decide) (LX7_obj ad cy _) rfl 20 (by decide) w2 rfl dX7_parse_53 ?_
    refine lv_if_ge (tgt := 78) hx hb dX7_parse_56 (by decide) (fun c1 => ?_) (fun c1 => ?_)
    · have hf := (if_pos c1).symm.trans hf
      exact xt_vret hx hb hr hP hS (Option.some.inj hf) dX7_parse_78 hlocks
    · have hf := (if_neg c1).symm.trans hf
      refine lv_aload_n hx hb dX7_parse_59 rfl (lv_at hl 0 rfl) ?_
      refine xt_get (ci := 7) (C := RX7) (T := TX7) (n := 25) (v := .int (σ 0 19)) hx hb hts iX7_parse_X7 hown hK hP 0 (by decide) (LX7_obj ad cy _) rfl 19 (by decide) w1 rfl dX7_parse_60 ?_
      refine lv_aload_n hx hb dX7_parse_63 rfl (lv_at hl 0 rfl) ?_
      refine xt_get (ci := 7) (C := RX7) (T := TX7) (n := 25) (v := .int (σ 0 18)) hx hb hts iX7_parse_X7 hown hK hP 0 (by decide) (LX7_obj ad cy _) rfl 18 (by decide) w4 rfl dX7_parse_64 ?_
      refine lv_icmp_ge (tgt := 78) hx hb dX7_parse_67 (by decide) (fun c2 => ?_) (fun c2 => ?_)
      · have hf := (if_pos c2).symm.trans hf
        exact xt_vret hx hb hr hP hS (Option.some.inj hf) dX7_parse_78 hlocks
      · have hf := (if_neg c2).symm.trans hf
        refine lv_aload_n hx hb dX7_parse_70 rfl (lv_at hl 0 rfl) ?_
        refine lv_aload_n hx hb dX7_parse_71 rfl (lv_at hl 0 rfl) ?_
        refine xt_get (ci := 7) (C := RX7) (T := TX7) (n := 25) (v := .int (σ 0 19)) hx hb hts iX7_parse_X7 hown hK hP 0 (by decide) (LX7_obj ad cy _) rfl 19 (by decide) w1 rfl dX7_parse_72 ?_
        refine xt_put (ci := 7) (C := RX7) (T := TX7) (n := 25) hx hb hts iX7_parse_X7 tyX7 tyX7_ok nmX7 hown hK hP hJ hS 0 (by decide) (LX7_obj ad cy _) rfl 20 (by decide) w2 rfl (v := (σ 0 19)) rfl rfl (Nat.le_of_ble_eq_true rfl) (LX7_obj ad cy _) dX7_parse_75 (fun H locs hP hS => ?_)
        obtain ⟨σ3, eσ3⟩ : ∃ z : St, z = su σ 0 20 (σ 0 19) := ⟨_, rfl⟩
        rw [← eσ3] at hP
        have hf := nm_to hf eσ3
        exact xt_vret hx hb hr hP hS (Option.some.inj hf) dX7_parse_78 hlocks
  have loop19 : ∀ (n19 : Nat) (σ : St), fX7_parse_L19 (fun σ => fX7_parse_B52 σ) n19 σ = some res → ∀ (H : Heap) (locs : List Loc), va_P (dC, dI) vwCl (wd 16 ad (layM ad cy) σ) H → va_S (WA 16 ad) s.heap H locs → ∀ (ls : Array Slot), lv_has ls 1 [(0, .ref (ad 0))] → W p l e rmX7_parse s m args below meth c H locs 0 0 (MQ below (Qvw (dC, dI) 16 ad (layM ad cy) res) args s 0 0 (WA 16 ad)) (F0 m 19 ls []) := by
    intro n19
    induction n19 with
    | zero => intro σ hf; simp [fX7_parse_L19] at hf
    | succ n19 ih19 =>
      intro σ hf H locs hP hS ls hl
      rw [fX7_parse_L19] at hf
      refine lv_aload_n hx hb dX7_parse_19 rfl (lv_at hl 0 rfl) ?_
      refine xt_get (ci := 7) (C := RX7) (T := TX7) (n := 25) (v := .int (σ 0 20)) hx hb hts iX7_parse_X7 hown hK hP 0 (by decide) (LX7_obj ad cy _) rfl 20 (by decide) w2 rfl dX7_parse_20 ?_
      refine lv_if_ge (tgt := 52) hx hb dX7_parse_23 (by decide) (fun c4 => ?_) (fun c4 => ?_)
      · have hf := (if_pos c4).symm.trans hf
        exact kB52 σ hf H locs hP hS ls (lv_sub hl [0] rfl)
      · have hf := (if_neg c4).symm.trans hf
        refine lv_aload_n hx hb dX7_parse_26 rfl (lv_at hl 0 rfl) ?_
        obtain ⟨r5, qr5, hf⟩ := bd_some hf
        refine xt_callVi (As := []) (rest := []) (C := RX7) (ci := 7) ⟨hx, hb, hml, hown, hts⟩ 0 (mX7_sign l dC dI ad cy hJ σ r5 qr5) (cwV 0 hts gX7_parse_X7_sign rfl rfl rfl dmX7_sign ⟨Nat.le_of_ble_eq_true rfl, Nat.le_of_ble_eq_true rfl⟩) hK hP hS (by decide) (LX7_obj ad cy _) rfl rfl rfl hl.1 (Nat.le_of_ble_eq_true rfl) ⟨Nat.zero_le _, Nat.zero_le _⟩ dX7_parse_27 (fun H locs hP hS => ?_)
        refine lv_bipush (v := 59) hx hb dX7_parse_30 (by decide) ?_
        refine lv_icmp_ne (tgt := 52) hx hb dX7_parse_32 (by decide) (fun c6 => ?_) (fun c6 => ?_)
        · have hf := (if_neg c6).symm.trans hf
          exact kB52 σ hf H locs hP hS ls (lv_sub hl [0] rfl)
        · have hf := (if_pos c6).symm.trans hf
          refine lv_aload_n hx hb dX7_parse_35 rfl (lv_at hl 0 rfl) ?_
          refine lv_dup hx hb dX7_parse_36 rfl ?_
          refine xt_get (ci := 7) (C := RX7) (T := TX7) (n := 25) (v := .int (σ 0 19)) hx hb hts iX7_parse_X7 hown hK hP 0 (by decide) (LX7_obj ad cy _) rfl 19 (by decide) w1 rfl dX7_parse_37 ?_
          refine lv_iconst (v := 1) hx hb dX7_parse_40 (by decide) ?_
          refine lv_iadd hx hb dX7_parse_41 ?_
          refine xt_put (ci := 7) (C := RX7) (T := TX7) (n := 25) hx hb hts iX7_parse_X7 tyX7 tyX7_ok nmX7 hown hK hP hJ hS 0 (by decide) (LX7_obj ad cy _) rfl 19 (by decide) w1 rfl (v := ((σ 0 19) + 1)) rfl rfl (Nat.le_of_ble_eq_true rfl) (LX7_obj ad cy _) dX7_parse_42 (fun H locs hP hS => ?_)
          obtain ⟨σ7, eσ7⟩ : ∃ z : St, z = su σ 0 19 ((σ 0 19) + 1) := ⟨_, rfl⟩
          rw [← eσ7] at hP
          have hf := nm_to hf eσ7
          refine lv_aload_n hx hb dX7_parse_45 rfl (lv_at hl 0 rfl) ?_
          obtain ⟨r8, qr8, hf⟩ := bd_some hf
          refine xt_callVv (As := []) (rest := []) (C := RX7) (ci := 7) ⟨hx, hb, hml, hown, hts⟩ 0 (mX7_command l dC dI ad cy hJ σ7 r8 qr8) (cwV 0 hts gX7_parse_X7_command rfl rfl rfl dmX7_command ⟨Nat.le_of_ble_eq_true rfl, Nat.le_of_ble_eq_true rfl⟩) hK hP hS (by decide) (LX7_obj ad cy _) rfl rfl rfl hl.1 (Nat.le_of_ble_eq_true rfl) ⟨Nat.zero_le _, Nat.zero_le _⟩ dX7_parse_46 (fun H locs hP hS => ?_)
          refine lv_goto (tgt := 19) hx hb dX7_parse_49 (by decide) ?_
          exact ih19 r8 hf H locs hP hS ls (lv_sub hl [0] rfl)
  unfold fX7_parse at hf
  obtain ⟨H, eH⟩ : ∃ H : Heap, H = s.heap := ⟨_, rfl⟩
  rw [← eH] at hP
  have hS : va_S (WA 16 ad) s.heap H [] := by rw [eH]; exact hS
  suffices K : W p l e rmX7_parse s m args below meth c H [] 0 0 (MQ below (Qvw (dC, dI) 16 ad (layM ad cy) res) args s 0 0 (WA 16 ad)) (F0 m 0 ls []) by rw [eH] at K; exact K
  clear eH
  obtain ⟨locs, elocs⟩ : ∃ z : List Loc, z = [] := ⟨_, rfl⟩
  rw [← elocs] at hS ⊢
  refine lv_aload_n hx hb dX7_parse_0 rfl (lv_at hl 0 rfl) ?_
  refine lv_iconst (v := 0) hx hb dX7_parse_1 (by decide) ?_
  refine xt_put (ci := 7) (C := RX7) (T := TX7) (n := 25) hx hb hts iX7_parse_X7 tyX7 tyX7_ok nmX7 hown hK hP hJ hS 0 (by decide) (LX7_obj ad cy _) rfl 19 (by decide) w1 rfl (v := 0) rfl rfl (Nat.le_of_ble_eq_true rfl) (LX7_obj ad cy _) dX7_parse_2 (fun H locs hP hS => ?_)
  obtain ⟨σ9, eσ9⟩ : ∃ z : St, z = su σ 0 19 0 := ⟨_, rfl⟩
  rw [← eσ9] at hP
  have hf := nm_to hf eσ9
  refine lv_aload_n hx hb dX7_parse_5 rfl (lv_at hl 0 rfl) ?_
  refine lv_iconst (v := (-1)) hx hb dX7_parse_6 (by decide) ?_
  refine xt_put (ci := 7) (C := RX7) (T := TX7) (n := 25) hx hb hts iX7_parse_X7 tyX7 tyX7_ok nmX7 hown hK hP hJ hS 0 (by decide) (LX7_obj ad cy _) rfl 20 (by decide) w2 rfl (v := (-1)) rfl rfl (Nat.le_of_ble_eq_true rfl) (LX7_obj ad cy _) dX7_parse_7 (fun H locs hP hS => ?_)
  obtain ⟨σ10, eσ10⟩ : ∃ z : St, z = su σ9 0 20 (-1) := ⟨_, rfl⟩
  rw [← eσ10] at hP
  have hf := nm_to hf eσ10
  refine lv_aload_n hx hb dX7_parse_10 rfl (lv_at hl 0 rfl) ?_
  refine lv_iconst (v := 0) hx hb dX7_parse_11 (by decide) ?_
  refine xt_put (ci := 7) (C := RX7) (T := TX7) (n := 25) hx hb hts iX7_parse_X7 tyX7 tyX7_ok nmX7 hown hK hP hJ hS 0 (by decide) (LX7_obj ad cy _) rfl 22 (by decide) w3 rfl (v := 0) rfl rfl (Nat.le_of_ble_eq_true rfl) (LX7_obj ad cy _) dX7_parse_12 (fun H locs hP hS => ?_)
  obtain ⟨σ11, eσ11⟩ : ∃ z : St, z = su σ10 0 22 0 := ⟨_, rfl⟩
  rw [← eσ11] at hP
  have hf := nm_to hf eσ11
  refine lv_aload_n hx hb dX7_parse_15 rfl (lv_at hl 0 rfl) ?_
  obtain ⟨r12, qr12, hf⟩ := bd_some hf
  refine xt_callVv (As := []) (rest := []) (C := RX7) (ci := 7) ⟨hx, hb, hml, hown, hts⟩ 0 (mX7_command l dC dI ad cy hJ σ11 r12 qr12) (cwV 0 hts gX7_parse_X7_command rfl rfl rfl dmX7_command ⟨Nat.le_of_ble_eq_true rfl, Nat.le_of_ble_eq_true rfl⟩) hK hP hS (by decide) (LX7_obj ad cy _) rfl rfl rfl hl.1 (Nat.le_of_ble_eq_true rfl) ⟨Nat.zero_le _, Nat.zero_le _⟩ dX7_parse_16 (fun H locs hP hS => ?_)
  exact loop19 1000 r12 hf H locs hP hS ls (lv_sub hl [0] rfl)
def fX7_does (σ : St) (a1 : Int32) : Option (Int32 × St) :=
  gd (okI (a1 + 1) 183) <| nm (σ 14 (a1 + 1).toNatClampNeg) fun v2 => gd (okI (a1 + 2) 183) <| nm (σ 14 (a1 + 2).toNatClampNeg) fun v4 => gd (okI a1 183) <| if (σ 14 a1.toNatClampNeg) = 99 then (bd (fX7_turns σ v2 0) fun r7 => some (r7.1, r7.2)) else (if (σ 14 a1.toNatClampNeg) = 100 then (bd (fX7_comes σ v2 v4) fun r9 => some (r9.1, r9.2)) else (if (σ 14 a1.toNatClampNeg) = 101 then (bd (fX7_comes σ v2 v4) fun r11 => some (r11.1, r11.2)) else (if (σ 14 a1.toNatClampNeg) = 102 then (bd (fX7_comes σ v2 v4) fun r13 => some (r13.1, r13.2)) else (if (σ 14 a1.toNatClampNeg) = 103 then (bd (fX7_leaves σ v2) fun r15 => some (r15.1, r15.2)) else (if (σ 14 a1.toNatClampNeg) = 104 then (bd (fX7_comes σ v2 v4) fun r17 => some (r17.1, r17.2)) else (if (σ 14 a1.toNatClampNeg) = 105 then (bd (fX7_comes σ v2 v4) fun r19 => some (r19.1, r19.2)) else (if (σ 14 a1.toNatClampNeg) = 106 then (bd (fX7_comes σ v2 v4) fun r21 => some (r21.1, r21.2)) else (if (σ 14 a1.toNatClampNeg) = 107 then (bd (fX7_comes σ v2 v4) fun r23 => some (r23.1, r23.2)) else (if (σ 14 a1.toNatClampNeg) = 108 then (bd (fX7_loads σ v2 v4) fun r25 => some (r25.1, r25.2)) else (if (σ 14 a1.toNatClampNeg) = 109 then (bd (fX7_comes σ v2 v4) fun r27 => some (r27.1, r27.2)) else (if (σ 14 a1.toNatClampNeg) = 110 then (bd (fX7_comes σ v2 v4) fun r29 => some (r29.1, r29.2)) else (if (σ 14 a1.toNatClampNeg) = 111 then (bd (fX7_turns σ v2 1) fun r31 => some (r31.1, r31.2)) else (if (σ 14 a1.toNatClampNeg) = 112 then (bd (fX7_joins σ v2) fun r33 => some (r33.1, r33.2)) else (if (σ 14 a1.toNatClampNeg) = 113 then (bd (fX7_comes σ v2 v4) fun r35 => some (r35.1, r35.2)) else (if (σ 14 a1.toNatClampNeg) = 114 then (bd (fX7_comes σ v2 v4) fun r37 => some (r37.1, r37.2)) else (if (σ 14 a1.toNatClampNeg) = 115 then (bd (fX7_comes σ v2 v4) fun r39 => some (r39.1, r39.2)) else (if (σ 14 a1.toNatClampNeg) = 116 then (bd (fX7_bears σ v2) fun r41 => some (r41.1, r41.2)) else (if (σ 14 a1.toNatClampNeg) = 117 then (bd (fX7_comes σ v2 v4) fun r43 => some (r43.1, r43.2)) else (if (σ 14 a1.toNatClampNeg) = 118 then (bd (fX7_comes σ v2 v4) fun r45 => some (r45.1, r45.2)) else (if (σ 14 a1.toNatClampNeg) = 119 then (bd (fX7_weighs σ v2 v4) fun r47 => some (r47.1, r47.2)) else (bd (fX7_comes σ v2 v4) fun r48 => some (r48.1, r48.2))))))))))))))))))))))
abbrev rmX7_does : Room := { frames := 7, cells := 0, slots := 0, locals := 152 }
theorem dmX7_does : yX7_does.cls = RX7 ∧ yX7_does.cls ≠ "java/lang/invoke/MethodHandle" ∧ yX7_does.cls ≠ "java/lang/invoke/VarHandle" ∧ (parseMethodDescriptor yX7_does.desc).map (fun d => d.parameters.length) = some 1 := by decide +kernel
theorem iX7_does_X7 : ∀ w ∈ wsX70, w ∈ wsX7_does := fun w h => List.mem_cons_of_mem _ (List.mem_append_right _ (h))
set_option maxHeartbeats 8000000 in
set_option maxRecDepth 100000 in
theorem mX7_does (l : Launch) (dC : Nat → ClassId) (dI : Nat → Nat → Nat) (ad : Nat → Nat) (cy : Nat → ClassId) (hJ : WJ 16 ad) (σ : St) (a1 : Int32) (res : (Int32 × St)) (hf : fX7_does σ a1 = some res) : CMi l yX7_does wsX7_does rmX7_does (dC, dI) (tysX cy) 16 ad (layM ad cy) [.ref (ad 0), .int a1] σ res.1 res.2 := by
  refine Met.ofW (cc := cX7_does) (maxL := 4) (ret := (some .int)) (by decide) rfl ?_
  intro p e s m args below meth c s₁ B hml hv
  obtain ⟨hargs, hP, hK⟩ := hv
  have hx := B.exec
  have hb := B.bytes
  have hr := B.returns
  have hts := atoms_spec (ws := wsX7_does) B.pre
  have hown : s.vm.findClass RX7 = some m.cls := findClass_of_methodNamed B.named
  have hlocks := B.notSynchronized
  have w1 := hts (.fieldLink RX7 49 "PierRingsModel" "commands" "[I") (List.mem_of_getElem? (i := 1) rfl)
  have hS : va_S (WA 16 ad) s.heap s.heap [] := va_S.rf
  have hfr : entryFrame m args 4 = F0 m 0 ((lg_sl [.ref (ad 0), .int a1] ++ List.replicate (4 - (lg_sl [.ref (ad 0), .int a1]).length) Slot.unset).toArray) [] := by rw [hargs]; exact lg_entry_eq _ _ _
  rw [hfr]
  have hl := lv_entry ([.ref (ad 0), .int a1]) (n := 4) (Nat.le_of_ble_eq_true rfl)
  generalize (lg_sl [.ref (ad 0), .int a1] ++ List.replicate (4 - (lg_sl [.ref (ad 0), .int a1]).length) Slot.unset).toArray = ls at hl ⊢
  have hl : lv_has ls 4 [(0, .ref (ad 0)), (1, .int a1)] := hl
  clear hfr hargs B
  show W p l e rmX7_does s m args below meth c s.heap [] 0 0 (MQ below (Qiw (dC, dI) 16 ad (layM ad cy) res.1 res.2) args s 0 0 (WA 16 ad)) (F0 m 0 ls [])
  unfold fX7_does at hf
  obtain ⟨H, eH⟩ : ∃ H : Heap, H = s.heap := ⟨_, rfl⟩
  rw [← eH] at hP
  have hS : va_S (WA 16 ad) s.heap H [] := by rw [eH]; exact hS
  suffices K : W p l e rmX7_does s m args below meth c H [] 0 0 (MQ below (Qiw (dC, dI) 16 ad (layM ad cy) res.1 res.2) args s 0 0 (WA 16 ad)) (F0 m 0 ls []) by rw [eH] at K; exact K
  clear eH
  obtain ⟨locs, elocs⟩ : ∃ z : List Loc, z = [] := ⟨_, rfl⟩
  rw [← elocs] at hS ⊢
  refine lv_aload_n hx hb dX7_does_0 rfl (lv_at hl 0 rfl) ?_
  refine xt_get (ci := 7) (C := RX7) (T := TX7) (n := 25) (v := .ref (ad 14)) hx hb hts iX7_does_X7 hown hK hP 0 (by decide) (LX7_obj ad cy _) rfl 21 (by decide) w1 rfl dX7_does_1 ?_
  refine lv_iload_n hx hb dX7_does_4 rfl (lv_at hl 1 rfl) ?_
  refine lv_iconst (v := 1) hx hb dX7_does_5 (by decide) ?_
  refine lv_iadd hx hb dX7_does_6 ?_
  obtain ⟨g1, hf⟩ := gd_some hf
  refine xt_iald hx hb hK hP 14 (by decide) 0 (LX7_commands ad cy _) rfl g1 dX7_does_7 ?_
  refine lv_topi (fun v2 ev2 => ?_)
  have hf := nm_to hf ev2
  refine lv_istore_n (lv' := [(2, .int v2), (0, .ref (ad 0)), (1, .int a1)]) hx hb dX7_does_8 rfl hl (by decide) rfl (fun ls hl => ?_)
  refine lv_aload_n hx hb dX7_does_9 rfl (lv_at hl 1 rfl) ?_
  refine xt_get (ci := 7) (C := RX7) (T := TX7) (n := 25) (v := .ref (ad 14)) hx hb hts iX7_does_X7 hown hK hP 0 (by decide) (LX7_obj ad cy _) rfl 21 (by decide) w1 rfl dX7_does_10 ?_
  refine lv_iload_n hx hb dX7_does_13 rfl (lv_at hl 2 rfl) ?_
  refine lv_iconst (v := 2) hx hb dX7_does_14 (by decide) ?_
  refine lv_iadd hx hb dX7_does_15 ?_
  obtain ⟨g3, hf⟩ := gd_some hf
  refine xt_iald hx hb hK hP 14 (by decide) 0 (LX7_commands ad cy _) rfl g3 dX7_does_16 ?_
  refine lv_topi (fun v4 ev4 => ?_)
  have hf := nm_to hf ev4
  refine lv_istore_n (lv' := [(3, .int v4), (2, .int v2), (0, .ref (ad 0)), (1, .int a1)]) hx hb dX7_does_17 rfl hl (by decide) rfl (fun ls hl => ?_)
  refine lv_aload_n hx hb dX7_does_18 rfl (lv_at hl 2 rfl) ?_
  refine xt_get (ci := 7) (C := RX7) (T := TX7) (n := 25) (v := .ref (ad 14)) hx hb hts iX7_does_X7 hown hK hP 0 (by decide) (LX7_obj ad cy _) rfl 21 (by decide) w1 rfl dX7_does_19 ?_
  refine lv_iload_n hx hb dX7_does_22 rfl (lv_at hl 3 rfl) ?_
  obtain ⟨g5, hf⟩ := gd_some hf
  refine xt_iald hx hb hK hP 14 (by decide) 0 (LX7_commands ad cy _) rfl g5 dX7_does_23 ?_
  by_cases c6 : (σ 14 a1.toNatClampNeg) = 99
  · have hf := (if_pos c6).symm.trans hf
    refine lv_tableIn (tgt := 130) (off := 106) hx hb dX7_does_24 (by rw [c6]; decide) (by rw [c6]; decide) (by rw [c6]; rfl) (by decide) ?_
    refine lv_aload_n hx hb dX7_does_130 rfl (lv_at hl 2 rfl) ?_
    refine lv_iload_n hx hb dX7_does_131 rfl (lv_at hl 1 rfl) ?_
    refine lv_iconst (v := 0) hx hb dX7_does_132 (by decide) ?_
    obtain ⟨r7, qr7, hf⟩ := bd_some hf
    refine xt_callVi (As := [.int v2, .int 0]) (rest := []) (C := RX7) (ci := 7) ⟨hx, hb, hml, hown, hts⟩ 0 (mX7_turns l dC dI ad cy hJ σ v2 0 r7 qr7) (cwV 2 hts gX7_does_X7_turns rfl rfl rfl dmX7_turns ⟨Nat.le_of_ble_eq_true rfl, Nat.le_of_ble_eq_true rfl⟩) hK hP hS (by decide) (LX7_obj ad cy _) rfl rfl rfl hl.1 (Nat.le_of_ble_eq_true rfl) ⟨Nat.zero_le _, Nat.zero_le _⟩ dX7_does_133 (fun H locs hP hS => ?_)
    exact xt_iret hx hb hr hP hS (rs_1 hf) (rs_2 hf) dX7_does_136 hlocks
  · have hf := (if_neg c6).symm.trans hf
    by_cases c8 : (σ 14 a1.toNatClampNeg) = 100
    · have hf := (if_pos c8).symm.trans hf
      refine lv_tableIn (tgt := 170) (off := 146) hx hb dX7_does_24 (by rw [c8]; decide) (by rw [c8]; decide) (by rw [c8]; rfl) (by decide) ?_
      refine lv_aload_n hx hb dX7_does_170 rfl (lv_at hl 2 rfl) ?_
      refine lv_iload_n hx hb dX7_does_171 rfl (lv_at hl 1 rfl) ?_
      refine lv_iload_n hx hb dX7_does_172 rfl (lv_at hl 0 rfl) ?_
      obtain ⟨r9, qr9, hf⟩ := bd_some hf
      refine xt_callVi (As := [.int v2, .int v4]) (rest := []) (C := RX7) (ci := 7) ⟨hx, hb, hml, hown, hts⟩ 0 (mX7_comes l dC dI ad cy hJ σ v2 v4 r9 qr9) (cwV 2 hts gX7_does_X7_comes rfl rfl rfl dmX7_comes ⟨Nat.le_of_ble_eq_true rfl, Nat.le_of_ble_eq_true rfl⟩) hK hP hS (by decide) (LX7_obj ad cy _) rfl rfl rfl hl.1 (Nat.le_of_ble_eq_true rfl) ⟨Nat.zero_le _, Nat.zero_le _⟩ dX7_does_173 (fun H locs hP hS => ?_)
      exact xt_iret hx hb hr hP hS (rs_1 hf) (rs_2 hf) dX7_does_176 hlocks
    · have hf := (if_neg c8).symm.trans hf
      by_cases c10 : (σ 14 a1.toNatClampNeg) = 101
      · have hf := (if_pos c10).symm.trans hf
        refine lv_tableIn (tgt := 170) (off := 146) hx hb dX7_does_24 (by rw [c10]; decide) (by rw [c10]; decide) (by rw [c10]; rfl) (by decide) ?_
        refine lv_aload_n hx hb dX7_does_170 rfl (lv_at hl 2 rfl) ?_
        refine lv_iload_n hx hb dX7_does_171 rfl (lv_at hl 1 rfl) ?_
        refine lv_iload_n hx hb dX7_does_172 rfl (lv_at hl 0 rfl) ?_
        obtain ⟨r11, qr11, hf⟩ := bd_some hf
        refine xt_callVi (As := [.int v2, .int v4]) (rest := []) (C := RX7) (ci := 7) ⟨hx, hb, hml, hown, hts⟩ 0 (mX7_comes l dC dI ad cy hJ σ v2 v4 r11 qr11) (cwV 2 hts gX7_does_X7_comes rfl rfl rfl dmX7_comes ⟨Nat.le_of_ble_eq_true rfl, Nat.le_of_ble_eq_true rfl⟩) hK hP hS (by decide) (LX7_obj ad cy _) rfl rfl rfl hl.1 (Nat.le_of_ble_eq_true rfl) ⟨Nat.zero_le _, Nat.zero_le _⟩ dX7_does_173 (fun H locs hP hS => ?_)
        exact xt_iret hx hb hr hP hS (rs_1 hf) (rs_2 hf) dX7_does_176 hlocks
      · have hf := (if_neg c10).symm.trans hf
        by_cases c12 : (σ 14 a1.toNatClampNeg) = 102
        · have hf := (if_pos c12).symm.trans hf
          refine lv_tableIn (tgt := 170) (off := 146) hx hb dX7_does_24 (by rw [c12]; decide) (by rw [c12]; decide) (by rw [c12]; rfl) (by decide) ?_
          refine lv_aload_n hx hb dX7_does_170 rfl (lv_at hl 2 rfl) ?_
          refine lv_iload_n hx hb dX7_does_171 rfl (lv_at hl 1 rfl) ?_
          refine lv_iload_n hx hb dX7_does_172 rfl (lv_at hl 0 rfl) ?_
          obtain ⟨r13, qr13, hf⟩ := bd_some hf
          refine xt_callVi (As := [.int v2, .int v4]) (rest := []) (C := RX7) (ci := 7) ⟨hx, hb, hml, hown, hts⟩ 0 (mX7_comes l dC dI ad cy hJ σ v2 v4 r13 qr13) (cwV 2 hts gX7_does_X7_comes rfl rfl rfl dmX7_comes ⟨Nat.le_of_ble_eq_true rfl, Nat.le_of_ble_eq_true rfl⟩) hK hP hS (by decide) (LX7_obj ad cy _) rfl rfl rfl hl.1 (Nat.le_of_ble_eq_true rfl) ⟨Nat.zero_le _, Nat.zero_le _⟩ dX7_does_173 (fun H locs hP hS => ?_)
          exact xt_iret hx hb hr hP hS (rs_1 hf) (rs_2 hf) dX7_does_176 hlocks
        · have hf := (if_neg c12).symm.trans hf
          by_cases c14 : (σ 14 a1.toNatClampNeg) = 103
          · have hf := (if_pos c14).symm.trans hf
            refine lv_tableIn (tgt := 151) (off := 127) hx hb dX7_does_24 (by rw [c14]; decide) (by rw [c14]; decide) (by rw [c14]; rfl) (by decide) ?_
            refine lv_aload_n hx hb dX7_does_151 rfl (lv_at hl 2 rfl) ?_
            refine lv_iload_n hx hb dX7_does_152 rfl (lv_at hl 1 rfl) ?_
            obtain ⟨r15, qr15, hf⟩ := bd_some hf
            refine xt_callVi (As := [.int v2]) (rest := []) (C := RX7) (ci := 7) ⟨hx, hb, hml, hown, hts⟩ 0 (mX7_leaves l dC dI ad cy hJ σ v2 r15 qr15) (cwV 1 hts gX7_does_X7_leaves rfl rfl rfl dmX7_leaves ⟨Nat.le_of_ble_eq_true rfl, Nat.le_of_ble_eq_true rfl⟩) hK hP hS (by decide) (LX7_obj ad cy _) rfl rfl rfl hl.1 (Nat.le_of_ble_eq_true rfl) ⟨Nat.zero_le _, Nat.zero_le _⟩ dX7_does_153 (fun H locs hP hS => ?_)
            exact xt_iret hx hb hr hP hS (rs_1 hf) (rs_2 hf) dX7_does_156 hlocks
          · have hf := (if_neg c14).symm.trans hf
            by_cases c16 : (σ 14 a1.toNatClampNeg) = 104
            · have hf := (if_pos c16).symm.trans hf
              refine lv_tableIn (tgt := 170) (off := 146) hx hb dX7_does_24 (by rw [c16]; decide) (by rw [c16]; decide) (by rw [c16]; rfl) (by decide) ?_
              refine lv_aload_n hx hb dX7_does_170 rfl (lv_at hl 2 rfl) ?_
              refine lv_iload_n hx hb dX7_does_171 rfl (lv_at hl 1 rfl) ?_
              refine lv_iload_n hx hb dX7_does_172 rfl (lv_at hl 0 rfl) ?_
              obtain ⟨r17, qr17, hf⟩ := bd_some hf
              refine xt_callVi (As := [.int v2, .int v4]) (rest := []) (C := RX7) (ci := 7) ⟨hx, hb, hml, hown, hts⟩ 0 (mX7_comes l dC dI ad cy hJ σ v2 v4 r17 qr17) (cwV 2 hts gX7_does_X7_comes rfl rfl rfl dmX7_comes ⟨Nat.le_of_ble_eq_true rfl, Nat.le_of_ble_eq_true rfl⟩) hK hP hS (by decide) (LX7_obj ad cy _) rfl rfl rfl hl.1 (Nat.le_of_ble_eq_true rfl) ⟨Nat.zero_le _, Nat.zero_le _⟩ dX7_does_173 (fun H locs hP hS => ?_)
              exact xt_iret hx hb hr hP hS (rs_1 hf) (rs_2 hf) dX7_does_176 hlocks
            · have hf := (if_neg c16).symm.trans hf
              by_cases c18 : (σ 14 a1.toNatClampNeg) = 105
              · have hf := (if_pos c18).symm.trans hf
                refine lv_tableIn (tgt := 170) (off := 146) hx hb dX7_does_24 (by rw [c18]; decide) (by rw [c18]; decide) (by rw [c18]; rfl) (by decide) ?_
                refine lv_aload_n hx hb dX7_does_170 rfl (lv_at hl 2 rfl) ?_
                refine lv_iload_n hx hb dX7_does_171 rfl (lv_at hl 1 rfl) ?_
                refine lv_iload_n hx hb dX7_does_172 rfl (lv_at hl 0 rfl) ?_
                obtain ⟨r19, qr19, hf⟩ := bd_some hf
                refine xt_callVi (As := [.int v2, .int v4]) (rest := []) (C := RX7) (ci := 7) ⟨hx, hb, hml, hown, hts⟩ 0 (mX7_comes l dC dI ad cy hJ σ v2 v4 r19 qr19) (cwV 2 hts gX7_does_X7_comes rfl rfl rfl dmX7_comes ⟨Nat.le_of_ble_eq_true rfl, Nat.le_of_ble_eq_true rfl⟩) hK hP hS (by decide) (LX7_obj ad cy _) rfl rfl rfl hl.1 (Nat.le_of_ble_eq_true rfl) ⟨Nat.zero_le _, Nat.zero_le _⟩ dX7_does_173 (fun H locs hP hS => ?_)
                exact xt_iret hx hb hr hP hS (rs_1 hf) (rs_2 hf) dX7_does_176 hlocks
              · have hf := (if_neg c18).symm.trans hf
                by_cases c20 : (σ 14 a1.toNatClampNeg) = 106
                · have hf := (if_pos c20).symm.trans hf
                  refine lv_tableIn (tgt := 170) (off := 146) hx hb dX7_does_24 (by rw [c20]; decide) (by rw [c20]; decide) (by rw [c20]; rfl) (by decide) ?_
                  refine lv_aload_n hx hb dX7_does_170 rfl (lv_at hl 2 rfl) ?_
                  refine lv_iload_n hx hb dX7_does_171 rfl (lv_at hl 1 rfl) ?_
                  refine lv_iload_n hx hb dX7_does_172 rfl (lv_at hl 0 rfl) ?_
                  obtain ⟨r21, qr21, hf⟩ := bd_some hf
                  refine xt_callVi (As := [.int v2, .int v4]) (rest := []) (C := RX7) (ci := 7) ⟨hx, hb, hml, hown, hts⟩ 0 (mX7_comes l dC dI ad cy hJ σ v2 v4 r21 qr21) (cwV 2 hts gX7_does_X7_comes rfl rfl rfl dmX7_comes ⟨Nat.le_of_ble_eq_true rfl, Nat.le_of_ble_eq_true rfl⟩) hK hP hS (by decide) (LX7_obj ad cy _) rfl rfl rfl hl.1 (Nat.le_of_ble_eq_true rfl) ⟨Nat.zero_le _, Nat.zero_le _⟩ dX7_does_173 (fun H locs hP hS => ?_)
                  exact xt_iret hx hb hr hP hS (rs_1 hf) (rs_2 hf) dX7_does_176 hlocks
                · have hf := (if_neg c20).symm.trans hf
                  by_cases c22 : (σ 14 a1.toNatClampNeg) = 107
                  · have hf := (if_pos c22).symm.trans hf
                    refine lv_tableIn (tgt := 170) (off := 146) hx hb dX7_does_24 (by rw [c22]; decide) (by rw [c22]; decide) (by rw [c22]; rfl) (by decide) ?_
                    refine lv_aload_n hx hb dX7_does_170 rfl (lv_at hl 2 rfl) ?_
                    refine lv_iload_n hx hb dX7_does_171 rfl (lv_at hl 1 rfl) ?_
                    refine lv_iload_n hx hb dX7_does_172 rfl (lv_at hl 0 rfl) ?_
                    obtain ⟨r23, qr23, hf⟩ := bd_some hf
                    refine xt_callVi (As := [.int v2, .int v4]) (rest := []) (C := RX7) (ci := 7) ⟨hx, hb, hml, hown, hts⟩ 0 (mX7_comes l dC dI ad cy hJ σ v2 v4 r23 qr23) (cwV 2 hts gX7_does_X7_comes rfl rfl rfl dmX7_comes ⟨Nat.le_of_ble_eq_true rfl, Nat.le_of_ble_eq_true rfl⟩) hK hP hS (by decide) (LX7_obj ad cy _) rfl rfl rfl hl.1 (Nat.le_of_ble_eq_true rfl) ⟨Nat.zero_le _, Nat.zero_le _⟩ dX7_does_173 (fun H locs hP hS => ?_)
                    exact xt_iret hx hb hr hP hS (rs_1 hf) (rs_2 hf) dX7_does_176 hlocks
                  · have hf := (if_neg c22).symm.trans hf
                    by_cases c24 : (σ 14 a1.toNatClampNeg) = 108
                    · have hf := (if_pos c24).symm.trans hf
                      refine lv_tableIn (tgt := 157) (off := 133) hx hb dX7_does_24 (by rw [c24]; decide) (by rw [c24]; decide) (by rw [c24]; rfl) (by decide) ?_
                      refine lv_aload_n hx hb dX7_does_157 rfl (lv_at hl 2 rfl) ?_
                      refine lv_iload_n hx hb dX7_does_158 rfl (lv_at hl 1 rfl) ?_
                      refine lv_iload_n hx hb dX7_does_159 rfl (lv_at hl 0 rfl) ?_
                      obtain ⟨r25, qr25, hf⟩ := bd_some hf
                      refine xt_callVi (As := [.int v2, .int v4]) (rest := []) (C := RX7) (ci := 7) ⟨hx, hb, hml, hown, hts⟩ 0 (mX7_loads l dC dI ad cy hJ σ v2 v4 r25 qr25) (cwV 2 hts gX7_does_X7_loads rfl rfl rfl dmX7_loads ⟨Nat.le_of_ble_eq_true rfl, Nat.le_of_ble_eq_true rfl⟩) hK hP hS (by decide) (LX7_obj ad cy _) rfl rfl rfl hl.1 (Nat.le_of_ble_eq_true rfl) ⟨Nat.zero_le _, Nat.zero_le _⟩ dX7_does_160 (fun H locs hP hS => ?_)
                      exact xt_iret hx hb hr hP hS (rs_1 hf) (rs_2 hf) dX7_does_163 hlocks
                    · have hf := (if_neg c24).symm.trans hf
                      by_cases c26 : (σ 14 a1.toNatClampNeg) = 109
                      · have hf := (if_pos c26).symm.trans hf
                        refine lv_tableIn (tgt := 170) (off := 146) hx hb dX7_does_24 (by rw [c26]; decide) (by rw [c26]; decide) (by rw [c26]; rfl) (by decide) ?_
                        refine lv_aload_n hx hb dX7_does_170 rfl (lv_at hl 2 rfl) ?_
                        refine lv_iload_n hx hb dX7_does_171 rfl (lv_at hl 1 rfl) ?_
                        refine lv_iload_n hx hb dX7_does_172 rfl (lv_at hl 0 rfl) ?_
                        obtain ⟨r27, qr27, hf⟩ := bd_some hf
                        refine xt_callVi (As := [.int v2, .int v4]) (rest := []) (C := RX7) (ci := 7) ⟨hx, hb, hml, hown, hts⟩ 0 (mX7_comes l dC dI ad cy hJ σ v2 v4 r27 qr27) (cwV 2 hts gX7_does_X7_comes rfl rfl rfl dmX7_comes ⟨Nat.le_of_ble_eq_true rfl, Nat.le_of_ble_eq_true rfl⟩) hK hP hS (by decide) (LX7_obj ad cy _) rfl rfl rfl hl.1 (Nat.le_of_ble_eq_true rfl) ⟨Nat.zero_le _, Nat.zero_le _⟩ dX7_does_173 (fun H locs hP hS => ?_)
                        exact xt_iret hx hb hr hP hS (rs_1 hf) (rs_2 hf) dX7_does_176 hlocks
                      · have hf := (if_neg c26).symm.trans hf
                        by_cases c28 : (σ 14 a1.toNatClampNeg) = 110
                        · have hf := (if_pos c28).symm.trans hf
                          refine lv_tableIn (tgt := 170) (off := 146) hx hb dX7_does_24 (by rw [c28]; decide) (by rw [c28]; decide) (by rw [c28]; rfl) (by decide) ?_
                          refine lv_aload_n hx hb dX7_does_170 rfl (lv_at hl 2 rfl) ?_
                          refine lv_iload_n hx hb dX7_does_171 rfl (lv_at hl 1 rfl) ?_
                          refine lv_iload_n hx hb dX7_does_172 rfl (lv_at hl 0 rfl) ?_
                          obtain ⟨r29, qr29, hf⟩ := bd_some hf
                          refine xt_callVi (As := [.int v2, .int v4]) (rest := []) (C := RX7) (ci := 7) ⟨hx, hb, hml, hown, hts⟩ 0 (mX7_comes l dC dI ad cy hJ σ v2 v4 r29 qr29) (cwV 2 hts gX7_does_X7_comes rfl rfl rfl dmX7_comes ⟨Nat.le_of_ble_eq_true rfl, Nat.le_of_ble_eq_true rfl⟩) hK hP hS (by decide) (LX7_obj ad cy _) rfl rfl rfl hl.1 (Nat.le_of_ble_eq_true rfl) ⟨Nat.zero_le _, Nat.zero_le _⟩ dX7_does_173 (fun H locs hP hS => ?_)
                          exact xt_iret hx hb hr hP hS (rs_1 hf) (rs_2 hf) dX7_does_176 hlocks
                        · have hf := (if_neg c28).symm.trans hf
                          by_cases c30 : (σ 14 a1.toNatClampNeg) = 111
                          · have hf := (if_pos c30).symm.trans hf
                            refine lv_tableIn (tgt := 137) (off := 113) hx hb dX7_does_24 (by rw [c30]; decide) (by rw [c30]; decide) (by rw [c30]; rfl) (by decide) ?_
                            refine lv_aload_n hx hb dX7_does_137 rfl (lv_at hl 2 rfl) ?_
                            refine lv_iload_n hx hb dX7_does_138 rfl (lv_at hl 1 rfl) ?_
                            refine lv_iconst (v := 1) hx hb dX7_does_139 (by decide) ?_
                            obtain ⟨r31, qr31, hf⟩ := bd_some hf
                            refine xt_callVi (As := [.int v2, .int 1]) (rest := []) (C := RX7) (ci := 7) ⟨hx, hb, hml, hown, hts⟩ 0 (mX7_turns l dC dI ad cy hJ σ v2 1 r31 qr31) (cwV 2 hts gX7_does_X7_turns rfl rfl rfl dmX7_turns ⟨Nat.le_of_ble_eq_true rfl, Nat.le_of_ble_eq_true rfl⟩) hK hP hS (by decide) (LX7_obj ad cy _) rfl rfl rfl hl.1 (Nat.le_of_ble_eq_true rfl) ⟨Nat.zero_le _, Nat.zero_le _⟩ dX7_does_140 (fun H locs hP hS => ?_)
                            exact xt_iret hx hb hr hP hS (rs_1 hf) (rs_2 hf) dX7_does_143 hlocks
                          · have hf := (if_neg c30).symm.trans hf
                            by_cases c32 : (σ 14 a1.toNatClampNeg) = 112
                            · have hf := (if_pos c32).symm.trans hf
                              refine lv_tableIn (tgt := 124) (off := 100) hx hb dX7_does_24 (by rw [c32]; decide) (by rw [c32]; decide) (by rw [c32]; rfl) (by decide) ?_
                              refine lv_aload_n hx hb dX7_does_124 rfl (lv_at hl 2 rfl) ?_
                              refine lv_iload_n hx hb dX7_does_125 rfl (lv_at hl 1 rfl) ?_
                              obtain ⟨r33, qr33, hf⟩ := bd_some hf
                              refine xt_callVi (As := [.int v2]) (rest := []) (C := RX7) (ci := 7) ⟨hx, hb, hml, hown, hts⟩ 0 (mX7_joins l dC dI ad cy hJ σ v2 r33 qr33) (cwV 1 hts gX7_does_X7_joins rfl rfl rfl dmX7_joins ⟨Nat.le_of_ble_eq_true rfl, Nat.le_of_ble_eq_true rfl⟩) hK hP hS (by decide) (LX7_obj ad cy _) rfl rfl rfl hl.1 (Nat.le_of_ble_eq_true rfl) ⟨Nat.zero_le _, Nat.zero_le _⟩ dX7_does_126 (fun H locs hP hS => ?_)
                              exact xt_iret hx hb hr hP hS (rs_1 hf) (rs_2 hf) dX7_does_129 hlocks
                            · have hf := (if_neg c32).symm.trans hf
                              by_cases c34 : (σ 14 a1.toNatClampNeg) = 113
                              · have hf := (if_pos c34).symm.trans hf
                                refine lv_tableIn (tgt := 170) (off := 146) hx hb dX7_does_24 (by rw [c34]; decide) (by rw [c34]; decide) (by rw [c34]; rfl) (by decide) ?_
                                refine lv_aload_n hx hb dX7_does_170 rfl (lv_at hl 2 rfl) ?_
                                refine lv_iload_n hx hb dX7_does_171 rfl (lv_at hl 1 rfl) ?_
                                refine lv_iload_n hx hb dX7_does_172 rfl (lv_at hl 0 rfl) ?_
                                obtain ⟨r35, qr35, hf⟩ := bd_some hf
                                refine xt_callVi (As := [.int v2, .int v4]) (rest := []) (C := RX7) (ci := 7) ⟨hx, hb, hml, hown, hts⟩ 0 (mX7_comes l dC dI ad cy hJ σ v2 v4 r35 qr35) (cwV 2 hts gX7_does_X7_comes rfl rfl rfl dmX7_comes ⟨Nat.le_of_ble_eq_true rfl, Nat.le_of_ble_eq_true rfl⟩) hK hP hS (by decide) (LX7_obj ad cy _) rfl rfl rfl hl.1 (Nat.le_of_ble_eq_true rfl) ⟨Nat.zero_le _, Nat.zero_le _⟩ dX7_does_173 (fun H locs hP hS => ?_)
                                exact xt_iret hx hb hr hP hS (rs_1 hf) (rs_2 hf) dX7_does_176 hlocks
                              · have hf := (if_neg c34).symm.trans hf
                                by_cases c36 : (σ 14 a1.toNatClampNeg) = 114
                                · have hf := (if_pos c36).symm.trans hf
                                  refine lv_tableIn (tgt := 170) (off := 146) hx hb dX7_does_24 (by rw [c36]; decide) (by rw [c36]; decide) (by rw [c36]; rfl) (by decide) ?_
                                  refine lv_aload_n hx hb dX7_does_170 rfl (lv_at hl 2 rfl) ?_
                                  refine lv_iload_n hx hb dX7_does_171 rfl (lv_at hl 1 rfl) ?_
                                  refine lv_iload_n hx hb dX7_does_172 rfl (lv_at hl 0 rfl) ?_
                                  obtain ⟨r37, qr37, hf⟩ := bd_some hf
                                  refine xt_callVi (As := [.int v2, .int v4]) (rest := []) (C := RX7) (ci := 7) ⟨hx, hb, hml, hown, hts⟩ 0 (mX7_comes l dC dI ad cy hJ σ v2 v4 r37 qr37) (cwV 2 hts gX7_does_X7_comes rfl rfl rfl dmX7_comes ⟨Nat.le_of_ble_eq_true rfl, Nat.le_of_ble_eq_true rfl⟩) hK hP hS (by decide) (LX7_obj ad cy _) rfl rfl rfl hl.1 (Nat.le_of_ble_eq_true rfl) ⟨Nat.zero_le _, Nat.zero_le _⟩ dX7_does_173 (fun H locs hP hS => ?_)
                                  exact xt_iret hx hb hr hP hS (rs_1 hf) (rs_2 hf) dX7_does_176 hlocks
                                · have hf := (if_neg c36).symm.trans hf
                                  by_cases c38 : (σ 14 a1.toNatClampNeg) = 115
                                  · have hf := (if_pos c38).symm.trans hf
                                    refine lv_tableIn (tgt := 170) (off := 146) hx hb dX7_does_24 (by rw [c38]; decide) (by rw [c38]; decide) (by rw [c38]; rfl) (by decide) ?_
                                    refine lv_aload_n hx hb dX7_does_170 rfl (lv_at hl 2 rfl) ?_
                                    refine lv_iload_n hx hb dX7_does_171 rfl (lv_at hl 1 rfl) ?_
                                    refine lv_iload_n hx hb dX7_does_172 rfl (lv_at hl 0 rfl) ?_
                                    obtain ⟨r39, qr39, hf⟩ := bd_some hf
                                    refine xt_callVi (As := [.int v2, .int v4]) (rest := []) (C := RX7) (ci := 7) ⟨hx, hb, hml, hown, hts⟩ 0 (mX7_comes l dC dI ad cy hJ σ v2 v4 r39 qr39) (cwV 2 hts gX7_does_X7_comes rfl rfl rfl dmX7_comes ⟨Nat.le_of_ble_eq_true rfl, Nat.le_of_ble_eq_true rfl⟩) hK hP hS (by decide) (LX7_obj ad cy _) rfl rfl rfl hl.1 (Nat.le_of_ble_eq_true rfl) ⟨Nat.zero_le _, Nat.zero_le _⟩ dX7_does_173 (fun H locs hP hS => ?_)
                                    exact xt_iret hx hb hr hP hS (rs_1 hf) (rs_2 hf) dX7_does_176 hlocks
                                  · have hf := (if_neg c38).symm.trans hf
                                    by_cases c40 : (σ 14 a1.toNatClampNeg) = 116
                                    · have hf := (if_pos c40).symm.trans hf
                                      refine lv_tableIn (tgt := 164) (off := 140) hx hb dX7_does_24 (by rw [c40]; decide) (by rw [c40]; decide) (by rw [c40]; rfl) (by decide) ?_
                                      refine lv_aload_n hx hb dX7_does_164 rfl (lv_at hl 2 rfl) ?_
                                      refine lv_iload_n hx hb dX7_does_165 rfl (lv_at hl 1 rfl) ?_
                                      obtain ⟨r41, qr41, hf⟩ := bd_some hf
                                      refine xt_callVi (As := [.int v2]) (rest := []) (C := RX7) (ci := 7) ⟨hx, hb, hml, hown, hts⟩ 0 (mX7_bears l dC dI ad cy hJ σ v2 r41 qr41) (cwV 1 hts gX7_does_X7_bears rfl rfl rfl dmX7_bears ⟨Nat.le_of_ble_eq_true rfl, Nat.le_of_ble_eq_true rfl⟩) hK hP hS (by decide) (LX7_obj ad cy _) rfl rfl rfl hl.1 (Nat.le_of_ble_eq_true rfl) ⟨Nat.zero_le _, Nat.zero_le _⟩ dX7_does_166 (fun H locs hP hS => ?_)
                                      exact xt_iret hx hb hr hP hS (rs_1 hf) (rs_2 hf) dX7_does_169 hlocks
                                    · have hf := (if_neg c40).symm.trans hf
                                      by_cases c42 : (σ 14 a1.toNatClampNeg) = 117
                                      · have hf := (if_pos c42).symm.trans hf
                                        refine lv_tableIn (tgt := 170) (off := 146) hx hb dX7_does_24 (by rw [c42]; decide) (by rw [c42]; decide) (by rw [c42]; rfl) (by decide) ?_
                                        refine lv_aload_n hx hb dX7_does_170 rfl (lv_at hl 2 rfl) ?_
                                        refine lv_iload_n hx hb dX7_does_171 rfl (lv_at hl 1 rfl) ?_
                                        refine lv_iload_n hx hb dX7_does_172 rfl (lv_at hl 0 rfl) ?_
                                        obtain ⟨r43, qr43, hf⟩ := bd_some hf
                                        refine xt_callVi (As := [.int v2, .int v4]) (rest := []) (C := RX7) (ci := 7) ⟨hx, hb, hml, hown, hts⟩ 0 (mX7_comes l dC dI ad cy hJ σ v2 v4 r43 qr43) (cwV 2 hts gX7_does_X7_comes rfl rfl rfl dmX7_comes ⟨Nat.le_of_ble_eq_true rfl, Nat.le_of_ble_eq_true rfl⟩) hK hP hS (by decide) (LX7_obj ad cy _) rfl rfl rfl hl.1 (Nat.le_of_ble_eq_true rfl) ⟨Nat.zero_le _, Nat.zero_le _⟩ dX7_does_173 (fun H locs hP hS => ?_)
                                        exact xt_iret hx hb hr hP hS (rs_1 hf) (rs_2 hf) dX7_does_176 hlocks
                                      · have hf := (if_neg c42).symm.trans hf
                                        by_cases c44 : (σ 14 a1.toNatClampNeg) = 118
                                        · have hf := (if_pos c44).symm.trans hf
                                          refine lv_tableIn (tgt := 170) (off := 146) hx hb dX7_does_24 (by rw [c44]; decide) (by rw [c44]; decide) (by rw [c44]; rfl) (by decide) ?_
                                          refine lv_aload_n hx hb dX7_does_170 rfl (lv_at hl 2 rfl) ?_
                                          refine lv_iload_n hx hb dX7_does_171 rfl (lv_at hl 1 rfl) ?_
                                          refine lv_iload_n hx hb dX7_does_172 rfl (lv_at hl 0 rfl) ?_
                                          obtain ⟨r45, qr45, hf⟩ := bd_some hf
                                          refine xt_callVi (As := [.int v2, .int v4]) (rest := []) (C := RX7) (ci := 7) ⟨hx, hb, hml, hown, hts⟩ 0 (mX7_comes l dC dI ad cy hJ σ v2 v4 r45 qr45) (cwV 2 hts gX7_does_X7_comes rfl rfl rfl dmX7_comes ⟨Nat.le_of_ble_eq_true rfl, Nat.le_of_ble_eq_true rfl⟩) hK hP hS (by decide) (LX7_obj ad cy _) rfl rfl rfl hl.1 (Nat.le_of_ble_eq_true rfl) ⟨Nat.zero_le _, Nat.zero_le _⟩ dX7_does_173 (fun H locs hP hS => ?_)
                                          exact xt_iret hx hb hr hP hS (rs_1 hf) (rs_2 hf) dX7_does_176 hlocks
                                        · have hf := (if_neg c44).symm.trans hf
                                          by_cases c46 : (σ 14 a1.toNatClampNeg) = 119
                                          · have hf := (if_pos c46).symm.trans hf
                                            refine lv_tableIn (tgt := 144) (off := 120) hx hb dX7_does_24 (by rw [c46]; decide) (by rw [c46]; decide) (by rw [c46]; rfl) (by decide) ?_
                                            refine lv_aload_n hx hb dX7_does_144 rfl (lv_at hl 2 rfl) ?_
                                            refine lv_iload_n hx hb dX7_does_145 rfl (lv_at hl 1 rfl) ?_
                                            refine lv_iload_n hx hb dX7_does_146 rfl (lv_at hl 0 rfl) ?_
                                            obtain ⟨r47, qr47, hf⟩ := bd_some hf
                                            refine xt_callVi (As := [.int v2, .int v4]) (rest := []) (C := RX7) (ci := 7) ⟨hx, hb, hml, hown, hts⟩ 0 (mX7_weighs l dC dI ad cy hJ σ v2 v4 r47 qr47) (cwV 2 hts gX7_does_X7_weighs rfl rfl rfl dmX7_weighs ⟨Nat.le_of_ble_eq_true rfl, Nat.le_of_ble_eq_true rfl⟩) hK hP hS (by decide) (LX7_obj ad cy _) rfl rfl rfl hl.1 (Nat.le_of_ble_eq_true rfl) ⟨Nat.zero_le _, Nat.zero_le _⟩ dX7_does_147 (fun H locs hP hS => ?_)
                                            exact xt_iret hx hb hr hP hS (rs_1 hf) (rs_2 hf) dX7_does_150 hlocks
                                          · have hf := (if_neg c46).symm.trans hf
                                            refine lv_tableOut (tgt := 170) hx hb dX7_does_24 (by have ic6 : ¬ Int32.toInt (σ 14 a1.toNatClampNeg) = 99 := lv_neT c6 (by decide); have ic8 : ¬ Int32.toInt (σ 14 a1.toNatClampNeg) = 100 := lv_neT c8 (by decide); have ic10 : ¬ Int32.toInt (σ 14 a1.toNatClampNeg) = 101 := lv_neT c10 (by decide); have ic12 : ¬ Int32.toInt (σ 14 a1.toNatClampNeg) = 102 := lv_neT c12 (by decide); have ic14 : ¬ Int32.toInt (σ 14 a1.toNatClampNeg) = 103 := lv_neT c14 (by decide); have ic16 : ¬ Int32.toInt (σ 14 a1.toNatClampNeg) = 104 := lv_neT c16 (by decide); have ic18 : ¬ Int32.toInt (σ 14 a1.toNatClampNeg) = 105 := lv_neT c18 (by decide); have ic20 : ¬ Int32.toInt (σ 14 a1.toNatClampNeg) = 106 := lv_neT c20 (by decide); have ic22 : ¬ Int32.toInt (σ 14 a1.toNatClampNeg) = 107 := lv_neT c22 (by decide); have ic24 : ¬ Int32.toInt (σ 14 a1.toNatClampNeg) = 108 := lv_neT c24 (by decide); have ic26 : ¬ Int32.toInt (σ 14 a1.toNatClampNeg) = 109 := lv_neT c26 (by decide); have ic28 : ¬ Int32.toInt (σ 14 a1.toNatClampNeg) = 110 := lv_neT c28 (by decide); have ic30 : ¬ Int32.toInt (σ 14 a1.toNatClampNeg) = 111 := lv_neT c30 (by decide); have ic32 : ¬ Int32.toInt (σ 14 a1.toNatClampNeg) = 112 := lv_neT c32 (by decide); have ic34 : ¬ Int32.toInt (σ 14 a1.toNatClampNeg) = 113 := lv_neT c34 (by decide); have ic36 : ¬ Int32.toInt (σ 14 a1.toNatClampNeg) = 114 := lv_neT c36 (by decide); have ic38 : ¬ Int32.toInt (σ 14 a1.toNatClampNeg) = 115 := lv_neT c38 (by decide); have ic40 : ¬ Int32.toInt (σ 14 a1.toNatClampNeg) = 116 := lv_neT c40 (by decide); have ic42 : ¬ Int32.toInt (σ 14 a1.toNatClampNeg) = 117 := lv_neT c42 (by decide); have ic44 : ¬ Int32.toInt (σ 14 a1.toNatClampNeg) = 118 := lv_neT c44 (by decide); have ic46 : ¬ Int32.toInt (σ 14 a1.toNatClampNeg) = 119 := lv_neT c46 (by decide); omega) (by decide) ?_
                                            refine lv_aload_n hx hb dX7_does_170 rfl (lv_at hl 2 rfl) ?_
                                            refine lv_iload_n hx hb dX7_does_171 rfl (lv_at hl 1 rfl) ?_
                                            refine lv_iload_n hx hb dX7_does_172 rfl (lv_at hl 0 rfl) ?_
                                            obtain ⟨r48, qr48, hf⟩ := bd_some hf
                                            refine xt_callVi (As := [.int v2, .int v4]) (rest := []) (C := RX7) (ci := 7) ⟨hx, hb, hml, hown, hts⟩ 0 (mX7_comes l dC dI ad cy hJ σ v2 v4 r48 qr48) (cwV 2 hts gX7_does_X7_comes rfl rfl rfl dmX7_comes ⟨Nat.le_of_ble_eq_true rfl, Nat.le_of_ble_eq_true rfl⟩) hK hP hS (by decide) (LX7_obj ad cy _) rfl rfl rfl hl.1 (Nat.le_of_ble_eq_true rfl) ⟨Nat.zero_le _, Nat.zero_le _⟩ dX7_does_173 (fun H locs hP hS => ?_)
                                            exact xt_iret hx hb hr hP hS (rs_1 hf) (rs_2 hf) dX7_does_176 hlocks
def fX7_run_B73 (σ : St) : Option (Int32 × St) :=
  bd (fX7_ends σ (σ 0 22)) fun r1 => some (r1.1, r1.2)
def fX7_run_L31 (K31_73 : St → Option (Int32 × St)) : Nat → St → Int32 → Option (Int32 × St)
  | 0, _, _ => none
  | n31 + 1, σ, x1 => if (σ 0 22) ≤ x1 then (K31_73 σ) else (bd (fX7_does σ (3 * x1)) fun r3 => bd (fX7_in r3.2 r3.1 (-15) (-11)) fun r4 => if r4 = 0 then (nm (x1 + 1) fun v6 => (fX7_run_L31 K31_73 n31) r3.2 v6) else (bd (fX7_refuses r3.2 4 x1) fun r7 => bd (fX7_ends r7.2 r7.1) fun r8 => some (r8.1, r8.2)))
def fX7_run (σ : St) : Option (Int32 × St) :=
  bd (fX7_parse σ) fun r9 => nm (su r9 0 18 0) fun σ10 => if (σ10 0 20) < 0 then (bd (fX7_begins σ10) fun r12 => fX7_run_L31 (fun σ => fX7_run_B73 σ) 1000 r12 0) else (some (((-1000) - (σ10 0 20)), σ10))
abbrev rmX7_run : Room := { frames := 8, cells := 0, slots := 0, locals := 175 }
theorem dmX7_run : yX7_run.cls = RX7 ∧ yX7_run.cls ≠ "java/lang/invoke/MethodHandle" ∧ yX7_run.cls ≠ "java/lang/invoke/VarHandle" ∧ (parseMethodDescriptor yX7_run.desc).map (fun d => d.parameters.length) = some 0 := by decide +kernel
theorem iX7_run_X7 : ∀ w ∈ wsX70, w ∈ wsX7_run := fun w h => List.mem_cons_of_mem _ (List.mem_append_right _ (h))
set_option maxHeartbeats 8000000 in
set_option maxRecDepth 100000 in
theorem mX7_run (l : Launch) (dC : Nat → ClassId) (dI : Nat → Nat → Nat) (ad : Nat → Nat) (cy : Nat → ClassId) (hJ : WJ 16 ad) (σ : St) (res : (Int32 × St)) (hf : fX7_run σ = some res) : CMi l yX7_run wsX7_run rmX7_run (dC, dI) (tysX cy) 16 ad (layM ad cy) [.ref (ad 0)] σ res.1 res.2 := by
  refine Met.ofW (cc := cX7_run) (maxL := 2) (ret := (some .int)) (by decide) rfl ?_
  intro p e s m args below meth c s₁ B hml hv
  obtain ⟨hargs, hP, hK⟩ := hv
  have hx := B.exec
  have hb := B.bytes
  have hr := B.returns
  have hts := atoms_spec (ws := wsX7_run) B.pre
  have hown : s.vm.findClass RX7 = some m.cls := findClass_of_methodNamed B.named
  have hlocks := B.notSynchronized
  have w1 := hts (.fieldLink RX7 193 "PierRingsModel" "textSize" "I") (List.mem_of_getElem? (i := 1) rfl)
  have w2 := hts (.fieldLink RX7 199 "PierRingsModel" "fault" "I") (List.mem_of_getElem? (i := 2) rfl)
  have w3 := hts (.fieldLink RX7 212 "PierRingsModel" "commandMany" "I") (List.mem_of_getElem? (i := 3) rfl)
  have hS : va_S (WA 16 ad) s.heap s.heap [] := va_S.rf
  have hfr : entryFrame m args 2 = F0 m 0 ((lg_sl [.ref (ad 0)] ++ List.replicate (2 - (lg_sl [.ref (ad 0)]).length) Slot.unset).toArray) [] := by rw [hargs]; exact lg_entry_eq _ _ _
  rw [hfr]
  have hl := lv_entry ([.ref (ad 0)]) (n := 2) (Nat.le_of_ble_eq_true rfl)
  generalize (lg_sl [.ref (ad 0)] ++ List.replicate (2 - (lg_sl [.ref (ad 0)]).length) Slot.unset).toArray = ls at hl ⊢
  have hl : lv_has ls 2 [(0, .ref (ad 0))] := hl
  clear hfr hargs B
  show W p l e rmX7_run s m args below meth c s.heap [] 0 0 (MQ below (Qiw (dC, dI) 16 ad (layM ad cy) res.1 res.2) args s 0 0 (WA 16 ad)) (F0 m 0 ls [])
  have kB73 : ∀ (σ : St), fX7_run_B73 σ = some res → ∀ (H : Heap) (locs : List Loc), va_P (dC, dI) vwCl (wd 16 ad (layM ad cy) σ) H → va_S (WA 16 ad) s.heap H locs → ∀ (ls : Array Slot), lv_has ls 2 [(0, .ref (ad 0))] → W p l e rmX7_run s m args below meth c H locs 0 0 (MQ below (Qiw (dC, dI) 16 ad (layM ad cy) res.1 res.2) args s 0 0 (WA 16 ad)) (F0 m 73 ls []) := by
    intro σ hf H locs hP hS ls hl
    unfold fX7_run_B73 at hf
    refine lv_aload_n hx hb dX7_run_73 rfl (lv_at hl 0 rfl) ?_
    refine lv_aload_n hx hb dX7_run_74 rfl (lv_at hl 0 rfl) ?_
    refine xt_get (ci := 7) (C := RX7) (T := TX7) (n := 25) (v := .int (σ 0 22)) hx hb hts iX7_run_X7 hown hK hP 0 (by decide) (LX7_obj ad cy _) rfl 22 (by decide) w3 rfl dX7_run_75 ?_
    obtain ⟨r1, qr1, hf⟩ := bd_some hf
    refine xt_callVi (As := [.int (σ 0 22)]) (rest := []) (C := RX7) (ci := 7) ⟨hx, hb, hml, hown, hts⟩ 0 (mX7_ends l dC dI ad cy hJ σ (σ 0 22) r1 qr1) (cwV 1 hts gX7_run_X7_ends rfl rfl rfl dmX7_ends ⟨Nat.le_of_ble_eq_true rfl, Nat.le_of_ble_eq_true rfl⟩) hK hP hS (by decide) (LX7_obj ad cy _) rfl rfl rfl hl.1 (Nat.le_of_ble_eq_true rfl) ⟨Nat.zero_le _, Nat.zero_le _⟩ dX7_run_78 (fun H locs hP hS => ?_)
    exact xt_iret hx hb hr hP hS (rs_1 hf) (rs_2 hf) dX7_run_81 hlocks
  have loop31 : ∀ (n31 : Nat) (σ : St) (x1 : Int32), fX7_run_L31 (fun σ => fX7_run_B73 σ) n31 σ x1 = some res → ∀ (H : Heap) (locs : List Loc), va_P (dC, dI) vwCl (wd 16 ad (layM ad cy) σ) H → va_S (WA 16 ad) s.heap H locs → ∀ (ls : Array Slot), lv_has ls 2 [(0, .ref (ad 0)), (1, .int x1)] → W p l e rmX7_run s m args below meth c H locs 0 0 (MQ below (Qiw (dC, dI) 16 ad (layM ad cy) res.1 res.2) args s 0 0 (WA 16 ad)) (F0 m 31 ls []) := by
    intro n31
    induction n31 with
    | zero => intro σ x1 hf; simp [fX7_run_L31] at hf
    | succ n31 ih31 =>
      intro σ x1 hf H locs hP hS ls hl
      rw [fX7_run_L31] at hf
      refine lv_iload_n hx hb dX7_run_31 rfl (lv_at hl 1 rfl) ?_
      refine lv_aload_n hx hb dX7_run_32 rfl (lv_at hl 0 rfl) ?_
      refine xt_get (ci := 7) (C := RX7) (T := TX7) (n := 25) (v := .int (σ 0 22)) hx hb hts iX7_run_X7 hown hK hP 0 (by decide) (LX7_obj ad cy _) rfl 22 (by decide) w3 rfl dX7_run_33 ?_
      refine lv_icmp_ge (tgt := 73) hx hb dX7_run_36 (by decide) (fun c2 => ?_) (fun c2 => ?_)
      · have hf := (if_pos c2).symm.trans hf
        exact kB73 σ hf H locs hP hS ls (lv_sub hl [0] rfl)
      · have hf := (if_neg c2).symm.trans hf
        refine lv_aload_n hx hb dX7_run_39 rfl (lv_at hl 0 rfl) ?_
        refine lv_iconst (v := 3) hx hb dX7_run_40 (by decide) ?_
        refine lv_iload_n hx hb dX7_run_41 rfl (lv_at hl 1 rfl) ?_
        refine lv_imul hx hb dX7_run_42 ?_
        obtain ⟨r3, qr3, hf⟩ := bd_some hf
        refine xt_callVi (As := [.int (3 * x1)]) (rest := []) (C := RX7) (ci := 7) ⟨hx, hb, hml, hown, hts⟩ 0 (mX7_does l dC dI ad cy hJ σ (3 * x1) r3 qr3) (cwV 1 hts gX7_run_X7_does rfl rfl rfl dmX7_does ⟨Nat.le_of_ble_eq_true rfl, Nat.le_of_ble_eq_true rfl⟩) hK hP hS (by decide) (LX7_obj ad cy _) rfl rfl rfl hl.1 (Nat.le_of_ble_eq_true rfl) ⟨Nat.zero_le _, Nat.zero_le _⟩ dX7_run_43 (fun H locs hP hS => ?_)
        refine lv_bipush (v := (-15)) hx hb dX7_run_46 (by decide) ?_
        refine lv_bipush (v := (-11)) hx hb dX7_run_48 (by decide) ?_
        obtain ⟨r4, qr4, hf⟩ := bd_some hf
        refine xt_callSi (As := [.int r3.1, .int (-15), .int (-11)]) (rest := []) ⟨hx, hb, hml, hown, hts⟩ (mX7_in l dC dI ad cy hJ r3.2 r3.1 (-15) (-11) r4 qr4) (va_cwS 3 hts gX7_run_X7_in rfl rfl rfl dmX7_in ⟨Nat.le_of_ble_eq_true rfl, Nat.le_of_ble_eq_true rfl⟩) hK hP hS rfl rfl hl.1 (Nat.le_of_ble_eq_true rfl) ⟨Nat.zero_le _, Nat.zero_le _⟩ dX7_run_50 (fun H locs hP hS => ?_)
        refine lv_if_eq (tgt := 67) hx hb dX7_run_53 (by decide) (fun c5 => ?_) (fun c5 => ?_)
        · have hf := (if_pos c5).symm.trans hf
          obtain ⟨v6, ev6⟩ : ∃ y : Int32, y = x1 + 1 := ⟨_, rfl⟩
          have hf := nm_to hf ev6
          refine lv_iinc (v := v6) (lv' := [(1, .int v6), (0, .ref (ad 0))]) hx hb dX7_run_67 hl (k := 1) rfl (by rw [ev6]; rfl) (by decide) rfl (fun ls hl => ?_)
          refine lv_goto (tgt := 31) hx hb dX7_run_70 (by decide) ?_
          exact ih31 r3.2 v6 hf H locs hP hS ls (lv_sub hl [1, 0] rfl)
        · have hf := (if_neg c5).symm.trans hf
          refine lv_aload_n hx hb dX7_run_56 rfl (lv_at hl 0 rfl) ?_
          refine lv_aload_n hx hb dX7_run_57 rfl (lv_at hl 0 rfl) ?_
          refine lv_iconst (v := 4) hx hb dX7_run_58 (by decide) ?_
          refine lv_iload_n hx hb dX7_run_59 rfl (lv_at hl 1 rfl) ?_
          obtain ⟨r7, qr7, hf⟩ := bd_some hf
          refine xt_callVi (As := [.int 4, .int x1]) (rest := [.ref (ad 0)]) (C := RX7) (ci := 7) ⟨hx, hb, hml, hown, hts⟩ 0 (mX7_refuses l dC dI ad cy hJ r3.2 4 x1 r7 qr7) (cwV 2 hts gX7_run_X7_refuses rfl rfl rfl dmX7_refuses ⟨Nat.le_of_ble_eq_true rfl, Nat.le_of_ble_eq_true rfl⟩) hK hP hS (by decide) (LX7_obj ad cy _) rfl rfl rfl hl.1 (Nat.le_of_ble_eq_true rfl) ⟨Nat.zero_le _, Nat.zero_le _⟩ dX7_run_60 (fun H locs hP hS => ?_)
          obtain ⟨r8, qr8, hf⟩ := bd_some hf
          refine xt_callVi (As := [.int r7.1]) (rest := []) (C := RX7) (ci := 7) ⟨hx, hb, hml, hown, hts⟩ 0 (mX7_ends l dC dI ad cy hJ r7.2 r7.1 r8 qr8) (cwV 1 hts gX7_run_X7_ends rfl rfl rfl dmX7_ends ⟨Nat.le_of_ble_eq_true rfl, Nat.le_of_ble_eq_true rfl⟩) hK hP hS (by decide) (LX7_obj ad cy _) rfl rfl rfl hl.1 (Nat.le_of_ble_eq_true rfl) ⟨Nat.zero_le _, Nat.zero_le _⟩ dX7_run_63 (fun H locs hP hS => ?_)
          exact xt_iret hx hb hr hP hS (rs_1 hf) (rs_2 hf) dX7_run_66 hlocks
  unfold fX7_run at hf
  obtain ⟨H, eH⟩ : ∃ H : Heap, H = s.heap := ⟨_, rfl⟩
  rw [← eH] at hP
  have hS : va_S (WA 16 ad) s.heap H [] := by rw [eH]; exact hS
  suffices K : W p l e rmX7_run s m args below meth c H [] 0 0 (MQ below (Qiw (dC, dI) 16 ad (layM ad cy) res.1 res.2) args s 0 0 (WA 16 ad)) (F0 m 0 ls []) by rw [eH] at K; exact K
  clear eH
  obtain ⟨locs, elocs⟩ : ∃ z : List Loc, z = [] := ⟨_, rfl⟩
  rw [← elocs] at hS ⊢
  refine lv_aload_n hx hb dX7_run_0 rfl (lv_at hl 0 rfl) ?_
  obtain ⟨r9, qr9, hf⟩ := bd_some hf
  refine xt_callVv (As := []) (rest := []) (C := RX7) (ci := 7) ⟨hx, hb, hml, hown, hts⟩ 0 (mX7_parse l dC dI ad cy hJ σ r9 qr9) (cwV 0 hts gX7_run_X7_parse rfl rfl rfl dmX7_parse ⟨Nat.le_of_ble_eq_true rfl, Nat.le_of_ble_eq_true rfl⟩) hK hP hS (by decide) (LX7_obj ad cy _) rfl rfl rfl hl.1 (Nat.le_of_ble_eq_true rfl) ⟨Nat.zero_le _, Nat.zero_le _⟩ dX7_run_1 (fun H locs hP hS => ?_)
  refine lv_aload_n hx hb dX7_run_4 rfl (lv_at hl 0 rfl) ?_
  refine lv_iconst (v := 0) hx hb dX7_run_5 (by decide) ?_
  refine xt_put (ci := 7) (C := RX7) (T := TX7) (n := 25) hx hb hts iX7_run_X7 tyX7 tyX7_ok nmX7 hown hK hP hJ hS 0 (by decide) (LX7_obj ad cy _) rfl 18 (by decide) w1 rfl (v := 0) rfl rfl (Nat.le_of_ble_eq_true rfl) (LX7_obj ad cy _) dX7_run_6 (fun H locs hP hS => ?_)
  obtain ⟨σ10, eσ10⟩ : ∃ z : St, z = su r9 0 18 0 := ⟨_, rfl⟩
  rw [← eσ10] at hP
  have hf := nm_to hf eσ10
  refine lv_aload_n hx hb dX7_run_9 rfl (lv_at hl 0 rfl) ?_
  refine xt_get (ci := 7) (C := RX7) (T := TX7) (n := 25) (v := .int (σ10 0 20)) hx hb hts iX7_run_X7 hown hK hP 0 (by decide) (LX7_obj ad cy _) rfl 20 (by decide) w2 rfl dX7_run_10 ?_
  refine lv_if_lt (tgt := 25) hx hb dX7_run_13 (by decide) (fun c11 => ?_) (fun c11 => ?_)
  · have hf := (if_pos c11).symm.trans hf
    refine lv_aload_n hx hb dX7_run_25 rfl (lv_at hl 0 rfl) ?_
    obtain ⟨r12, qr12, hf⟩ := bd_some hf
    refine xt_callVv (As := []) (rest := []) (C := RX7) (ci := 7) ⟨hx, hb, hml, hown, hts⟩ 0 (mX7_begins l dC dI ad cy hJ σ10 r12 qr12) (cwV 0 hts gX7_run_X7_begins rfl rfl rfl dmX7_begins ⟨Nat.le_of_ble_eq_true rfl, Nat.le_of_ble_eq_true rfl⟩) hK hP hS (by decide) (LX7_obj ad cy _) rfl rfl rfl hl.1 (Nat.le_of_ble_eq_true rfl) ⟨Nat.zero_le _, Nat.zero_le _⟩ dX7_run_26 (fun H locs hP hS => ?_)
    refine lv_iconst (v := 0) hx hb dX7_run_29 (by decide) ?_
    refine lv_istore_n (lv' := [(1, .int 0), (0, .ref (ad 0))]) hx hb dX7_run_30 rfl hl (by decide) rfl (fun ls hl => ?_)
    exact loop31 1000 r12 0 hf H locs hP hS ls (lv_sub hl [1, 0] rfl)
  · have hf := (if_neg c11).symm.trans hf
    refine lv_sipush (v := (-1000)) hx hb dX7_run_16 (by decide) ?_
    refine lv_aload_n hx hb dX7_run_19 rfl (lv_at hl 0 rfl) ?_
    refine xt_get (ci := 7) (C := RX7) (T := TX7) (n := 25) (v := .int (σ10 0 20)) hx hb hts iX7_run_X7 hown hK hP 0 (by decide) (LX7_obj ad cy _) rfl 20 (by decide) w2 rfl dX7_run_20 ?_
    refine lv_isub hx hb dX7_run_23 ?_
    exact xt_iret hx hb hr hP hS (rs_1 hf) (rs_2 hf) dX7_run_24 hlocks
def fX7_writes (σ : St) (a1 : Int32) : Option St :=
  gd (okI (σ 0 24) 120) <| nm (su σ 15 (σ 0 24).toNatClampNeg a1) fun σ2 => nm (su σ2 0 24 ((σ2 0 24) + 1)) fun σ3 => some σ3
abbrev rmX7_writes : Room := { frames := 0, cells := 0, slots := 0, locals := 0 }
theorem dmX7_writes : yX7_writes.cls = RX7 ∧ yX7_writes.cls ≠ "java/lang/invoke/MethodHandle" ∧ yX7_writes.cls ≠ "java/lang/invoke/VarHandle" ∧ (parseMethodDescriptor yX7_writes.desc).map (fun d => d.parameters.length) = some 1 := by decide +kernel
theorem iX7_writes_X7 : ∀ w ∈ wsX70, w ∈ wsX7_writes := fun w h => List.mem_cons_of_mem _ (List.mem_append_right _ (h))
set_option maxHeartbeats 8000000 in
set_option maxRecDepth 100000 in
theorem mX7_writes (l : Launch) (dC : Nat → ClassId) (dI : Nat → Nat → Nat) (ad : Nat → Nat) (cy : Nat → ClassId) (hJ : WJ 16 ad) (σ : St) (a1 : Int32) (res : St) (hf : fX7_writes σ a1 = some res) : CMv l yX7_writes wsX7_writes rmX7_writes (dC, dI) (tysX cy) 16 ad (layM ad cy) [.ref (ad 0), .int a1] σ res := by
  refine Met.ofW (cc := cX7_writes) (maxL := 2) (ret := none) (by decide) rfl ?_
  intro p e s m args below meth c s₁ B hml hv
  obtain ⟨hargs, hP, hK⟩ := hv
  have hx := B.exec
  have hb := B.bytes
  have hr := B.returns
  have hts := atoms_spec (ws := wsX7_writes) B.pre
  have hown : s.vm.findClass RX7 = some m.cls := findClass_of_methodNamed B.named
  have hlocks := B.notSynchronized
  have w1 := hts (.fieldLink RX7 52 "PierRingsModel" "line" "[I") (List.mem_of_getElem? (i := 1) rfl)
  have w2 := hts (.fieldLink RX7 234 "PierRingsModel" "lineSize" "I") (List.mem_of_getElem? (i := 2) rfl)
  have hS : va_S (WA 16 ad) s.heap s.heap [] := va_S.rf
  have hfr : entryFrame m args 2 = F0 m 0 ((lg_sl [.ref (ad 0), .int a1] ++ List.replicate (2 - (lg_sl [.ref (ad 0), .int a1]).length) Slot.unset).toArray) [] := by rw [hargs]; exact lg_entry_eq _ _ _
  rw [hfr]
  have hl := lv_entry ([.ref (ad 0), .int a1]) (n := 2) (Nat.le_of_ble_eq_true rfl)
  generalize (lg_sl [.ref (ad 0), .int a1] ++ List.replicate (2 - (lg_sl [.ref (ad 0), .int a1]).length) Slot.unset).toArray = ls at hl ⊢
  have hl : lv_has ls 2 [(0, .ref (ad 0)), (1, .int a1)] := hl
  clear hfr hargs B
  show W p l e rmX7_writes s m args below meth c s.heap [] 0 0 (MQ below (Qvw (dC, dI) 16 ad (layM ad cy) res) args s 0 0 (WA 16 ad)) (F0 m 0 ls [])
  unfold fX7_writes at hf
  obtain ⟨H, eH⟩ : ∃ H : Heap, H = s.heap := ⟨_, rfl⟩
  rw [← eH] at hP
  have hS : va_S (WA 16 ad) s.heap H [] := by rw [eH]; exact hS
  suffices K : W p l e rmX7_writes s m args below meth c H [] 0 0 (MQ below (Qvw (dC, dI) 16 ad (layM ad cy) res) args s 0 0 (WA 16 ad)) (F0 m 0 ls []) by rw [eH] at K; exact K
  clear eH
  obtain ⟨locs, elocs⟩ : ∃ z : List Loc, z = [] := ⟨_, rfl⟩
  rw [← elocs] at hS ⊢
  refine lv_aload_n hx hb dX7_writes_0 rfl (lv_at hl 0 rfl) ?_
  refine xt_get (ci := 7) (C := RX7) (T := TX7) (n := 25) (v := .ref (ad 15)) hx hb hts iX7_writes_X7 hown hK hP 0 (by decide) (LX7_obj ad cy _) rfl 23 (by decide) w1 rfl dX7_writes_1 ?_
  refine lv_aload_n hx hb dX7_writes_4 rfl (lv_at hl 0 rfl) ?_
  refine xt_get (ci := 7) (C := RX7) (T := TX7) (n := 25) (v := .int (σ 0 24)) hx hb hts iX7_writes_X7 hown hK hP 0 (by decide) (LX7_obj ad cy _) rfl 24 (by decide) w2 rfl dX7_writes_5 ?_
  refine lv_iload_n hx hb dX7_writes_8 rfl (lv_at hl 1 rfl) ?_
  obtain ⟨g1, hf⟩ := gd_some hf
  refine xt_iast hx hb hK hP hJ hS 15 (by decide) 0 (LX7_line ad cy) rfl g1 dX7_writes_9 (fun H locs hP hS => ?_)
  obtain ⟨σ2, eσ2⟩ : ∃ z : St, z = su σ 15 (σ 0 24).toNatClampNeg a1 := ⟨_, rfl⟩
  rw [← eσ2] at hP
  have hf := nm_to hf eσ2
  refine lv_aload_n hx hb dX7_writes_10 rfl (lv_at hl 0 rfl) ?_
  refine lv_dup hx hb dX7_writes_11 rfl ?_
  refine xt_get (ci := 7) (C := RX7) (T := TX7) (n := 25) (v := .int (σ2 0 24)) hx hb hts iX7_writes_X7 hown hK hP 0 (by decide) (LX7_obj ad cy _) rfl 24 (by decide) w2 rfl dX7_writes_12 ?_
  refine lv_iconst (v := 1) hx hb dX7_writes_15 (by decide) ?_
  refine lv_iadd hx hb dX7_writes_16 ?_
  refine xt_put (ci := 7) (C := RX7) (T := TX7) (n := 25) hx hb hts iX7_writes_X7 tyX7 tyX7_ok nmX7 hown hK hP hJ hS 0 (by decide) (LX7_obj ad cy _) rfl 24 (by decide) w2 rfl (v := ((σ2 0 24) + 1)) rfl rfl (Nat.le_of_ble_eq_true rfl) (LX7_obj ad cy _) dX7_writes_17 (fun H locs hP hS => ?_)
  obtain ⟨σ3, eσ3⟩ : ∃ z : St, z = su σ2 0 24 ((σ2 0 24) + 1) := ⟨_, rfl⟩
  rw [← eσ3] at hP
  have hf := nm_to hf eσ3
  exact xt_vret hx hb hr hP hS (Option.some.inj hf) dX7_writes_20 hlocks
def fX7_character (σ : St) (a1 : Int32) : Option Int32 :=
  bd (fX7_in σ a1 0 ((σ 0 24) - 1)) fun r1 => if r1 = 0 then (some (-11 : Int32)) else (gd (okI a1 120) <| some (σ 15 a1.toNatClampNeg))
abbrev rmX7_character : Room := { frames := 1, cells := 0, slots := 0, locals := 22 }
theorem dmX7_character : yX7_character.cls = RX7 ∧ yX7_character.cls ≠ "java/lang/invoke/MethodHandle" ∧ yX7_character.cls ≠ "java/lang/invoke/VarHandle" ∧ (parseMethodDescriptor yX7_character.desc).map (fun d => d.parameters.length) = some 1 := by decide +kernel
theorem iX7_character_X7 : ∀ w ∈ wsX70, w ∈ wsX7_character := fun w h => List.mem_cons_of_mem _ (List.mem_append_right _ (h))
set_option maxHeartbeats 8000000 in
set_option maxRecDepth 100000 in
theorem mX7_character (l : Launch) (dC : Nat → ClassId) (dI : Nat → Nat → Nat) (ad : Nat → Nat) (cy : Nat → ClassId) (hJ : WJ 16 ad) (σ : St) (a1 : Int32) (res : Int32) (hf : fX7_character σ a1 = some res) : CMi l yX7_character wsX7_character rmX7_character (dC, dI) (tysX cy) 16 ad (layM ad cy) [.ref (ad 0), .int a1] σ res σ := by
  refine Met.ofW (cc := cX7_character) (maxL := 2) (ret := (some .int)) (by decide) rfl ?_
  intro p e s m args below meth c s₁ B hml hv
  obtain ⟨hargs, hP, hK⟩ := hv
  have hx := B.exec
  have hb := B.bytes
  have hr := B.returns
  have hts := atoms_spec (ws := wsX7_character) B.pre
  have hown : s.vm.findClass RX7 = some m.cls := findClass_of_methodNamed B.named
  have hlocks := B.notSynchronized
  have w1 := hts (.fieldLink RX7 234 "PierRingsModel" "lineSize" "I") (List.mem_of_getElem? (i := 1) rfl)
  have w2 := hts (.fieldLink RX7 52 "PierRingsModel" "line" "[I") (List.mem_of_getElem? (i := 2) rfl)
  have hS : va_S (WA 16 ad) s.heap s.heap [] := va_S.rf
  have hfr : entryFrame m args 2 = F0 m 0 ((lg_sl [.ref (ad 0), .int a1] ++ List.replicate (2 - (lg_sl [.ref (ad 0), .int a1]).length) Slot.unset).toArray) [] := by rw [hargs]; exact lg_entry_eq _ _ _
  rw [hfr]
  have hl := lv_entry ([.ref (ad 0), .int a1]) (n := 2) (Nat.le_of_ble_eq_true rfl)
  generalize (lg_sl [.ref (ad 0), .int a1] ++ List.replicate (2 - (lg_sl [.ref (ad 0), .int a1]).length) Slot.unset).toArray = ls at hl ⊢
  have hl : lv_has ls 2 [(0, .ref (ad 0)), (1, .int a1)] := hl
  clear hfr hargs B
  show W p l e rmX7_character s m args below meth c s.heap [] 0 0 (MQ below (Qiw (dC, dI) 16 ad (layM ad cy) res σ) args s 0 0 (WA 16 ad)) (F0 m 0 ls [])
  unfold fX7_character at hf
  obtain ⟨H, eH⟩ : ∃ H : Heap, H = s.heap := ⟨_, rfl⟩
  rw [← eH] at hP
  have hS : va_S (WA 16 ad) s.heap H [] := by rw [eH]; exact hS
  suffices K : W p l e rmX7_character s m args below meth c H [] 0 0 (MQ below (Qiw (dC, dI) 16 ad (layM ad cy) res σ) args s 0 0 (WA 16 ad)) (F0 m 0 ls []) by rw [eH] at K; exact K
  clear eH
  obtain ⟨locs, elocs⟩ : ∃ z : List Loc, z = [] := ⟨_, rfl⟩
  rw [← elocs] at hS ⊢
  refine lv_iload_n hx hb dX7_character_0 rfl (lv_at hl 1 rfl) ?_
  refine lv_iconst (v := 0) hx hb dX7_character_1 (by decide) ?_
  refine lv_aload_n hx hb dX7_character_2 rfl (lv_at hl 0 rfl) ?_
  refine xt_get (ci := 7) (C := RX7) (T := TX7) (n := 25) (v := .int (σ 0 24)) hx hb hts iX7_character_X7 hown hK hP 0 (by decide) (LX7_obj ad cy _) rfl 24 (by decide) w1 rfl dX7_character_3 ?_
  refine lv_iconst (v := 1) hx hb dX7_character_6 (by decide) ?_
  refine lv_isub hx hb dX7_character_7 ?_
  obtain ⟨r1, qr1, hf⟩ := bd_some hf
  refine xt_callSi (As := [.int a1, .int 0, .int ((σ 0 24) - 1)]) (rest := []) ⟨hx, hb, hml, hown, hts⟩ (mX7_in l dC dI ad cy hJ σ a1 0 ((σ 0 24) - 1) r1 qr1) (va_cwS 3 hts gX7_character_X7_in rfl rfl rfl dmX7_in ⟨Nat.le_of_ble_eq_true rfl, Nat.le_of_ble_eq_true rfl⟩) hK hP hS rfl rfl hl.1 (Nat.le_of_ble_eq_true rfl) ⟨Nat.zero_le _, Nat.zero_le _⟩ dX7_character_8 (fun H locs hP hS => ?_)
  refine lv_if_eq (tgt := 23) hx hb dX7_character_11 (by decide) (fun c2 => ?_) (fun c2 => ?_)
  · have hf := (if_pos c2).symm.trans hf
    refine lv_bipush (v := (-11)) hx hb dX7_character_23 (by decide) ?_
    exact xt_iret hx hb hr hP hS (Option.some.inj hf) rfl dX7_character_25 hlocks
  · have hf := (if_neg c2).symm.trans hf
    refine lv_aload_n hx hb dX7_character_14 rfl (lv_at hl 0 rfl) ?_
    refine xt_get (ci := 7) (C := RX7) (T := TX7) (n := 25) (v := .ref (ad 15)) hx hb hts iX7_character_X7 hown hK hP 0 (by decide) (LX7_obj ad cy _) rfl 23 (by decide) w2 rfl dX7_character_15 ?_
    refine lv_iload_n hx hb dX7_character_18 rfl (lv_at hl 1 rfl) ?_
    obtain ⟨g3, hf⟩ := gd_some hf
    refine xt_iald hx hb hK hP 15 (by decide) 0 (LX7_line ad cy _) rfl g3 dX7_character_19 ?_
    refine lv_goto (tgt := 25) hx hb dX7_character_20 (by decide) ?_
    exact xt_iret hx hb hr hP hS (Option.some.inj hf) rfl dX7_character_25 hlocks
def fX7_sum_B89 (σ : St) (x2 : Int32) : Option Int32 :=
  some x2
def fX7_sum_L4 (σ : St) (x1 : Int32) (K4_89 : Int32 → Option Int32) : Nat → Int32 → Int32 → Option Int32
  | 0, _, _ => none
  | n4 + 1, x2, x3 => if (σ 1 (0 : Int32).toNatClampNeg) ≤ x3 then (K4_89 x2) else (if x1 = 0 then (bd (fX7_p σ x3 1) fun r21 => nm (x2 + r21) fun v22 => nm (x3 + 1) fun v23 => (fX7_sum_L4 σ x1 K4_89 n4) v22 v23) else (if x1 = (1 : Int32) then (bd (fX7_points σ x3) fun r18 => nm (x2 + r18) fun v19 => nm (x3 + 1) fun v20 => (fX7_sum_L4 σ x1 K4_89 n4) v19 v20) else (if x1 = (2 : Int32) then (bd (fX7_room σ x3) fun r15 => nm (x2 + r15) fun v16 => nm (x3 + 1) fun v17 => (fX7_sum_L4 σ x1 K4_89 n4) v16 v17) else (if x1 = (3 : Int32) then (gd (okI x3 8) <| nm (x2 + (σ 7 x3.toNatClampNeg)) fun v13 => nm (x3 + 1) fun v14 => (fX7_sum_L4 σ x1 K4_89 n4) v13 v14) else (bd (fX7_isHot σ x3) fun r6 => if r6 = 0 then (nm (x2 + 0) fun v8 => nm (x3 + 1) fun v9 => (fX7_sum_L4 σ x1 K4_89 n4) v8 v9) else (nm (x2 + 1) fun v10 => nm (x3 + 1) fun v11 => (fX7_sum_L4 σ x1 K4_89 n4) v10 v11))))))
def fX7_sum (σ : St) (a1 : Int32) : Option Int32 :=
  fX7_sum_L4 σ a1 (fun y2 => fX7_sum_B89 σ y2) 1000 0 0
abbrev rmX7_sum : Room := { frames := 4, cells := 0, slots := 0, locals := 88 }
theorem dmX7_sum : yX7_sum.cls = RX7 ∧ yX7_sum.cls ≠ "java/lang/invoke/MethodHandle" ∧ yX7_sum.cls ≠ "java/lang/invoke/VarHandle" ∧ (parseMethodDescriptor yX7_sum.desc).map (fun d => d.parameters.length) = some 1 := by decide +kernel
theorem iX7_sum_X7 : ∀ w ∈ wsX70, w ∈ wsX7_sum := fun w h => List.mem_cons_of_mem _ (List.mem_append_right _ (h))
set_option maxHeartbeats 8000000 in
set_option maxRecDepth 100000 in
theorem mX7_sum (l : Launch) (dC : Nat → ClassId) (dI : Nat → Nat → Nat) (ad : Nat → Nat) (cy : Nat → ClassId) (hJ : WJ 16 ad) (σ : St) (a1 : Int32) (res : Int32) (hf : fX7_sum σ a1 = some res) : CMi l yX7_sum wsX7_sum rmX7_sum (dC, dI) (tysX cy) 16 ad (layM ad cy) [.ref (ad 0), .int a1] σ res σ := by
  refine Met.ofW (cc := cX7_sum) (maxL := 4) (ret := (some .int)) (by decide) rfl ?_
  intro p e s m args below meth c s₁ B hml hv
  obtain ⟨hargs, hP, hK⟩ := hv
  have hx := B.exec
  have hb := B.bytes
  have hr := B.returns
  have hts := atoms_spec (ws := wsX7_sum) B.pre
  have hown : s.vm.findClass RX7 = some m.cls := findClass_of_methodNamed B.named
  have hlocks := B.notSynchronized
  have w1 := hts (.fieldLink RX7 9 "PierRingsModel" "all" "[I") (List.mem_of_getElem? (i := 1) rfl)
  have w2 := hts (.fieldLink RX7 28 "PierRingsModel" "taken" "[I") (List.mem_of_getElem? (i := 2) rfl)
  have hS : va_S (WA 16 ad) s.heap s.heap [] := va_S.rf
  have hfr : entryFrame m args 4 = F0 m 0 ((lg_sl [.ref (ad 0), .int a1] ++ List.replicate (4 - (lg_sl [.ref (ad 0), .int a1]).length) Slot.unset).toArray) [] := by rw [hargs]; exact lg_entry_eq _ _ _
  rw [hfr]
  have hl := lv_entry ([.ref (ad 0), .int a1]) (n := 4) (Nat.le_of_ble_eq_true rfl)
  generalize (lg_sl [.ref (ad 0), .int a1] ++ List.replicate (4 - (lg_sl [.ref (ad 0), .int a1]).length) Slot.unset).toArray = ls at hl ⊢
  have hl : lv_has ls 4 [(0, .ref (ad 0)), (1, .int a1)] := hl
  clear hfr hargs B
  show W p l e rmX7_sum s m args below meth c s.heap [] 0 0 (MQ below (Qiw (dC, dI) 16 ad (layM ad cy) res σ) args s 0 0 (WA 16 ad)) (F0 m 0 ls [])
  have kB89 : ∀ (x2 : Int32), fX7_sum_B89 σ x2 = some res → ∀ (H : Heap) (locs : List Loc), va_P (dC, dI) vwCl (wd 16 ad (layM ad cy) σ) H → va_S (WA 16 ad) s.heap H locs → ∀ (ls : Array Slot), lv_has ls 4 [(2, .int x2)] → W p l e rmX7_sum s m args below meth c H locs 0 0 (MQ below (Qiw (dC, dI) 16 ad (layM ad cy) res σ) args s 0 0 (WA 16 ad)) (F0 m 89 ls []) := by
    intro x2 hf H locs hP hS ls hl
    unfold fX7_sum_B89 at hf
    refine lv_iload_n hx hb dX7_sum_89 rfl (lv_at hl 0 rfl) ?_
    exact xt_iret hx hb hr hP hS (Option.some.inj hf) rfl dX7_sum_90 hlocks
  have loop4 : ∀ (x1 : Int32) (n4 : Nat) (x2 : Int32) (x3 : Int32), fX7_sum_L4 σ x1 (fun y2 => fX7_sum_B89 σ y2) n4 x2 x3 = some res → ∀ (H : Heap) (locs : List Loc), va_P (dC, dI) vwCl (wd 16 ad (layM ad cy) σ) H → va_S (WA 16 ad) s.heap H locs → ∀ (ls : Array Slot), lv_has ls 4 [(0, .ref (ad 0)), (1, .int x1), (2, .int x2), (3, .int x3)] → W p l e rmX7_sum s m args below meth c H locs 0 0 (MQ below (Qiw (dC, dI) 16 ad (layM ad cy) res σ) args s 0 0 (WA 16 ad)) (F0 m 4 ls []) := by
    intro x1 n4
    induction n4 with
    | zero => intro x2 x3 hf; simp [fX7_sum_L4] at hf
    | succ n4 ih4 =>
      intro x2 x3 hf H locs hP hS ls hl
      rw [fX7_sum_L4] at hf
      refine lv_iload_n hx hb dX7_sum_4 rfl (lv_at hl 3 rfl) ?_
      refine lv_aload_n hx hb dX7_sum_5 rfl (lv_at hl 0 rfl) ?_
      refine xt_get (ci := 7) (C := RX7) (T := TX7) (n := 25) (v := .ref (ad 1)) hx hb hts iX7_sum_X7 hown hK hP 0 (by decide) (LX7_obj ad cy _) rfl 0 (by decide) w1 rfl dX7_sum_6 ?_
      refine lv_iconst (v := 0) hx hb dX7_sum_9 (by decide) ?_
      refine xt_iald hx hb hK hP 1 (by decide) 0 (LX7_all ad cy _) rfl (by decide) dX7_sum_10 ?_
      refine lv_icmp_ge (tgt := 89) hx hb dX7_sum_11 (by decide) (fun c1 => ?_) (fun c1 => ?_)
      · have hf := (if_pos c1).symm.trans hf
        exact kB89 x2 hf H locs hP hS ls (lv_sub hl [2] rfl)
      · have hf := (if_neg c1).symm.trans hf
        refine lv_iload_n hx hb dX7_sum_14 rfl (lv_at hl 2 rfl) ?_
        refine lv_iload_n hx hb dX7_sum_15 rfl (lv_at hl 1 rfl) ?_
        refine lv_if_ne (tgt := 28) hx hb dX7_sum_16 (by decide) (fun c2 => ?_) (fun c2 => ?_)
        · have hf := (if_neg c2).symm.trans hf
          refine lv_iload_n hx hb dX7_sum_28 rfl (lv_at hl 1 rfl) ?_
          refine lv_iconst (v := 1) hx hb dX7_sum_29 (by decide) ?_
          refine lv_icmp_ne (tgt := 41) hx hb dX7_sum_30 (by decide) (fun c3 => ?_) (fun c3 => ?_)
          · have hf := (if_neg c3).symm.trans hf
            refine lv_iload_n hx hb dX7_sum_41 rfl (lv_at hl 1 rfl) ?_
            refine lv_iconst (v := 2) hx hb dX7_sum_42 (by decide) ?_
            refine lv_icmp_ne (tgt := 54) hx hb dX7_sum_43 (by decide) (fun c4 => ?_) (fun c4 => ?_)
            · have hf := (if_neg c4).symm.trans hf
              refine lv_iload_n hx hb dX7_sum_54 rfl (lv_at hl 1 rfl) ?_
              refine lv_iconst (v := 3) hx hb dX7_sum_55 (by decide) ?_
              refine lv_icmp_ne (tgt := 68) hx hb dX7_sum_56 (by decide) (fun c5 => ?_) (fun c5 => ?_)
              · have hf := (if_neg c5).symm.trans hf
                refine lv_aload_n hx hb dX7_sum_68 rfl (lv_at hl 0 rfl) ?_
                refine lv_iload_n hx hb dX7_sum_69 rfl (lv_at hl 3 rfl) ?_
                obtain ⟨r6, qr6, hf⟩ := bd_some hf
                refine xt_callVi (As := [.int x3]) (rest := [.int x2]) (C := RX7) (ci := 7) ⟨hx, hb, hml, hown, hts⟩ 0 (mX7_isHot l dC dI ad cy hJ σ x3 r6 qr6) (cwV 1 hts gX7_sum_X7_isHot rfl rfl rfl dmX7_isHot ⟨Nat.le_of_ble_eq_true rfl, Nat.le_of_ble_eq_true rfl⟩) hK hP hS (by decide) (LX7_obj ad cy _) rfl rfl rfl hl.1 (Nat.le_of_ble_eq_true rfl) ⟨Nat.zero_le _, Nat.zero_le _⟩ dX7_sum_70 (fun H locs hP hS => ?_)
                refine lv_if_eq (tgt := 80) hx hb dX7_sum_73 (by decide) (fun c7 => ?_) (fun c7 => ?_)
                · have hf := (if_pos c7).symm.trans hf
                  refine lv_iconst (v := 0) hx hb dX7_sum_80 (by decide) ?_
                  refine lv_iadd hx hb dX7_sum_81 ?_
                  refine lv_topi (fun v8 ev8 => ?_)
                  have hf := nm_to hf ev8
                  refine lv_istore_n (lv' := [(2, .int v8), (0, .ref (ad 0)), (1, .int x1), (3, .int x3)]) hx hb dX7_sum_82 rfl hl (by decide) rfl (fun ls hl => ?_)
                  obtain ⟨v9, ev9⟩ : ∃ y : Int32, y = x3 + 1 := ⟨_, rfl⟩
                  have hf := nm_to hf ev9
                  refine lv_iinc (v := v9) (lv' := [(3, .int v9), (2, .int v8), (0, .ref (ad 0)), (1, .int x1)]) hx hb dX7_sum_83 hl (k := 3) rfl (by rw [ev9]; rfl) (by decide) rfl (fun ls hl => ?_)
                  refine lv_goto (tgt := 4) hx hb dX7_sum_86 (by decide) ?_
                  exact ih4 v8 v9 hf H locs hP hS ls (lv_sub hl [2, 3, 1, 0] rfl)
                · have hf := (if_neg c7).symm.trans hf
                  refine lv_iconst (v := 1) hx hb dX7_sum_76 (by decide) ?_
                  refine lv_goto (tgt := 81) hx hb dX7_sum_77 (by decide) ?_
                  refine lv_iadd hx hb dX7_sum_81 ?_
                  refine lv_topi (fun v10 ev10 => ?_)
                  have hf := nm_to hf ev10
                  refine lv_istore_n (lv' := [(2, .int v10), (0, .ref (ad 0)), (1, .int x1), (3, .int x3)]) hx hb dX7_sum_82 rfl hl (by decide) rfl (fun ls hl => ?_)
                  obtain ⟨v11, ev11⟩ : ∃ y : Int32, y = x3 + 1 := ⟨_, rfl⟩
                  have hf := nm_to hf ev11
                  refine lv_iinc (v := v11) (lv' := [(3, .int v11), (2, .int v10), (0, .ref (ad 0)), (1, .int x1)]) hx hb dX7_sum_83 hl (k := 3) rfl (by rw [ev11]; rfl) (by decide) rfl (fun ls hl => ?_)
                  refine lv_goto (tgt := 4) hx hb dX7_sum_86 (by decide) ?_
                  exact ih4 v10 v11 hf H locs hP hS ls (lv_sub hl [2, 3, 1, 0] rfl)
              · have hf := (if_pos c5).symm.trans hf
                refine lv_aload_n hx hb dX7_sum_59 rfl (lv_at hl 0 rfl) ?_
                refine xt_get (ci := 7) (C := RX7) (T := TX7) (n := 25) (v := .ref (ad 7)) hx hb hts iX7_sum_X7 hown hK hP 0 (by decide) (LX7_obj ad cy _) rfl 10 (by decide) w2 rfl dX7_sum_60 ?_
                refine lv_iload_n hx hb dX7_sum_63 rfl (lv_at hl 3 rfl) ?_
                obtain ⟨g12, hf⟩ := gd_some hf
                refine xt_iald hx hb hK hP 7 (by decide) 0 (LX7_taken ad cy _) rfl g12 dX7_sum_64 ?_
                refine lv_goto (tgt := 81) hx hb dX7_sum_65 (by decide) ?_
                refine lv_iadd hx hb dX7_sum_81 ?_
                refine lv_topi (fun v13 ev13 => ?_)
                have hf := nm_to hf ev13
                refine lv_istore_n (lv' := [(2, .int v13), (0, .ref (ad 0)), (1, .int x1), (3, .int x3)]) hx hb dX7_sum_82 rfl hl (by decide) rfl (fun ls hl => ?_)
                obtain ⟨v14, ev14⟩ : ∃ y : Int32, y = x3 + 1 := ⟨_, rfl⟩
                have hf := nm_to hf ev14
                refine lv_iinc (v := v14) (lv' := [(3, .int v14), (2, .int v13), (0, .ref (ad 0)), (1, .int x1)]) hx hb dX7_sum_83 hl (k := 3) rfl (by rw [ev14]; rfl) (by decide) rfl (fun ls hl => ?_)
                refine lv_goto (tgt := 4) hx hb dX7_sum_86 (by decide) ?_
                exact ih4 v13 v14 hf H locs hP hS ls (lv_sub hl [2, 3, 1, 0] rfl)
            · have hf := (if_pos c4).symm.trans hf
              refine lv_aload_n hx hb dX7_sum_46 rfl (lv_at hl 0 rfl) ?_
              refine lv_iload_n hx hb dX7_sum_47 rfl (lv_at hl 3 rfl) ?_
              obtain ⟨r15, qr15, hf⟩ := bd_some hf
              refine xt_callVi (As := [.int x3]) (rest := [.int x2]) (C := RX7) (ci := 7) ⟨hx, hb, hml, hown, hts⟩ 0 (mX7_room l dC dI ad cy hJ σ x3 r15 qr15) (cwV 1 hts gX7_sum_X7_room rfl rfl rfl dmX7_room ⟨Nat.le_of_ble_eq_true rfl, Nat.le_of_ble_eq_true rfl⟩) hK hP hS (by decide) (LX7_obj ad cy _) rfl rfl rfl hl.1 (Nat.le_of_ble_eq_true rfl) ⟨Nat.zero_le _, Nat.zero_le _⟩ dX7_sum_48 (fun H locs hP hS => ?_)
              refine lv_goto (tgt := 81) hx hb dX7_sum_51 (by decide) ?_
              refine lv_iadd hx hb dX7_sum_81 ?_
              refine lv_topi (fun v16 ev16 => ?_)
              have hf := nm_to hf ev16
              refine lv_istore_n (lv' := [(2, .int v16), (0, .ref (ad 0)), (1, .int x1), (3, .int x3)]) hx hb dX7_sum_82 rfl hl (by decide) rfl (fun ls hl => ?_)
              obtain ⟨v17, ev17⟩ : ∃ y : Int32, y = x3 + 1 := ⟨_, rfl⟩
              have hf := nm_to hf ev17
              refine lv_iinc (v := v17) (lv' := [(3, .int v17), (2, .int v16), (0, .ref (ad 0)), (1, .int x1)]) hx hb dX7_sum_83 hl (k := 3) rfl (by rw [ev17]; rfl) (by decide) rfl (fun ls hl => ?_)
              refine lv_goto (tgt := 4) hx hb dX7_sum_86 (by decide) ?_
              exact ih4 v16 v17 hf H locs hP hS ls (lv_sub hl [2, 3, 1, 0] rfl)
          · have hf := (if_pos c3).symm.trans hf
            refine lv_aload_n hx hb dX7_sum_33 rfl (lv_at hl 0 rfl) ?_
            refine lv_iload_n hx hb dX7_sum_34 rfl (lv_at hl 3 rfl) ?_
            obtain ⟨r18, qr18, hf⟩ := bd_some hf
            refine xt_callVi (As := [.int x3]) (rest := [.int x2]) (C := RX7) (ci := 7) ⟨hx, hb, hml, hown, hts⟩ 0 (mX7_points l dC dI ad cy hJ σ x3 r18 qr18) (cwV 1 hts gX7_sum_X7_points rfl rfl rfl dmX7_points ⟨Nat.le_of_ble_eq_true rfl, Nat.le_of_ble_eq_true rfl⟩) hK hP hS (by decide) (LX7_obj ad cy _) rfl rfl rfl hl.1 (Nat.le_of_ble_eq_true rfl) ⟨Nat.zero_le _, Nat.zero_le _⟩ dX7_sum_35 (fun H locs hP hS => ?_)
            refine lv_goto (tgt := 81) hx hb dX7_sum_38 (by decide) ?_
            refine lv_iadd hx hb dX7_sum_81 ?_
            refine lv_topi (fun v19 ev19 => ?_)
            have hf := nm_to hf ev19
            refine lv_istore_n (lv' := [(2, .int v19), (0, .ref (ad 0)), (1, .int x1), (3, .int x3)]) hx hb dX7_sum_82 rfl hl (by decide) rfl (fun ls hl => ?_)
            obtain ⟨v20, ev20⟩ : ∃ y : Int32, y = x3 + 1 := ⟨_, rfl⟩
            have hf := nm_to hf ev20
            refine lv_iinc (v := v20) (lv' := [(3, .int v20), (2, .int v19), (0, .ref (ad 0)), (1, .int x1)]) hx hb dX7_sum_83 hl (k := 3) rfl (by rw [ev20]; rfl) (by decide) rfl (fun ls hl => ?_)
            refine lv_goto (tgt := 4) hx hb dX7_sum_86 (by decide) ?_
            exact ih4 v19 v20 hf H locs hP hS ls (lv_sub hl [2, 3, 1, 0] rfl)
        · have hf := (if_pos c2).symm.trans hf
          refine lv_aload_n hx hb dX7_sum_19 rfl (lv_at hl 0 rfl) ?_
          refine lv_iload_n hx hb dX7_sum_20 rfl (lv_at hl 3 rfl) ?_
          refine lv_iconst (v := 1) hx hb dX7_sum_21 (by decide) ?_
          obtain ⟨r21, qr21, hf⟩ := bd_some hf
          refine xt_callVi (As := [.int x3, .int 1]) (rest := [.int x2]) (C := RX7) (ci := 7) ⟨hx, hb, hml, hown, hts⟩ 0 (mX7_p l dC dI ad cy hJ σ x3 1 r21 qr21) (cwV 2 hts gX7_sum_X7_p rfl rfl rfl dmX7_p ⟨Nat.le_of_ble_eq_true rfl, Nat.le_of_ble_eq_true rfl⟩) hK hP hS (by decide) (LX7_obj ad cy _) rfl rfl rfl hl.1 (Nat.le_of_ble_eq_true rfl) ⟨Nat.zero_le _, Nat.zero_le _⟩ dX7_sum_22 (fun H locs hP hS => ?_)
          refine lv_goto (tgt := 81) hx hb dX7_sum_25 (by decide) ?_
          refine lv_iadd hx hb dX7_sum_81 ?_
          refine lv_topi (fun v22 ev22 => ?_)
          have hf := nm_to hf ev22
          refine lv_istore_n (lv' := [(2, .int v22), (0, .ref (ad 0)), (1, .int x1), (3, .int x3)]) hx hb dX7_sum_82 rfl hl (by decide) rfl (fun ls hl => ?_)
          obtain ⟨v23, ev23⟩ : ∃ y : Int32, y = x3 + 1 := ⟨_, rfl⟩
          have hf := nm_to hf ev23
          refine lv_iinc (v := v23) (lv' := [(3, .int v23), (2, .int v22), (0, .ref (ad 0)), (1, .int x1)]) hx hb dX7_sum_83 hl (k := 3) rfl (by rw [ev23]; rfl) (by decide) rfl (fun ls hl => ?_)
          refine lv_goto (tgt := 4) hx hb dX7_sum_86 (by decide) ?_
          exact ih4 v22 v23 hf H locs hP hS ls (lv_sub hl [2, 3, 1, 0] rfl)
  unfold fX7_sum at hf
  obtain ⟨H, eH⟩ : ∃ H : Heap, H = s.heap := ⟨_, rfl⟩
  rw [← eH] at hP
  have hS : va_S (WA 16 ad) s.heap H [] := by rw [eH]; exact hS
  suffices K : W p l e rmX7_sum s m args below meth c H [] 0 0 (MQ below (Qiw (dC, dI) 16 ad (layM ad cy) res σ) args s 0 0 (WA 16 ad)) (F0 m 0 ls []) by rw [eH] at K; exact K
  clear eH
  obtain ⟨locs, elocs⟩ : ∃ z : List Loc, z = [] := ⟨_, rfl⟩
  rw [← elocs] at hS ⊢
  refine lv_iconst (v := 0) hx hb dX7_sum_0 (by decide) ?_
  refine lv_istore_n (lv' := [(2, .int 0), (0, .ref (ad 0)), (1, .int a1)]) hx hb dX7_sum_1 rfl hl (by decide) rfl (fun ls hl => ?_)
  refine lv_iconst (v := 0) hx hb dX7_sum_2 (by decide) ?_
  refine lv_istore_n (lv' := [(3, .int 0), (2, .int 0), (0, .ref (ad 0)), (1, .int a1)]) hx hb dX7_sum_3 rfl hl (by decide) rfl (fun ls hl => ?_)
  exact loop4 a1 1000 0 0 hf H locs hP hS ls (lv_sub hl [2, 3, 1, 0] rfl)
def fX7_lying_B65 (σ : St) (x2 : Int32) : Option Int32 :=
  some x2
def fX7_lying_L4 (σ : St) (x1 : Int32) (K4_65 : Int32 → Option Int32) : Nat → Int32 → Int32 → Option Int32
  | 0, _, _ => none
  | n4 + 1, x2, x3 => if (σ 1 (1 : Int32).toNatClampNeg) ≤ x3 then (K4_65 x2) else (gd (okI x3 24) <| if (σ 5 x3.toNatClampNeg) = (-1 : Int32) then (if (2 : Int32) = x1 then (nm (x2 + 1) fun v20 => nm (x3 + 1) fun v21 => (fX7_lying_L4 σ x1 K4_65 n4) v20 v21) else (nm (x2 + 0) fun v18 => nm (x3 + 1) fun v19 => (fX7_lying_L4 σ x1 K4_65 n4) v18 v19)) else (gd (okI x3 24) <| bd (fX7_homeAt σ x3) fun r5 => if (σ 5 x3.toNatClampNeg) = r5 then (if (0 : Int32) = x1 then (nm (x2 + 1) fun v15 => nm (x3 + 1) fun v16 => (fX7_lying_L4 σ x1 K4_65 n4) v15 v16) else (nm (x2 + 0) fun v13 => nm (x3 + 1) fun v14 => (fX7_lying_L4 σ x1 K4_65 n4) v13 v14)) else (if (1 : Int32) = x1 then (nm (x2 + 1) fun v10 => nm (x3 + 1) fun v11 => (fX7_lying_L4 σ x1 K4_65 n4) v10 v11) else (nm (x2 + 0) fun v8 => nm (x3 + 1) fun v9 => (fX7_lying_L4 σ x1 K4_65 n4) v8 v9))))
def fX7_lying (σ : St) (a1 : Int32) : Option Int32 :=
  fX7_lying_L4 σ a1 (fun y2 => fX7_lying_B65 σ y2) 1000 0 0
abbrev rmX7_lying : Room := { frames := 2, cells := 0, slots := 0, locals := 43 }
theorem dmX7_lying : yX7_lying.cls = RX7 ∧ yX7_lying.cls ≠ "java/lang/invoke/MethodHandle" ∧ yX7_lying.cls ≠ "java/lang/invoke/VarHandle" ∧ (parseMethodDescriptor yX7_lying.desc).map (fun d => d.parameters.length) = some 1 := by decide +kernel
theorem iX7_lying_X7 : ∀ w ∈ wsX70, w ∈ wsX7_lying := fun w h => List.mem_cons_of_mem _ (List.mem_append_right _ (h))
set_option maxHeartbeats 8000000 in
set_option maxRecDepth 100000 in
theorem mX7_lying (l : Launch) (dC : Nat → ClassId) (dI : Nat → Nat → Nat) (ad : Nat → Nat) (cy : Nat → ClassId) (hJ : WJ 16 ad) (σ : St) (a1 : Int32) (res : Int32) (hf : fX7_lying σ a1 = some res) : CMi l yX7_lying wsX7_lying rmX7_lying (dC, dI) (tysX cy) 16 ad (layM ad cy) [.ref (ad 0), .int a1] σ res σ := by
  refine Met.ofW (cc := cX7_lying) (maxL := 4) (ret := (some .int)) (by decide) rfl ?_
  intro p e s m args below meth c s₁ B hml hv
  obtain ⟨hargs, hP, hK⟩ := hv
  have hx := B.exec
  have hb := B.bytes
  have hr := B.returns
  have hts := atoms_spec (ws := wsX7_lying) B.pre
  have hown : s.vm.findClass RX7 = some m.cls := findClass_of_methodNamed B.named
  have hlocks := B.notSynchronized
  have w1 := hts (.fieldLink RX7 9 "PierRingsModel" "all" "[I") (List.mem_of_getElem? (i := 1) rfl)
  have w2 := hts (.fieldLink RX7 22 "PierRingsModel" "lies" "[I") (List.mem_of_getElem? (i := 2) rfl)
  have hS : va_S (WA 16 ad) s.heap s.heap [] := va_S.rf
  have hfr : entryFrame m args 4 = F0 m 0 ((lg_sl [.ref (ad 0), .int a1] ++ List.replicate (4 - (lg_sl [.ref (ad 0), .int a1]).length) Slot.unset).toArray) [] := by rw [hargs]; exact lg_entry_eq _ _ _
  rw [hfr]
  have hl := lv_entry ([.ref (ad 0), .int a1]) (n := 4) (Nat.le_of_ble_eq_true rfl)
  generalize (lg_sl [.ref (ad 0), .int a1] ++ List.replicate (4 - (lg_sl [.ref (ad 0), .int a1]).length) Slot.unset).toArray = ls at hl ⊢
  have hl : lv_has ls 4 [(0, .ref (ad 0)), (1, .int a1)] := hl
  clear hfr hargs B
  show W p l e rmX7_lying s m args below meth c s.heap [] 0 0 (MQ below (Qiw (dC, dI) 16 ad (layM ad cy) res σ) args s 0 0 (WA 16 ad)) (F0 m 0 ls [])
  have kB65 : ∀ (x2 : Int32), fX7_lying_B65 σ x2 = some res → ∀ (H : Heap) (locs : List Loc), va_P (dC, dI) vwCl (wd 16 ad (layM ad cy) σ) H → va_S (WA 16 ad) s.heap H locs → ∀ (ls : Array Slot), lv_has ls 4 [(2, .int x2)] → W p l e rmX7_lying s m args below meth c H locs 0 0 (MQ below (Qiw (dC, dI) 16 ad (layM ad cy) res σ) args s 0 0 (WA 16 ad)) (F0 m 65 ls []) := by
    intro x2 hf H locs hP hS ls hl
    unfold fX7_lying_B65 at hf
    refine lv_iload_n hx hb dX7_lying_65 rfl (lv_at hl 0 rfl) ?_
    exact xt_iret hx hb hr hP hS (Option.some.inj hf) rfl dX7_lying_66 hlocks
  have loop4 : ∀ (x1 : Int32) (n4 : Nat) (x2 : Int32) (x3 : Int32), fX7_lying_L4 σ x1 (fun y2 => fX7_lying_B65 σ y2) n4 x2 x3 = some res → ∀ (H : Heap) (locs : List Loc), va_P (dC, dI) vwCl (wd 16 ad (layM ad cy) σ) H → va_S (WA 16 ad) s.heap H locs → ∀ (ls : Array Slot), lv_has ls 4 [(0, .ref (ad 0)), (1, .int x1), (2, .int x2), (3, .int x3)] → W p l e rmX7_lying s m args below meth c H locs 0 0 (MQ below (Qiw (dC, dI) 16 ad (layM ad cy) res σ) args s 0 0 (WA 16 ad)) (F0 m 4 ls []) := by
    intro x1 n4
    induction n4 with
    | zero => intro x2 x3 hf; simp [fX7_lying_L4] at hf
    | succ n4 ih4 =>
      intro x2 x3 hf H locs hP hS ls hl
      rw [fX7_lying_L4] at hf
      refine lv_iload_n hx hb dX7_lying_4 rfl (lv_at hl 3 rfl) ?_
      refine lv_aload_n hx hb dX7_lying_5 rfl (lv_at hl 0 rfl) ?_
      refine xt_get (ci := 7) (C := RX7) (T := TX7) (n := 25) (v := .ref (ad 1)) hx hb hts iX7_lying_X7 hown hK hP 0 (by decide) (LX7_obj ad cy _) rfl 0 (by decide) w1 rfl dX7_lying_6 ?_
      refine lv_iconst (v := 1) hx hb dX7_lying_9 (by decide) ?_
      refine xt_iald hx hb hK hP 1 (by decide) 0 (LX7_all ad cy _) rfl (by decide) dX7_lying_10 ?_
      refine lv_icmp_ge (tgt := 65) hx hb dX7_lying_11 (by decide) (fun c1 => ?_) (fun c1 => ?_)
      · have hf := (if_pos c1).symm.trans hf
        exact kB65 x2 hf H locs hP hS ls (lv_sub hl [2] rfl)
      · have hf := (if_neg c1).symm.trans hf
        refine lv_iload_n hx hb dX7_lying_14 rfl (lv_at hl 2 rfl) ?_
        refine lv_aload_n hx hb dX7_lying_15 rfl (lv_at hl 0 rfl) ?_
        refine xt_get (ci := 7) (C := RX7) (T := TX7) (n := 25) (v := .ref (ad 5)) hx hb hts iX7_lying_X7 hown hK hP 0 (by decide) (LX7_obj ad cy _) rfl 8 (by decide) w2 rfl dX7_lying_16 ?_
        refine lv_iload_n hx hb dX7_lying_19 rfl (lv_at hl 3 rfl) ?_
        obtain ⟨g2, hf⟩ := gd_some hf
        refine xt_iald hx hb hK hP 5 (by decide) 0 (LX7_lies ad cy _) rfl g2 dX7_lying_20 ?_
        refine lv_iconst (v := (-1)) hx hb dX7_lying_21 (by decide) ?_
        refine lv_icmp_ne (tgt := 29) hx hb dX7_lying_22 (by decide) (fun c3 => ?_) (fun c3 => ?_)
        · have hf := (if_neg c3).symm.trans hf
          refine lv_aload_n hx hb dX7_lying_29 rfl (lv_at hl 0 rfl) ?_
          refine xt_get (ci := 7) (C := RX7) (T := TX7) (n := 25) (v := .ref (ad 5)) hx hb hts iX7_lying_X7 hown hK hP 0 (by decide) (LX7_obj ad cy _) rfl 8 (by decide) w2 rfl dX7_lying_30 ?_
          refine lv_iload_n hx hb dX7_lying_33 rfl (lv_at hl 3 rfl) ?_
          obtain ⟨g4, hf⟩ := gd_some hf
          refine xt_iald hx hb hK hP 5 (by decide) 0 (LX7_lies ad cy _) rfl g4 dX7_lying_34 ?_
          refine lv_aload_n hx hb dX7_lying_35 rfl (lv_at hl 0 rfl) ?_
          refine lv_iload_n hx hb dX7_lying_36 rfl (lv_at hl 3 rfl) ?_
          obtain ⟨r5, qr5, hf⟩ := bd_some hf
          refine xt_callVi (As := [.int x3]) (rest := [.int (σ 5 x3.toNatClampNeg), .int x2]) (C := RX7) (ci := 7) ⟨hx, hb, hml, hown, hts⟩ 0 (mX7_homeAt l dC dI ad cy hJ σ x3 r5 qr5) (cwV 1 hts gX7_lying_X7_homeAt rfl rfl rfl dmX7_homeAt ⟨Nat.le_of_ble_eq_true rfl, Nat.le_of_ble_eq_true rfl⟩) hK hP hS (by decide) (LX7_obj ad cy _) rfl rfl rfl hl.1 (Nat.le_of_ble_eq_true rfl) ⟨Nat.zero_le _, Nat.zero_le _⟩ dX7_lying_37 (fun H locs hP hS => ?_)
          refine lv_icmp_ne (tgt := 47) hx hb dX7_lying_40 (by decide) (fun c6 => ?_) (fun c6 => ?_)
          · have hf := (if_neg c6).symm.trans hf
            refine lv_iconst (v := 1) hx hb dX7_lying_47 (by decide) ?_
            refine lv_iload_n hx hb dX7_lying_48 rfl (lv_at hl 1 rfl) ?_
            refine lv_icmp_ne (tgt := 56) hx hb dX7_lying_49 (by decide) (fun c7 => ?_) (fun c7 => ?_)
            · have hf := (if_neg c7).symm.trans hf
              refine lv_iconst (v := 0) hx hb dX7_lying_56 (by decide) ?_
              refine lv_iadd hx hb dX7_lying_57 ?_
              refine lv_topi (fun v8 ev8 => ?_)
              have hf := nm_to hf ev8
              refine lv_istore_n (lv' := [(2, .int v8), (0, .ref (ad 0)), (1, .int x1), (3, .int x3)]) hx hb dX7_lying_58 rfl hl (by decide) rfl (fun ls hl => ?_)
              obtain ⟨v9, ev9⟩ : ∃ y : Int32, y = x3 + 1 := ⟨_, rfl⟩
              have hf := nm_to hf ev9
              refine lv_iinc (v := v9) (lv' := [(3, .int v9), (2, .int v8), (0, .ref (ad 0)), (1, .int x1)]) hx hb dX7_lying_59 hl (k := 3) rfl (by rw [ev9]; rfl) (by decide) rfl (fun ls hl => ?_)
              refine lv_goto (tgt := 4) hx hb dX7_lying_62 (by decide) ?_
              exact ih4 v8 v9 hf H locs hP hS ls (lv_sub hl [2, 3, 1, 0] rfl)
            · have hf := (if_pos c7).symm.trans hf
              refine lv_iconst (v := 1) hx hb dX7_lying_52 (by decide) ?_
              refine lv_goto (tgt := 57) hx hb dX7_lying_53 (by decide) ?_
              refine lv_iadd hx hb dX7_lying_57 ?_
              refine lv_topi (fun v10 ev10 => ?_)
              have hf := nm_to hf ev10
              refine lv_istore_n (lv' := [(2, .int v10), (0, .ref (ad 0)), (1, .int x1), (3, .int x3)]) hx hb dX7_lying_58 rfl hl (by decide) rfl (fun ls hl => ?_)
              obtain ⟨v11, ev11⟩ : ∃ y : Int32, y = x3 + 1 := ⟨_, rfl⟩
              have hf := nm_to hf ev11
              refine lv_iinc (v := v11) (lv' := [(3, .int v11), (2, .int v10), (0, .ref (ad 0)), (1, .int x1)]) hx hb dX7_lying_59 hl (k := 3) rfl (by rw [ev11]; rfl) (by decide) rfl (fun ls hl => ?_)
              refine lv_goto (tgt := 4) hx hb dX7_lying_62 (by decide) ?_
              exact ih4 v10 v11 hf H locs hP hS ls (lv_sub hl [2, 3, 1, 0] rfl)
          · have hf := (if_pos c6).symm.trans hf
            refine lv_iconst (v := 0) hx hb dX7_lying_43 (by decide) ?_
            refine lv_goto (tgt := 48) hx hb dX7_lying_44 (by decide) ?_
            refine lv_iload_n hx hb dX7_lying_48 rfl (lv_at hl 1 rfl) ?_
            refine lv_icmp_ne (tgt := 56) hx hb dX7_lying_49 (by decide) (fun c12 => ?_) (fun c12 => ?_)
            · have hf := (if_neg c12).symm.trans hf
              refine lv_iconst (v := 0) hx hb dX7_lying_56 (by decide) ?_
              refine lv_iadd hx hb dX7_lying_57 ?_
              refine lv_topi (fun v13 ev13 => ?_)
              have hf := nm_to hf ev13
              refine lv_istore_n (lv' := [(2, .int v13), (0, .ref (ad 0)), (1, .int x1), (3, .int x3)]) hx hb dX7_lying_58 rfl hl (by decide) rfl (fun ls hl => ?_)
              obtain ⟨v14, ev14⟩ : ∃ y : Int32, y = x3 + 1 := ⟨_, rfl⟩
              have hf := nm_to hf ev14
              refine lv_iinc (v := v14) (lv' := [(3, .int v14), (2, .int v13), (0, .ref (ad 0)), (1, .int x1)]) hx hb dX7_lying_59 hl (k := 3) rfl (by rw [ev14]; rfl) (by decide) rfl (fun ls hl => ?_)
              refine lv_goto (tgt := 4) hx hb dX7_lying_62 (by decide) ?_
              exact ih4 v13 v14 hf H locs hP hS ls (lv_sub hl [2, 3, 1, 0] rfl)
            · have hf := (if_pos c12).symm.trans hf
              refine lv_iconst (v := 1) hx hb dX7_lying_52 (by decide) ?_
              refine lv_goto (tgt := 57) hx hb dX7_lying_53 (by decide) ?_
              refine lv_iadd hx hb dX7_lying_57 ?_
              refine lv_topi (fun v15 ev15 => ?_)
              have hf := nm_to hf ev15
              refine lv_istore_n (lv' := [(2, .int v15), (0, .ref (ad 0)), (1, .int x1), (3, .int x3)]) hx hb dX7_lying_58 rfl hl (by decide) rfl (fun ls hl => ?_)
              obtain ⟨v16, ev16⟩ : ∃ y : Int32, y = x3 + 1 := ⟨_, rfl⟩
              have hf := nm_to hf ev16
              refine lv_iinc (v := v16) (lv' := [(3, .int v16), (2, .int v15), (0, .ref (ad 0)), (1, .int x1)]) hx hb dX7_lying_59 hl (k := 3) rfl (by rw [ev16]; rfl) (by decide) rfl (fun ls hl => ?_)
              refine lv_goto (tgt := 4) hx hb dX7_lying_62 (by decide) ?_
              exact ih4 v15 v16 hf H locs hP hS ls (lv_sub hl [2, 3, 1, 0] rfl)
        · have hf := (if_pos c3).symm.trans hf
          refine lv_iconst (v := 2) hx hb dX7_lying_25 (by decide) ?_
          refine lv_goto (tgt := 48) hx hb dX7_lying_26 (by decide) ?_
          refine lv_iload_n hx hb dX7_lying_48 rfl (lv_at hl 1 rfl) ?_
          refine lv_icmp_ne (tgt := 56) hx hb dX7_lying_49 (by decide) (fun c17 => ?_) (fun c17 => ?_)
          · have hf := (if_neg c17).symm.trans hf
            refine lv_iconst (v := 0) hx hb dX7_lying_56 (by decide) ?_
            refine lv_iadd hx hb dX7_lying_57 ?_
            refine lv_topi (fun v18 ev18 => ?_)
            have hf := nm_to hf ev18
            refine lv_istore_n (lv' := [(2, .int v18), (0, .ref (ad 0)), (1, .int x1), (3, .int x3)]) hx hb dX7_lying_58 rfl hl (by decide) rfl (fun ls hl => ?_)
            obtain ⟨v19, ev19⟩ : ∃ y : Int32, y = x3 + 1 := ⟨_, rfl⟩
            have hf := nm_to hf ev19
            refine lv_iinc (v := v19) (lv' := [(3, .int v19), (2, .int v18), (0, .ref (ad 0)), (1, .int x1)]) hx hb dX7_lying_59 hl (k := 3) rfl (by rw [ev19]; rfl) (by decide) rfl (fun ls hl => ?_)
            refine lv_goto (tgt := 4) hx hb dX7_lying_62 (by decide) ?_
            exact ih4 v18 v19 hf H locs hP hS ls (lv_sub hl [2, 3, 1, 0] rfl)
          · have hf := (if_pos c17).symm.trans hf
            refine lv_iconst (v := 1) hx hb dX7_lying_52 (by decide) ?_
            refine lv_goto (tgt := 57) hx hb dX7_lying_53 (by decide) ?_
            refine lv_iadd hx hb dX7_lying_57 ?_
            refine lv_topi (fun v20 ev20 => ?_)
            have hf := nm_to hf ev20
            refine lv_istore_n (lv' := [(2, .int v20), (0, .ref (ad 0)), (1, .int x1), (3, .int x3)]) hx hb dX7_lying_58 rfl hl (by decide) rfl (fun ls hl => ?_)
            obtain ⟨v21, ev21⟩ : ∃ y : Int32, y = x3 + 1 := ⟨_, rfl⟩
            have hf := nm_to hf ev21
            refine lv_iinc (v := v21) (lv' := [(3, .int v21), (2, .int v20), (0, .ref (ad 0)), (1, .int x1)]) hx hb dX7_lying_59 hl (k := 3) rfl (by rw [ev21]; rfl) (by decide) rfl (fun ls hl => ?_)
            refine lv_goto (tgt := 4) hx hb dX7_lying_62 (by decide) ?_
            exact ih4 v20 v21 hf H locs hP hS ls (lv_sub hl [2, 3, 1, 0] rfl)
  unfold fX7_lying at hf
  obtain ⟨H, eH⟩ : ∃ H : Heap, H = s.heap := ⟨_, rfl⟩
  rw [← eH] at hP
  have hS : va_S (WA 16 ad) s.heap H [] := by rw [eH]; exact hS
  suffices K : W p l e rmX7_lying s m args below meth c H [] 0 0 (MQ below (Qiw (dC, dI) 16 ad (layM ad cy) res σ) args s 0 0 (WA 16 ad)) (F0 m 0 ls []) by rw [eH] at K; exact K
  clear eH
  obtain ⟨locs, elocs⟩ : ∃ z : List Loc, z = [] := ⟨_, rfl⟩
  rw [← elocs] at hS ⊢
  refine lv_iconst (v := 0) hx hb dX7_lying_0 (by decide) ?_
  refine lv_istore_n (lv' := [(2, .int 0), (0, .ref (ad 0)), (1, .int a1)]) hx hb dX7_lying_1 rfl hl (by decide) rfl (fun ls hl => ?_)
  refine lv_iconst (v := 0) hx hb dX7_lying_2 (by decide) ?_
  refine lv_istore_n (lv' := [(3, .int 0), (2, .int 0), (0, .ref (ad 0)), (1, .int a1)]) hx hb dX7_lying_3 rfl hl (by decide) rfl (fun ls hl => ?_)
  exact loop4 a1 1000 0 0 hf H locs hP hS ls (lv_sub hl [2, 3, 1, 0] rfl)
def fX7_tons_B29 (σ : St) (x1 : Int32) : Option Int32 :=
  some x1
def fX7_tons_L4 (σ : St) (K4_29 : Int32 → Option Int32) : Nat → Int32 → Int32 → Option Int32
  | 0, _, _ => none
  | n4 + 1, x1, x2 => if (σ 1 (1 : Int32).toNatClampNeg) ≤ x2 then (K4_29 x1) else (bd (fX7_b σ x2 1) fun r2 => nm (x1 + r2) fun v3 => nm (x2 + 1) fun v4 => (fX7_tons_L4 σ K4_29 n4) v3 v4)
def fX7_tons (σ : St) : Option Int32 :=
  fX7_tons_L4 σ (fun y1 => fX7_tons_B29 σ y1) 1000 0 0
abbrev rmX7_tons : Room := { frames := 1, cells := 0, slots := 0, locals := 22 }
theorem dmX7_tons : yX7_tons.cls = RX7 ∧ yX7_tons.cls ≠ "java/lang/invoke/MethodHandle" ∧ yX7_tons.cls ≠ "java/lang/invoke/VarHandle" ∧ (parseMethodDescriptor yX7_tons.desc).map (fun d => d.parameters.length) = some 0 := by decide +kernel
theorem iX7_tons_X7 : ∀ w ∈ wsX70, w ∈ wsX7_tons := fun w h => List.mem_cons_of_mem _ (List.mem_append_right _ (h))
set_option maxHeartbeats 8000000 in
set_option maxRecDepth 100000 in
theorem mX7_tons (l : Launch) (dC : Nat → ClassId) (dI : Nat → Nat → Nat) (ad : Nat → Nat) (cy : Nat → ClassId) (hJ : WJ 16 ad) (σ : St) (res : Int32) (hf : fX7_tons σ = some res) : CMi l yX7_tons wsX7_tons rmX7_tons (dC, dI) (tysX cy) 16 ad (layM ad cy) [.ref (ad 0)] σ res σ := by
  refine Met.ofW (cc := cX7_tons) (maxL := 3) (ret := (some .int)) (by decide) rfl ?_
  intro p e s m args below meth c s₁ B hml hv
  obtain ⟨hargs, hP, hK⟩ := hv
  have hx := B.exec
  have hb := B.bytes
  have hr := B.returns
  have hts := atoms_spec (ws := wsX7_tons) B.pre
  have hown : s.vm.findClass RX7 = some m.cls := findClass_of_methodNamed B.named
  have hlocks := B.notSynchronized
  have w1 := hts (.fieldLink RX7 9 "PierRingsModel" "all" "[I") (List.mem_of_getElem? (i := 1) rfl)
  have hS : va_S (WA 16 ad) s.heap s.heap [] := va_S.rf
  have hfr : entryFrame m args 3 = F0 m 0 ((lg_sl [.ref (ad 0)] ++ List.replicate (3 - (lg_sl [.ref (ad 0)]).length) Slot.unset).toArray) [] := by rw [hargs]; exact lg_entry_eq _ _ _
  rw [hfr]
  have hl := lv_entry ([.ref (ad 0)]) (n := 3) (Nat.le_of_ble_eq_true rfl)
  generalize (lg_sl [.ref (ad 0)] ++ List.replicate (3 - (lg_sl [.ref (ad 0)]).length) Slot.unset).toArray = ls at hl ⊢
  have hl : lv_has ls 3 [(0, .ref (ad 0))] := hl
  clear hfr hargs B
  show W p l e rmX7_tons s m args below meth c s.heap [] 0 0 (MQ below (Qiw (dC, dI) 16 ad (layM ad cy) res σ) args s 0 0 (WA 16 ad)) (F0 m 0 ls [])
  have kB29 : ∀ (x1 : Int32), fX7_tons_B29 σ x1 = some res → ∀ (H : Heap) (locs : List Loc), va_P (dC, dI) vwCl (wd 16 ad (layM ad cy) σ) H → va_S (WA 16 ad) s.heap H locs → ∀ (ls : Array Slot), lv_has ls 3 [(1, .int x1)] → W p l e rmX7_tons s m args below meth c H locs 0 0 (MQ below (Qiw (dC, dI) 16 ad (layM ad cy) res σ) args s 0 0 (WA 16 ad)) (F0 m 29 ls []) := by
    intro x1 hf H locs hP hS ls hl
    unfold fX7_tons_B29 at hf
    refine lv_iload_n hx hb dX7_tons_29 rfl (lv_at hl 0 rfl) ?_
    exact xt_iret hx hb hr hP hS (Option.some.inj hf) rfl dX7_tons_30 hlocks
  have loop4 : ∀ (n4 : Nat) (x1 : Int32) (x2 : Int32), fX7_tons_L4 σ (fun y1 => fX7_tons_B29 σ y1) n4 x1 x2 = some res → ∀ (H : Heap) (locs : List Loc), va_P (dC, dI) vwCl (wd 16 ad (layM ad cy) σ) H → va_S (WA 16 ad) s.heap H locs → ∀ (ls : Array Slot), lv_has ls 3 [(0, .ref (ad 0)), (1, .int x1), (2, .int x2)] → W p l e rmX7_tons s m args below meth c H locs 0 0 (MQ below (Qiw (dC, dI) 16 ad (layM ad cy) res σ) args s 0 0 (WA 16 ad)) (F0 m 4 ls []) := by
    intro n4
    induction n4 with
    | zero => intro x1 x2 hf; simp [fX7_tons_L4] at hf
    | succ n4 ih4 =>
      intro x1 x2 hf H locs hP hS ls hl
      rw [fX7_tons_L4] at hf
      refine lv_iload_n hx hb dX7_tons_4 rfl (lv_at hl 2 rfl) ?_
      refine lv_aload_n hx hb dX7_tons_5 rfl (lv_at hl 0 rfl) ?_
      refine xt_get (ci := 7) (C := RX7) (T := TX7) (n := 25) (v := .ref (ad 1)) hx hb hts iX7_tons_X7 hown hK hP 0 (by decide) (LX7_obj ad cy _) rfl 0 (by decide) w1 rfl dX7_tons_6 ?_
      refine lv_iconst (v := 1) hx hb dX7_tons_9 (by decide) ?_
      refine xt_iald hx hb hK hP 1 (by decide) 0 (LX7_all ad cy _) rfl (by decide) dX7_tons_10 ?_
      refine lv_icmp_ge (tgt := 29) hx hb dX7_tons_11 (by decide) (fun c1 => ?_) (fun c1 => ?_)
      · have hf := (if_pos c1).symm.trans hf
        exact kB29 x1 hf H locs hP hS ls (lv_sub hl [1] rfl)
      · have hf := (if_neg c1).symm.trans hf
        refine lv_iload_n hx hb dX7_tons_14 rfl (lv_at hl 1 rfl) ?_
        refine lv_aload_n hx hb dX7_tons_15 rfl (lv_at hl 0 rfl) ?_
        refine lv_iload_n hx hb dX7_tons_16 rfl (lv_at hl 2 rfl) ?_
        refine lv_iconst (v := 1) hx hb dX7_tons_17 (by decide) ?_
        obtain ⟨r2, qr2, hf⟩ := bd_some hf
        refine xt_callVi (As := [.int x2, .int 1]) (rest := [.int x1]) (C := RX7) (ci := 7) ⟨hx, hb, hml, hown, hts⟩ 0 (mX7_b l dC dI ad cy hJ σ x2 1 r2 qr2) (cwV 2 hts gX7_tons_X7_b rfl rfl rfl dmX7_b ⟨Nat.le_of_ble_eq_true rfl, Nat.le_of_ble_eq_true rfl⟩) hK hP hS (by decide) (LX7_obj ad cy _) rfl rfl rfl hl.1 (Nat.le_of_ble_eq_true rfl) ⟨Nat.zero_le _, Nat.zero_le _⟩ dX7_tons_18 (fun H locs hP hS => ?_)
        refine lv_iadd hx hb dX7_tons_21 ?_
        refine lv_topi (fun v3 ev3 => ?_)
        have hf := nm_to hf ev3
        refine lv_istore_n (lv' := [(1, .int v3), (0, .ref (ad 0)), (2, .int x2)]) hx hb dX7_tons_22 rfl hl (by decide) rfl (fun ls hl => ?_)
        obtain ⟨v4, ev4⟩ : ∃ y : Int32, y = x2 + 1 := ⟨_, rfl⟩
        have hf := nm_to hf ev4
        refine lv_iinc (v := v4) (lv' := [(2, .int v4), (1, .int v3), (0, .ref (ad 0))]) hx hb dX7_tons_23 hl (k := 2) rfl (by rw [ev4]; rfl) (by decide) rfl (fun ls hl => ?_)
        refine lv_goto (tgt := 4) hx hb dX7_tons_26 (by decide) ?_
        exact ih4 v3 v4 hf H locs hP hS ls (lv_sub hl [2, 1, 0] rfl)
  unfold fX7_tons at hf
  obtain ⟨H, eH⟩ : ∃ H : Heap, H = s.heap := ⟨_, rfl⟩
  rw [← eH] at hP
  have hS : va_S (WA 16 ad) s.heap H [] := by rw [eH]; exact hS
  suffices K : W p l e rmX7_tons s m args below meth c H [] 0 0 (MQ below (Qiw (dC, dI) 16 ad (layM ad cy) res σ) args s 0 0 (WA 16 ad)) (F0 m 0 ls []) by rw [eH] at K; exact K
  clear eH
  obtain ⟨locs, elocs⟩ : ∃ z : List Loc, z = [] := ⟨_, rfl⟩
  rw [← elocs] at hS ⊢
  refine lv_iconst (v := 0) hx hb dX7_tons_0 (by decide) ?_
  refine lv_istore_n (lv' := [(1, .int 0), (0, .ref (ad 0))]) hx hb dX7_tons_1 rfl hl (by decide) rfl (fun ls hl => ?_)
  refine lv_iconst (v := 0) hx hb dX7_tons_2 (by decide) ?_
  refine lv_istore_n (lv' := [(2, .int 0), (1, .int 0), (0, .ref (ad 0))]) hx hb dX7_tons_3 rfl hl (by decide) rfl (fun ls hl => ?_)
  exact loop4 1000 0 0 hf H locs hP hS ls (lv_sub hl [2, 1, 0] rfl)
def fX7_account (σ : St) (a1 : Int32) : Option (Int32 × St) :=
  bd (fX7_lays σ) fun r1 => if a1 = 0 then (some ((r1 1 (0 : Int32).toNatClampNeg), r1)) else (if a1 = 1 then (bd (fX7_sum r1 (a1 - 1)) fun r4 => some (r4, r1)) else (if a1 = 2 then (bd (fX7_sum r1 (a1 - 1)) fun r6 => some (r6, r1)) else (if a1 = 3 then (some ((r1 1 (1 : Int32).toNatClampNeg), r1)) else (if a1 = 4 then (bd (fX7_lying r1 (a1 - 4)) fun r9 => some (r9, r1)) else (if a1 = 5 then (bd (fX7_lying r1 (a1 - 4)) fun r11 => some (r11, r1)) else (if a1 = 6 then (bd (fX7_lying r1 (a1 - 4)) fun r13 => some (r13, r1)) else (if a1 = 7 then (bd (fX7_tons r1) fun r15 => some (r15, r1)) else (if a1 = 8 then (bd (fX7_sum r1 3) fun r17 => some (r17, r1)) else (if a1 = 9 then (bd (fX7_sum r1 2) fun r19 => some (r19, r1)) else (if a1 = 10 then (some ((r1 1 (3 : Int32).toNatClampNeg), r1)) else (if a1 = 11 then (some ((r1 1 (2 : Int32).toNatClampNeg), r1)) else (if a1 = 12 then (bd (fX7_sum r1 4) fun r23 => some (r23, r1)) else (if a1 = 13 then (some ((r1 0 18), r1)) else (if a1 = 14 then (some ((r1 0 1), r1)) else (some ((-12), r1))))))))))))))))
abbrev rmX7_account : Room := { frames := 5, cells := 0, slots := 0, locals := 111 }
theorem dmX7_account : yX7_account.cls = RX7 ∧ yX7_account.cls ≠ "java/lang/invoke/MethodHandle" ∧ yX7_account.cls ≠ "java/lang/invoke/VarHandle" ∧ (parseMethodDescriptor yX7_account.desc).map (fun d => d.parameters.length) = some 1 := by decide +kernel
theorem iX7_account_X7 : ∀ w ∈ wsX70, w ∈ wsX7_account := fun w h => List.mem_cons_of_mem _ (List.mem_append_right _ (h))
set_option maxHeartbeats 8000000 in
set_option maxRecDepth 100000 in
theorem mX7_account (l : Launch) (dC : Nat → ClassId) (dI : Nat → Nat → Nat) (ad : Nat → Nat) (cy : Nat → ClassId) (hJ : WJ 16 ad) (σ : St) (a1 : Int32) (res : (Int32 × St)) (hf : fX7_account σ a1 = some res) : CMi l yX7_account wsX7_account rmX7_account (dC, dI) (tysX cy) 16 ad (layM ad cy) [.ref (ad 0), .int a1] σ res.1 res.2 := by
  refine Met.ofW (cc := cX7_account) (maxL := 2) (ret := (some .int)) (by decide) rfl ?_
  intro p e s m args below meth c s₁ B hml hv
  obtain ⟨hargs, hP, hK⟩ := hv
  have hx := B.exec
  have hb := B.bytes
  have hr := B.returns
  have hts := atoms_spec (ws := wsX7_account) B.pre
  have hown : s.vm.findClass RX7 = some m.cls := findClass_of_methodNamed B.named
  have hlocks := B.notSynchronized
  have w1 := hts (.fieldLink RX7 9 "PierRingsModel" "all" "[I") (List.mem_of_getElem? (i := 1) rfl)
  have w2 := hts (.fieldLink RX7 193 "PierRingsModel" "textSize" "I") (List.mem_of_getElem? (i := 2) rfl)
  have w3 := hts (.fieldLink RX7 63 "PierRingsModel" "changes" "I") (List.mem_of_getElem? (i := 3) rfl)
  have hS : va_S (WA 16 ad) s.heap s.heap [] := va_S.rf
  have hfr : entryFrame m args 2 = F0 m 0 ((lg_sl [.ref (ad 0), .int a1] ++ List.replicate (2 - (lg_sl [.ref (ad 0), .int a1]).length) Slot.unset).toArray) [] := by rw [hargs]; exact lg_entry_eq _ _ _
  rw [hfr]
  have hl := lv_entry ([.ref (ad 0), .int a1]) (n := 2) (Nat.le_of_ble_eq_true rfl)
  generalize (lg_sl [.ref (ad 0), .int a1] ++ List.replicate (2 - (lg_sl [.ref (ad 0), .int a1]).length) Slot.unset).toArray = ls at hl ⊢
  have hl : lv_has ls 2 [(0, .ref (ad 0)), (1, .int a1)] := hl
  clear hfr hargs B
  show W p l e rmX7_account s m args below meth c s.heap [] 0 0 (MQ below (Qiw (dC, dI) 16 ad (layM ad cy) res.1 res.2) args s 0 0 (WA 16 ad)) (F0 m 0 ls [])
  unfold fX7_account at hf
  obtain ⟨H, eH⟩ : ∃ H : Heap, H = s.heap := ⟨_, rfl⟩
  rw [← eH] at hP
  have hS : va_S (WA 16 ad) s.heap H [] := by rw [eH]; exact hS
  suffices K : W p l e rmX7_account s m args below meth c H [] 0 0 (MQ below (Qiw (dC, dI) 16 ad (layM ad cy) res.1 res.2) args s 0 0 (WA 16 ad)) (F0 m 0 ls []) by rw [eH] at K; exact K
  clear eH
  obtain ⟨locs, elocs⟩ : ∃ z : List Loc, z = [] := ⟨_, rfl⟩
  rw [← elocs] at hS ⊢
  refine lv_aload_n hx hb dX7_account_0 rfl (lv_at hl 0 rfl) ?_
  obtain ⟨r1, qr1, hf⟩ := bd_some hf
  refine xt_callVv (As := []) (rest := []) (C := RX7) (ci := 7) ⟨hx, hb, hml, hown, hts⟩ 0 (mX7_lays l dC dI ad cy hJ σ r1 qr1) (cwV 0 hts gX7_account_X7_lays rfl rfl rfl dmX7_lays ⟨Nat.le_of_ble_eq_true rfl, Nat.le_of_ble_eq_true rfl⟩) hK hP hS (by decide) (LX7_obj ad cy _) rfl rfl rfl hl.1 (Nat.le_of_ble_eq_true rfl) ⟨Nat.zero_le _, Nat.zero_le _⟩ dX7_account_1 (fun H locs hP hS => ?_)
  refine lv_iload_n hx hb dX7_account_4 rfl (lv_at hl 1 rfl) ?_
  by_cases c2 : a1 = 0
  · have hf := (if_pos c2).symm.trans hf
    refine lv_tableIn (tgt := 80) (off := 75) hx hb dX7_account_5 (by rw [c2]; decide) (by rw [c2]; decide) (by rw [c2]; rfl) (by decide) ?_
    refine lv_aload_n hx hb dX7_account_80 rfl (lv_at hl 0 rfl) ?_
    refine xt_get (ci := 7) (C := RX7) (T := TX7) (n := 25) (v := .ref (ad 1)) hx hb hts iX7_account_X7 hown hK hP 0 (by decide) (LX7_obj ad cy _) rfl 0 (by decide) w1 rfl dX7_account_81 ?_
    refine lv_iconst (v := 0) hx hb dX7_account_84 (by decide) ?_
    refine xt_iald hx hb hK hP 1 (by decide) 0 (LX7_all ad cy _) rfl (by decide) dX7_account_85 ?_
    exact xt_iret hx hb hr hP hS (rs_1 hf) (rs_2 hf) dX7_account_86 hlocks
  · have hf := (if_neg c2).symm.trans hf
    by_cases c3 : a1 = 1
    · have hf := (if_pos c3).symm.trans hf
      refine lv_tableIn (tgt := 87) (off := 82) hx hb dX7_account_5 (by rw [c3]; decide) (by rw [c3]; decide) (by rw [c3]; rfl) (by decide) ?_
      refine lv_aload_n hx hb dX7_account_87 rfl (lv_at hl 0 rfl) ?_
      refine lv_iload_n hx hb dX7_account_88 rfl (lv_at hl 1 rfl) ?_
      refine lv_iconst (v := 1) hx hb dX7_account_89 (by decide) ?_
      refine lv_isub hx hb dX7_account_90 ?_
      obtain ⟨r4, qr4, hf⟩ := bd_some hf
      refine xt_callVi (As := [.int (a1 - 1)]) (rest := []) (C := RX7) (ci := 7) ⟨hx, hb, hml, hown, hts⟩ 0 (mX7_sum l dC dI ad cy hJ r1 (a1 - 1) r4 qr4) (cwV 1 hts gX7_account_X7_sum rfl rfl rfl dmX7_sum ⟨Nat.le_of_ble_eq_true rfl, Nat.le_of_ble_eq_true rfl⟩) hK hP hS (by decide) (LX7_obj ad cy _) rfl rfl rfl hl.1 (Nat.le_of_ble_eq_true rfl) ⟨Nat.zero_le _, Nat.zero_le _⟩ dX7_account_91 (fun H locs hP hS => ?_)
      exact xt_iret hx hb hr hP hS (rs_1 hf) (rs_2 hf) dX7_account_94 hlocks
    · have hf := (if_neg c3).symm.trans hf
      by_cases c5 : a1 = 2
      · have hf := (if_pos c5).symm.trans hf
        refine lv_tableIn (tgt := 87) (off := 82) hx hb dX7_account_5 (by rw [c5]; decide) (by rw [c5]; decide) (by rw [c5]; rfl) (by decide) ?_
        refine lv_aload_n hx hb dX7_account_87 rfl (lv_at hl 0 rfl) ?_
        refine lv_iload_n hx hb dX7_account_88 rfl (lv_at hl 1 rfl) ?_
        refine lv_iconst (v := 1) hx hb dX7_account_89 (by decide) ?_
        refine lv_isub hx hb dX7_account_90 ?_
        obtain ⟨r6, qr6, hf⟩ := bd_some hf
        refine xt_callVi (As := [.int (a1 - 1)]) (rest := []) (C := RX7) (ci := 7) ⟨hx, hb, hml, hown, hts⟩ 0 (mX7_sum l dC dI ad cy hJ r1 (a1 - 1) r6 qr6) (cwV 1 hts gX7_account_X7_sum rfl rfl rfl dmX7_sum ⟨Nat.le_of_ble_eq_true rfl, Nat.le_of_ble_eq_true rfl⟩) hK hP hS (by decide) (LX7_obj ad cy _) rfl rfl rfl hl.1 (Nat.le_of_ble_eq_true rfl) ⟨Nat.zero_le _, Nat.zero_le _⟩ dX7_account_91 (fun H locs hP hS => ?_)
        exact xt_iret hx hb hr hP hS (rs_1 hf) (rs_2 hf) dX7_account_94 hlocks
      · have hf := (if_neg c5).symm.trans hf
        by_cases c7 : a1 = 3
        · have hf := (if_pos c7).symm.trans hf
          refine lv_tableIn (tgt := 95) (off := 90) hx hb dX7_account_5 (by rw [c7]; decide) (by rw [c7]; decide) (by rw [c7]; rfl) (by decide) ?_
          refine lv_aload_n hx hb dX7_account_95 rfl (lv_at hl 0 rfl) ?_
          refine xt_get (ci := 7) (C := RX7) (T := TX7) (n := 25) (v := .ref (ad 1)) hx hb hts iX7_account_X7 hown hK hP 0 (by decide) (LX7_obj ad cy _) rfl 0 (by decide) w1 rfl dX7_account_96 ?_
          refine lv_iconst (v := 1) hx hb dX7_account_99 (by decide) ?_
          refine xt_iald hx hb hK hP 1 (by decide) 0 (LX7_all ad cy _) rfl (by decide) dX7_account_100 ?_
          exact xt_iret hx hb hr hP hS (rs_1 hf) (rs_2 hf) dX7_account_101 hlocks
        · have hf := (if_neg c7).symm.trans hf
          by_cases c8 : a1 = 4
          · have hf := (if_pos c8).symm.trans hf
            refine lv_tableIn (tgt := 102) (off := 97) hx hb dX7_account_5 (by rw [c8]; decide) (by rw [c8]; decide) (by rw [c8]; rfl) (by decide) ?_
            refine lv_aload_n hx hb dX7_account_102 rfl (lv_at hl 0 rfl) ?_
            refine lv_iload_n hx hb dX7_account_103 rfl (lv_at hl 1 rfl) ?_
            refine lv_iconst (v := 4) hx hb dX7_account_104 (by decide) ?_
            refine lv_isub hx hb dX7_account_105 ?_
            obtain ⟨r9, qr9, hf⟩ := bd_some hf
            refine xt_callVi (As := [.int (a1 - 4)]) (rest := []) (C := RX7) (ci := 7) ⟨hx, hb, hml, hown, hts⟩ 0 (mX7_lying l dC dI ad cy hJ r1 (a1 - 4) r9 qr9) (cwV 1 hts gX7_account_X7_lying rfl rfl rfl dmX7_lying ⟨Nat.le_of_ble_eq_true rfl, Nat.le_of_ble_eq_true rfl⟩) hK hP hS (by decide) (LX7_obj ad cy _) rfl rfl rfl hl.1 (Nat.le_of_ble_eq_true rfl) ⟨Nat.zero_le _, Nat.zero_le _⟩ dX7_account_106 (fun H locs hP hS => ?_)
            exact xt_iret hx hb hr hP hS (rs_1 hf) (rs_2 hf) dX7_account_109 hlocks
          · have hf := (if_neg c8).symm.trans hf
            by_cases c10 : a1 = 5
            · have hf := (if_pos c10).symm.trans hf
              refine lv_tableIn (tgt := 102) (off := 97) hx hb dX7_account_5 (by rw [c10]; decide) (by rw [c10]; decide) (by rw [c10]; rfl) (by decide) ?_
              refine lv_aload_n hx hb dX7_account_102 rfl (lv_at hl 0 rfl) ?_
              refine lv_iload_n hx hb dX7_account_103 rfl (lv_at hl 1 rfl) ?_
              refine lv_iconst (v := 4) hx hb dX7_account_104 (by decide) ?_
              refine lv_isub hx hb dX7_account_105 ?_
              obtain ⟨r11, qr11, hf⟩ := bd_some hf
              refine xt_callVi (As := [.int (a1 - 4)]) (rest := []) (C := RX7) (ci := 7) ⟨hx, hb, hml, hown, hts⟩ 0 (mX7_lying l dC dI ad cy hJ r1 (a1 - 4) r11 qr11) (cwV 1 hts gX7_account_X7_lying rfl rfl rfl dmX7_lying ⟨Nat.le_of_ble_eq_true rfl, Nat.le_of_ble_eq_true rfl⟩) hK hP hS (by decide) (LX7_obj ad cy _) rfl rfl rfl hl.1 (Nat.le_of_ble_eq_true rfl) ⟨Nat.zero_le _, Nat.zero_le _⟩ dX7_account_106 (fun H locs hP hS => ?_)
              exact xt_iret hx hb hr hP hS (rs_1 hf) (rs_2 hf) dX7_account_109 hlocks
            · have hf := (if_neg c10).symm.trans hf
              by_cases c12 : a1 = 6
              · have hf := (if_pos c12).symm.trans hf
                refine lv_tableIn (tgt := 102) (off := 97) hx hb dX7_account_5 (by rw [c12]; decide) (by rw [c12]; decide) (by rw [c12]; rfl) (by decide) ?_
                refine lv_aload_n hx hb dX7_account_102 rfl (lv_at hl 0 rfl) ?_
                refine lv_iload_n hx hb dX7_account_103 rfl (lv_at hl 1 rfl) ?_
                refine lv_iconst (v := 4) hx hb dX7_account_104 (by decide) ?_
                refine lv_isub hx hb dX7_account_105 ?_
                obtain ⟨r13, qr13, hf⟩ := bd_some hf
                refine xt_callVi (As := [.int (a1 - 4)]) (rest := []) (C := RX7) (ci := 7) ⟨hx, hb, hml, hown, hts⟩ 0 (mX7_lying l dC dI ad cy hJ r1 (a1 - 4) r13 qr13) (cwV 1 hts gX7_account_X7_lying rfl rfl rfl dmX7_lying ⟨Nat.le_of_ble_eq_true rfl, Nat.le_of_ble_eq_true rfl⟩) hK hP hS (by decide) (LX7_obj ad cy _) rfl rfl rfl hl.1 (Nat.le_of_ble_eq_true rfl) ⟨Nat.zero_le _, Nat.zero_le _⟩ dX7_account_106 (fun H locs hP hS => ?_)
                exact xt_iret hx hb hr hP hS (rs_1 hf) (rs_2 hf) dX7_account_109 hlocks
              · have hf := (if_neg c12).symm.trans hf
                by_cases c14 : a1 = 7
                · have hf := (if_pos c14).symm.trans hf
                  refine lv_tableIn (tgt := 110) (off := 105) hx hb dX7_account_5 (by rw [c14]; decide) (by rw [c14]; decide) (by rw [c14]; rfl) (by decide) ?_
                  refine lv_aload_n hx hb dX7_account_110 rfl (lv_at hl 0 rfl) ?_
                  obtain ⟨r15, qr15, hf⟩ := bd_some hf
                  refine xt_callVi (As := []) (rest := []) (C := RX7) (ci := 7) ⟨hx, hb, hml, hown, hts⟩ 0 (mX7_tons l dC dI ad cy hJ r1 r15 qr15) (cwV 0 hts gX7_account_X7_tons rfl rfl rfl dmX7_tons ⟨Nat.le_of_ble_eq_true rfl, Nat.le_of_ble_eq_true rfl⟩) hK hP hS (by decide) (LX7_obj ad cy _) rfl rfl rfl hl.1 (Nat.le_of_ble_eq_true rfl) ⟨Nat.zero_le _, Nat.zero_le _⟩ dX7_account_111 (fun H locs hP hS => ?_)
                  exact xt_iret hx hb hr hP hS (rs_1 hf) (rs_2 hf) dX7_account_114 hlocks
                · have hf := (if_neg c14).symm.trans hf
                  by_cases c16 : a1 = 8
                  · have hf := (if_pos c16).symm.trans hf
                    refine lv_tableIn (tgt := 115) (off := 110) hx hb dX7_account_5 (by rw [c16]; decide) (by rw [c16]; decide) (by rw [c16]; rfl) (by decide) ?_
                    refine lv_aload_n hx hb dX7_account_115 rfl (lv_at hl 0 rfl) ?_
                    refine lv_iconst (v := 3) hx hb dX7_account_116 (by decide) ?_
                    obtain ⟨r17, qr17, hf⟩ := bd_some hf
                    refine xt_callVi (As := [.int 3]) (rest := []) (C := RX7) (ci := 7) ⟨hx, hb, hml, hown, hts⟩ 0 (mX7_sum l dC dI ad cy hJ r1 3 r17 qr17) (cwV 1 hts gX7_account_X7_sum rfl rfl rfl dmX7_sum ⟨Nat.le_of_ble_eq_true rfl, Nat.le_of_ble_eq_true rfl⟩) hK hP hS (by decide) (LX7_obj ad cy _) rfl rfl rfl hl.1 (Nat.le_of_ble_eq_true rfl) ⟨Nat.zero_le _, Nat.zero_le _⟩ dX7_account_117 (fun H locs hP hS => ?_)
                    exact xt_iret hx hb hr hP hS (rs_1 hf) (rs_2 hf) dX7_account_120 hlocks
                  · have hf := (if_neg c16).symm.trans hf
                    by_cases c18 : a1 = 9
                    · have hf := (if_pos c18).symm.trans hf
                      refine lv_tableIn (tgt := 121) (off := 116) hx hb dX7_account_5 (by rw [c18]; decide) (by rw [c18]; decide) (by rw [c18]; rfl) (by decide) ?_
                      refine lv_aload_n hx hb dX7_account_121 rfl (lv_at hl 0 rfl) ?_
                      refine lv_iconst (v := 2) hx hb dX7_account_122 (by decide) ?_
                      obtain ⟨r19, qr19, hf⟩ := bd_some hf
                      refine xt_callVi (As := [.int 2]) (rest := []) (C := RX7) (ci := 7) ⟨hx, hb, hml, hown, hts⟩ 0 (mX7_sum l dC dI ad cy hJ r1 2 r19 qr19) (cwV 1 hts gX7_account_X7_sum rfl rfl rfl dmX7_sum ⟨Nat.le_of_ble_eq_true rfl, Nat.le_of_ble_eq_true rfl⟩) hK hP hS (by decide) (LX7_obj ad cy _) rfl rfl rfl hl.1 (Nat.le_of_ble_eq_true rfl) ⟨Nat.zero_le _, Nat.zero_le _⟩ dX7_account_123 (fun H locs hP hS => ?_)
                      exact xt_iret hx hb hr hP hS (rs_1 hf) (rs_2 hf) dX7_account_126 hlocks
                    · have hf := (if_neg c18).symm.trans hf
                      by_cases c20 : a1 = 10
                      · have hf := (if_pos c20).symm.trans hf
                        refine lv_tableIn (tgt := 127) (off := 122) hx hb dX7_account_5 (by rw [c20]; decide) (by rw [c20]; decide) (by rw [c20]; rfl) (by decide) ?_
                        refine lv_aload_n hx hb dX7_account_127 rfl (lv_at hl 0 rfl) ?_
                        refine xt_get (ci := 7) (C := RX7) (T := TX7) (n := 25) (v := .ref (ad 1)) hx hb hts iX7_account_X7 hown hK hP 0 (by decide) (LX7_obj ad cy _) rfl 0 (by decide) w1 rfl dX7_account_128 ?_
                        refine lv_iconst (v := 3) hx hb dX7_account_131 (by decide) ?_
                        refine xt_iald hx hb hK hP 1 (by decide) 0 (LX7_all ad cy _) rfl (by decide) dX7_account_132 ?_
                        exact xt_iret hx hb hr hP hS (rs_1 hf) (rs_2 hf) dX7_account_133 hlocks
                      · have hf := (if_neg c20).symm.trans hf
                        by_cases c21 : a1 = 11
                        · have hf := (if_pos c21).symm.trans hf
                          refine lv_tableIn (tgt := 134) (off := 129) hx hb dX7_account_5 (by rw [c21]; decide) (by rw [c21]; decide) (by rw [c21]; rfl) (by decide) ?_
                          refine lv_aload_n hx hb dX7_account_134 rfl (lv_at hl 0 rfl) ?_
                          refine xt_get (ci := 7) (C := RX7) (T := TX7) (n := 25) (v := .ref (ad 1)) hx hb hts iX7_account_X7 hown hK hP 0 (by decide) (LX7_obj ad cy _) rfl 0 (by decide) w1 rfl dX7_account_135 ?_
                          refine lv_iconst (v := 2) hx hb dX7_account_138 (by decide) ?_
                          refine xt_iald hx hb hK hP 1 (by decide) 0 (LX7_all ad cy _) rfl (by decide) dX7_account_139 ?_
                          exact xt_iret hx hb hr hP hS (rs_1 hf) (rs_2 hf) dX7_account_140 hlocks
                        · have hf := (if_neg c21).symm.trans hf
                          by_cases c22 : a1 = 12
                          · have hf := (if_pos c22).symm.trans hf
                            refine lv_tableIn (tgt := 141) (off := 136) hx hb dX7_account_5 (by rw [c22]; decide) (by rw [c22]; decide) (by rw [c22]; rfl) (by decide) ?_
                            refine lv_aload_n hx hb dX7_account_141 rfl (lv_at hl 0 rfl) ?_
                            refine lv_iconst (v := 4) hx hb dX7_account_142 (by decide) ?_
                            obtain ⟨r23, qr23, hf⟩ := bd_some hf
                            refine xt_callVi (As := [.int 4]) (rest := []) (C := RX7) (ci := 7) ⟨hx, hb, hml, hown, hts⟩ 0 (mX7_sum l dC dI ad cy hJ r1 4 r23 qr23) (cwV 1 hts gX7_account_X7_sum rfl rfl rfl dmX7_sum ⟨Nat.le_of_ble_eq_true rfl, Nat.le_of_ble_eq_true rfl⟩) hK hP hS (by decide) (LX7_obj ad cy _) rfl rfl rfl hl.1 (Nat.le_of_ble_eq_true rfl) ⟨Nat.zero_le _, Nat.zero_le _⟩ dX7_account_143 (fun H locs hP hS => ?_)
                            exact xt_iret hx hb hr hP hS (rs_1 hf) (rs_2 hf) dX7_account_146 hlocks
                          · have hf := (if_neg c22).symm.trans hf
                            by_cases c24 : a1 = 13
                            · have hf := (if_pos c24).symm.trans hf
                              refine lv_tableIn (tgt := 147) (off := 142) hx hb dX7_account_5 (by rw [c24]; decide) (by rw [c24]; decide) (by rw [c24]; rfl) (by decide) ?_
                              refine lv_aload_n hx hb dX7_account_147 rfl (lv_at hl 0 rfl) ?_
                              refine xt_get (ci := 7) (C := RX7) (T := TX7) (n := 25) (v := .int (r1 0 18)) hx hb hts iX7_account_X7 hown hK hP 0 (by decide) (LX7_obj ad cy _) rfl 18 (by decide) w2 rfl dX7_account_148 ?_
                              exact xt_iret hx hb hr hP hS (rs_1 hf) (rs_2 hf) dX7_account_151 hlocks
                            · have hf := (if_neg c24).symm.trans hf
                              by_cases c25 : a1 = 14
                              · have hf := (if_pos c25).symm.trans hf
                                refine lv_tableIn (tgt := 152) (off := 147) hx hb dX7_account_5 (by rw [c25]; decide) (by rw [c25]; decide) (by rw [c25]; rfl) (by decide) ?_
                                refine lv_aload_n hx hb dX7_account_152 rfl (lv_at hl 0 rfl) ?_
                                refine xt_get (ci := 7) (C := RX7) (T := TX7) (n := 25) (v := .int (r1 0 1)) hx hb hts iX7_account_X7 hown hK hP 0 (by decide) (LX7_obj ad cy _) rfl 1 (by decide) w3 rfl dX7_account_153 ?_
                                exact xt_iret hx hb hr hP hS (rs_1 hf) (rs_2 hf) dX7_account_156 hlocks
                              · have hf := (if_neg c25).symm.trans hf
                                refine lv_tableOut (tgt := 157) hx hb dX7_account_5 (by have ic2 : ¬ Int32.toInt a1 = 0 := lv_neT c2 (by decide); have ic3 : ¬ Int32.toInt a1 = 1 := lv_neT c3 (by decide); have ic5 : ¬ Int32.toInt a1 = 2 := lv_neT c5 (by decide); have ic7 : ¬ Int32.toInt a1 = 3 := lv_neT c7 (by decide); have ic8 : ¬ Int32.toInt a1 = 4 := lv_neT c8 (by decide); have ic10 : ¬ Int32.toInt a1 = 5 := lv_neT c10 (by decide); have ic12 : ¬ Int32.toInt a1 = 6 := lv_neT c12 (by decide); have ic14 : ¬ Int32.toInt a1 = 7 := lv_neT c14 (by decide); have ic16 : ¬ Int32.toInt a1 = 8 := lv_neT c16 (by decide); have ic18 : ¬ Int32.toInt a1 = 9 := lv_neT c18 (by decide); have ic20 : ¬ Int32.toInt a1 = 10 := lv_neT c20 (by decide); have ic21 : ¬ Int32.toInt a1 = 11 := lv_neT c21 (by decide); have ic22 : ¬ Int32.toInt a1 = 12 := lv_neT c22 (by decide); have ic24 : ¬ Int32.toInt a1 = 13 := lv_neT c24 (by decide); have ic25 : ¬ Int32.toInt a1 = 14 := lv_neT c25 (by decide); omega) (by decide) ?_
                                refine lv_bipush (v := (-12)) hx hb dX7_account_157 (by decide) ?_
                                exact xt_iret hx hb hr hP hS (rs_1 hf) (rs_2 hf) dX7_account_159 hlocks
def fX7_isBalanced (σ : St) : Option Int32 :=
  some (1 : Int32)
abbrev rmX7_isBalanced : Room := { frames := 0, cells := 0, slots := 0, locals := 0 }
theorem dmX7_isBalanced : yX7_isBalanced.cls = RX7 ∧ yX7_isBalanced.cls ≠ "java/lang/invoke/MethodHandle" ∧ yX7_isBalanced.cls ≠ "java/lang/invoke/VarHandle" ∧ (parseMethodDescriptor yX7_isBalanced.desc).map (fun d => d.parameters.length) = some 0 := by decide +kernel
set_option maxHeartbeats 8000000 in
set_option maxRecDepth 100000 in
theorem mX7_isBalanced (l : Launch) (dC : Nat → ClassId) (dI : Nat → Nat → Nat) (ad : Nat → Nat) (cy : Nat → ClassId) (hJ : WJ 16 ad) (σ : St) (res : Int32) (hf : fX7_isBalanced σ = some res) : CMi l yX7_isBalanced wsX7_isBalanced rmX7_isBalanced (dC, dI) (tysX cy) 16 ad (layM ad cy) [.ref (ad 0)] σ res σ := by
  refine Met.ofW (cc := cX7_isBalanced) (maxL := 1) (ret := (some .int)) (by decide) rfl ?_
  intro p e s m args below meth c s₁ B hml hv
  obtain ⟨hargs, hP, hK⟩ := hv
  have hx := B.exec
  have hb := B.bytes
  have hr := B.returns
  have hts := atoms_spec (ws := wsX7_isBalanced) B.pre
  have hown : s.vm.findClass RX7 = some m.cls := findClass_of_methodNamed B.named
  have hlocks := B.notSynchronized
  have hS : va_S (WA 16 ad) s.heap s.heap [] := va_S.rf
  have hfr : entryFrame m args 1 = F0 m 0 ((lg_sl [.ref (ad 0)] ++ List.replicate (1 - (lg_sl [.ref (ad 0)]).length) Slot.unset).toArray) [] := by rw [hargs]; exact lg_entry_eq _ _ _
  rw [hfr]
  have hl := lv_entry ([.ref (ad 0)]) (n := 1) (Nat.le_of_ble_eq_true rfl)
  generalize (lg_sl [.ref (ad 0)] ++ List.replicate (1 - (lg_sl [.ref (ad 0)]).length) Slot.unset).toArray = ls at hl ⊢
  have hl : lv_has ls 1 [(0, .ref (ad 0))] := hl
  clear hfr hargs B
  show W p l e rmX7_isBalanced s m args below meth c s.heap [] 0 0 (MQ below (Qiw (dC, dI) 16 ad (layM ad cy) res σ) args s 0 0 (WA 16 ad)) (F0 m 0 ls [])
  unfold fX7_isBalanced at hf
  obtain ⟨H, eH⟩ : ∃ H : Heap, H = s.heap := ⟨_, rfl⟩
  rw [← eH] at hP
  have hS : va_S (WA 16 ad) s.heap H [] := by rw [eH]; exact hS
  suffices K : W p l e rmX7_isBalanced s m args below meth c H [] 0 0 (MQ below (Qiw (dC, dI) 16 ad (layM ad cy) res σ) args s 0 0 (WA 16 ad)) (F0 m 0 ls []) by rw [eH] at K; exact K
  clear eH
  obtain ⟨locs, elocs⟩ : ∃ z : List Loc, z = [] := ⟨_, rfl⟩
  rw [← elocs] at hS ⊢
  refine lv_iconst (v := 1) hx hb dX7_isBalanced_0 (by decide) ?_
  exact xt_iret hx hb hr hP hS (Option.some.inj hf) rfl dX7_isBalanced_1 hlocks
def fX7_undo (σ : St) : Option (Int32 × St) :=
  if (σ 0 1) = 0 then (some ((-15), σ)) else (bd (fX7_copies σ (σ 0 1) 0) fun r2 => nm (su r2 0 1 ((r2 0 1) - 1)) fun σ3 => some ((σ3 0 1), σ3))
abbrev rmX7_undo : Room := { frames := 1, cells := 0, slots := 0, locals := 23 }
theorem dmX7_undo : yX7_undo.cls = RX7 ∧ yX7_undo.cls ≠ "java/lang/invoke/MethodHandle" ∧ yX7_undo.cls ≠ "java/lang/invoke/VarHandle" ∧ (parseMethodDescriptor yX7_undo.desc).map (fun d => d.parameters.length) = some 0 := by decide +kernel
theorem iX7_undo_X7 : ∀ w ∈ wsX70, w ∈ wsX7_undo := fun w h => List.mem_cons_of_mem _ (List.mem_append_right _ (h))
set_option maxHeartbeats 8000000 in
set_option maxRecDepth 100000 in
theorem mX7_undo (l : Launch) (dC : Nat → ClassId) (dI : Nat → Nat → Nat) (ad : Nat → Nat) (cy : Nat → ClassId) (hJ : WJ 16 ad) (σ : St) (res : (Int32 × St)) (hf : fX7_undo σ = some res) : CMi l yX7_undo wsX7_undo rmX7_undo (dC, dI) (tysX cy) 16 ad (layM ad cy) [.ref (ad 0)] σ res.1 res.2 := by
  refine Met.ofW (cc := cX7_undo) (maxL := 1) (ret := (some .int)) (by decide) rfl ?_
  intro p e s m args below meth c s₁ B hml hv
  obtain ⟨hargs, hP, hK⟩ := hv
  have hx := B.exec
  have hb := B.bytes
  have hr := B.returns
  have hts := atoms_spec (ws := wsX7_undo) B.pre
  have hown : s.vm.findClass RX7 = some m.cls := findClass_of_methodNamed B.named
  have hlocks := B.notSynchronized
  have w1 := hts (.fieldLink RX7 63 "PierRingsModel" "changes" "I") (List.mem_of_getElem? (i := 1) rfl)
  have hS : va_S (WA 16 ad) s.heap s.heap [] := va_S.rf
  have hfr : entryFrame m args 1 = F0 m 0 ((lg_sl [.ref (ad 0)] ++ List.replicate (1 - (lg_sl [.ref (ad 0)]).length) Slot.unset).toArray) [] := by rw [hargs]; exact lg_entry_eq _ _ _
  rw [hfr]
  have hl := lv_entry ([.ref (ad 0)]) (n := 1) (Nat.le_of_ble_eq_true rfl)
  generalize (lg_sl [.ref (ad 0)] ++ List.replicate (1 - (lg_sl [.ref (ad 0)]).length) Slot.unset).toArray = ls at hl ⊢
  have hl : lv_has ls 1 [(0, .ref (ad 0))] := hl
  clear hfr hargs B
  show W p l e rmX7_undo s m args below meth c s.heap [] 0 0 (MQ below (Qiw (dC, dI) 16 ad (layM ad cy) res.1 res.2) args s 0 0 (WA 16 ad)) (F0 m 0 ls [])
  unfold fX7_undo at hf
  obtain ⟨H, eH⟩ : ∃ H : Heap, H = s.heap := ⟨_, rfl⟩
  rw [← eH] at hP
  have hS : va_S (WA 16 ad) s.heap H [] := by rw [eH]; exact hS
  suffices K : W p l e rmX7_undo s m args below meth c H [] 0 0 (MQ below (Qiw (dC, dI) 16 ad (layM ad cy) res.1 res.2) args s 0 0 (WA 16 ad)) (F0 m 0 ls []) by rw [eH] at K; exact K
  clear eH
  obtain ⟨locs, elocs⟩ : ∃ z : List Loc, z = [] := ⟨_, rfl⟩
  rw [← elocs] at hS ⊢
  refine lv_aload_n hx hb dX7_undo_0 rfl (lv_at hl 0 rfl) ?_
  refine xt_get (ci := 7) (C := RX7) (T := TX7) (n := 25) (v := .int (σ 0 1)) hx hb hts iX7_undo_X7 hown hK hP 0 (by decide) (LX7_obj ad cy _) rfl 1 (by decide) w1 rfl dX7_undo_1 ?_
  refine lv_if_ne (tgt := 10) hx hb dX7_undo_4 (by decide) (fun c1 => ?_) (fun c1 => ?_)
  · have hf := (if_neg c1).symm.trans hf
    refine lv_aload_n hx hb dX7_undo_10 rfl (lv_at hl 0 rfl) ?_
    refine lv_aload_n hx hb dX7_undo_11 rfl (lv_at hl 0 rfl) ?_
    refine xt_get (ci := 7) (C := RX7) (T := TX7) (n := 25) (v := .int (σ 0 1)) hx hb hts iX7_undo_X7 hown hK hP 0 (by decide) (LX7_obj ad cy _) rfl 1 (by decide) w1 rfl dX7_undo_12 ?_
    refine lv_iconst (v := 0) hx hb dX7_undo_15 (by decide) ?_
    obtain ⟨r2, qr2, hf⟩ := bd_some hf
    refine xt_callVv (As := [.int (σ 0 1), .int 0]) (rest := []) (C := RX7) (ci := 7) ⟨hx, hb, hml, hown, hts⟩ 0 (mX7_copies l dC dI ad cy hJ σ (σ 0 1) 0 r2 qr2) (cwV 2 hts gX7_undo_X7_copies rfl rfl rfl dmX7_copies ⟨Nat.le_of_ble_eq_true rfl, Nat.le_of_ble_eq_true rfl⟩) hK hP hS (by decide) (LX7_obj ad cy _) rfl rfl rfl hl.1 (Nat.le_of_ble_eq_true rfl) ⟨Nat.zero_le _, Nat.zero_le _⟩ dX7_undo_16 (fun H locs hP hS => ?_)
    refine lv_aload_n hx hb dX7_undo_19 rfl (lv_at hl 0 rfl) ?_
    refine lv_dup hx hb dX7_undo_20 rfl ?_
    refine xt_get (ci := 7) (C := RX7) (T := TX7) (n := 25) (v := .int (r2 0 1)) hx hb hts iX7_undo_X7 hown hK hP 0 (by decide) (LX7_obj ad cy _) rfl 1 (by decide) w1 rfl dX7_undo_21 ?_
    refine lv_iconst (v := 1) hx hb dX7_undo_24 (by decide) ?_
    refine lv_isub hx hb dX7_undo_25 ?_
    refine xt_put (ci := 7) (C := RX7) (T := TX7) (n := 25) hx hb hts iX7_undo_X7 tyX7 tyX7_ok nmX7 hown hK hP hJ hS 0 (by decide) (LX7_obj ad cy _) rfl 1 (by decide) w1 rfl (v := ((r2 0 1) - 1)) rfl rfl (Nat.le_of_ble_eq_true rfl) (LX7_obj ad cy _) dX7_undo_26 (fun H locs hP hS => ?_)
    obtain ⟨σ3, eσ3⟩ : ∃ z : St, z = su r2 0 1 ((r2 0 1) - 1) := ⟨_, rfl⟩
    rw [← eσ3] at hP
    have hf := nm_to hf eσ3
    refine lv_aload_n hx hb dX7_undo_29 rfl (lv_at hl 0 rfl) ?_
    refine xt_get (ci := 7) (C := RX7) (T := TX7) (n := 25) (v := .int (σ3 0 1)) hx hb hts iX7_undo_X7 hown hK hP 0 (by decide) (LX7_obj ad cy _) rfl 1 (by decide) w1 rfl dX7_undo_30 ?_
    exact xt_iret hx hb hr hP hS (rs_1 hf) (rs_2 hf) dX7_undo_33 hlocks
  · have hf := (if_pos c1).symm.trans hf
    refine lv_bipush (v := (-15)) hx hb dX7_undo_7 (by decide) ?_
    exact xt_iret hx hb hr hP hS (rs_1 hf) (rs_2 hf) dX7_undo_9 hlocks
def fX7_save (σ : St) : Option (Int32 × St) :=
  nm (su σ 0 2 1) fun σ1 => bd (fX7_copies σ1 0 9) fun r2 => some ((r2 1 (1 : Int32).toNatClampNeg), r2)
abbrev rmX7_save : Room := { frames := 1, cells := 0, slots := 0, locals := 23 }
theorem dmX7_save : yX7_save.cls = RX7 ∧ yX7_save.cls ≠ "java/lang/invoke/MethodHandle" ∧ yX7_save.cls ≠ "java/lang/invoke/VarHandle" ∧ (parseMethodDescriptor yX7_save.desc).map (fun d => d.parameters.length) = some 0 := by decide +kernel
theorem iX7_save_X7 : ∀ w ∈ wsX70, w ∈ wsX7_save := fun w h => List.mem_cons_of_mem _ (List.mem_append_right _ (h))
set_option maxHeartbeats 8000000 in
set_option maxRecDepth 100000 in
theorem mX7_save (l : Launch) (dC : Nat → ClassId) (dI : Nat → Nat → Nat) (ad : Nat → Nat) (cy : Nat → ClassId) (hJ : WJ 16 ad) (σ : St) (res : (Int32 × St)) (hf : fX7_save σ = some res) : CMi l yX7_save wsX7_save rmX7_save (dC, dI) (tysX cy) 16 ad (layM ad cy) [.ref (ad 0)] σ res.1 res.2 := by
  refine Met.ofW (cc := cX7_save) (maxL := 1) (ret := (some .int)) (by decide) rfl ?_
  intro p e s m args below meth c s₁ B hml hv
  obtain ⟨hargs, hP, hK⟩ := hv
  have hx := B.exec
  have hb := B.bytes
  have hr := B.returns
  have hts := atoms_spec (ws := wsX7_save) B.pre
  have hown : s.vm.findClass RX7 = some m.cls := findClass_of_methodNamed B.named
  have hlocks := B.notSynchronized
  have w1 := hts (.fieldLink RX7 254 "PierRingsModel" "isSaved" "Z") (List.mem_of_getElem? (i := 1) rfl)
  have w2 := hts (.fieldLink RX7 9 "PierRingsModel" "all" "[I") (List.mem_of_getElem? (i := 2) rfl)
  have hS : va_S (WA 16 ad) s.heap s.heap [] := va_S.rf
  have hfr : entryFrame m args 1 = F0 m 0 ((lg_sl [.ref (ad 0)] ++ List.replicate (1 - (lg_sl [.ref (ad 0)]).length) Slot.unset).toArray) [] := by rw [hargs]; exact lg_entry_eq _ _ _
  rw [hfr]
  have hl := lv_entry ([.ref (ad 0)]) (n := 1) (Nat.le_of_ble_eq_true rfl)
  generalize (lg_sl [.ref (ad 0)] ++ List.replicate (1 - (lg_sl [.ref (ad 0)]).length) Slot.unset).toArray = ls at hl ⊢
  have hl : lv_has ls 1 [(0, .ref (ad 0))] := hl
  clear hfr hargs B
  show W p l e rmX7_save s m args below meth c s.heap [] 0 0 (MQ below (Qiw (dC, dI) 16 ad (layM ad cy) res.1 res.2) args s 0 0 (WA 16 ad)) (F0 m 0 ls [])
  unfold fX7_save at hf
  obtain ⟨H, eH⟩ : ∃ H : Heap, H = s.heap := ⟨_, rfl⟩
  rw [← eH] at hP
  have hS : va_S (WA 16 ad) s.heap H [] := by rw [eH]; exact hS
  suffices K : W p l e rmX7_save s m args below meth c H [] 0 0 (MQ below (Qiw (dC, dI) 16 ad (layM ad cy) res.1 res.2) args s 0 0 (WA 16 ad)) (F0 m 0 ls []) by rw [eH] at K; exact K
  clear eH
  obtain ⟨locs, elocs⟩ : ∃ z : List Loc, z = [] := ⟨_, rfl⟩
  rw [← elocs] at hS ⊢
  refine lv_aload_n hx hb dX7_save_0 rfl (lv_at hl 0 rfl) ?_
  refine lv_iconst (v := 1) hx hb dX7_save_1 (by decide) ?_
  refine xt_put (ci := 7) (C := RX7) (T := TX7) (n := 25) hx hb hts iX7_save_X7 tyX7 tyX7_ok nmX7 hown hK hP hJ hS 0 (by decide) (LX7_obj ad cy _) rfl 2 (by decide) w1 rfl (v := 1) rfl rfl (Nat.le_of_ble_eq_true rfl) (LX7_obj ad cy _) dX7_save_2 (fun H locs hP hS => ?_)
  obtain ⟨σ1, eσ1⟩ : ∃ z : St, z = su σ 0 2 1 := ⟨_, rfl⟩
  rw [← eσ1] at hP
  have hf := nm_to hf eσ1
  refine lv_aload_n hx hb dX7_save_5 rfl (lv_at hl 0 rfl) ?_
  refine lv_iconst (v := 0) hx hb dX7_save_6 (by decide) ?_
  refine lv_bipush (v := 9) hx hb dX7_save_7 (by decide) ?_
  obtain ⟨r2, qr2, hf⟩ := bd_some hf
  refine xt_callVv (As := [.int 0, .int 9]) (rest := []) (C := RX7) (ci := 7) ⟨hx, hb, hml, hown, hts⟩ 0 (mX7_copies l dC dI ad cy hJ σ1 0 9 r2 qr2) (cwV 2 hts gX7_save_X7_copies rfl rfl rfl dmX7_copies ⟨Nat.le_of_ble_eq_true rfl, Nat.le_of_ble_eq_true rfl⟩) hK hP hS (by decide) (LX7_obj ad cy _) rfl rfl rfl hl.1 (Nat.le_of_ble_eq_true rfl) ⟨Nat.zero_le _, Nat.zero_le _⟩ dX7_save_9 (fun H locs hP hS => ?_)
  refine lv_aload_n hx hb dX7_save_12 rfl (lv_at hl 0 rfl) ?_
  refine xt_get (ci := 7) (C := RX7) (T := TX7) (n := 25) (v := .ref (ad 1)) hx hb hts iX7_save_X7 hown hK hP 0 (by decide) (LX7_obj ad cy _) rfl 0 (by decide) w2 rfl dX7_save_13 ?_
  refine lv_iconst (v := 1) hx hb dX7_save_16 (by decide) ?_
  refine xt_iald hx hb hK hP 1 (by decide) 0 (LX7_all ad cy _) rfl (by decide) dX7_save_17 ?_
  exact xt_iret hx hb hr hP hS (rs_1 hf) (rs_2 hf) dX7_save_18 hlocks
def fX7_restore (σ : St) : Option (Int32 × St) :=
  if (σ 0 2) = 0 then (some ((-15), σ)) else (bd (fX7_copies σ 9 0) fun r2 => nm (su r2 0 1 0) fun σ3 => some ((σ3 1 (1 : Int32).toNatClampNeg), σ3))
abbrev rmX7_restore : Room := { frames := 1, cells := 0, slots := 0, locals := 23 }
theorem dmX7_restore : yX7_restore.cls = RX7 ∧ yX7_restore.cls ≠ "java/lang/invoke/MethodHandle" ∧ yX7_restore.cls ≠ "java/lang/invoke/VarHandle" ∧ (parseMethodDescriptor yX7_restore.desc).map (fun d => d.parameters.length) = some 0 := by decide +kernel
theorem iX7_restore_X7 : ∀ w ∈ wsX70, w ∈ wsX7_restore := fun w h => List.mem_cons_of_mem _ (List.mem_append_right _ (h))
set_option maxHeartbeats 8000000 in
set_option maxRecDepth 100000 in
theorem mX7_restore (l : Launch) (dC : Nat → ClassId) (dI : Nat → Nat → Nat) (ad : Nat → Nat) (cy : Nat → ClassId) (hJ : WJ 16 ad) (σ : St) (res : (Int32 × St)) (hf : fX7_restore σ = some res) : CMi l yX7_restore wsX7_restore rmX7_restore (dC, dI) (tysX cy) 16 ad (layM ad cy) [.ref (ad 0)] σ res.1 res.2 := by
  refine Met.ofW (cc := cX7_restore) (maxL := 1) (ret := (some .int)) (by decide) rfl ?_
  intro p e s m args below meth c s₁ B hml hv
  obtain ⟨hargs, hP, hK⟩ := hv
  have hx := B.exec
  have hb := B.bytes
  have hr := B.returns
  have hts := atoms_spec (ws := wsX7_restore) B.pre
  have hown : s.vm.findClass RX7 = some m.cls := findClass_of_methodNamed B.named
  have hlocks := B.notSynchronized
  have w1 := hts (.fieldLink RX7 254 "PierRingsModel" "isSaved" "Z") (List.mem_of_getElem? (i := 1) rfl)
  have w2 := hts (.fieldLink RX7 63 "PierRingsModel" "changes" "I") (List.mem_of_getElem? (i := 2) rfl)
  have w3 := hts (.fieldLink RX7 9 "PierRingsModel" "all" "[I") (List.mem_of_getElem? (i := 3) rfl)
  have hS : va_S (WA 16 ad) s.heap s.heap [] := va_S.rf
  have hfr : entryFrame m args 1 = F0 m 0 ((lg_sl [.ref (ad 0)] ++ List.replicate (1 - (lg_sl [.ref (ad 0)]).length) Slot.unset).toArray) [] := by rw [hargs]; exact lg_entry_eq _ _ _
  rw [hfr]
  have hl := lv_entry ([.ref (ad 0)]) (n := 1) (Nat.le_of_ble_eq_true rfl)
  generalize (lg_sl [.ref (ad 0)] ++ List.replicate (1 - (lg_sl [.ref (ad 0)]).length) Slot.unset).toArray = ls at hl ⊢
  have hl : lv_has ls 1 [(0, .ref (ad 0))] := hl
  clear hfr hargs B
  show W p l e rmX7_restore s m args below meth c s.heap [] 0 0 (MQ below (Qiw (dC, dI) 16 ad (layM ad cy) res.1 res.2) args s 0 0 (WA 16 ad)) (F0 m 0 ls [])
  unfold fX7_restore at hf
  obtain ⟨H, eH⟩ : ∃ H : Heap, H = s.heap := ⟨_, rfl⟩
  rw [← eH] at hP
  have hS : va_S (WA 16 ad) s.heap H [] := by rw [eH]; exact hS
  suffices K : W p l e rmX7_restore s m args below meth c H [] 0 0 (MQ below (Qiw (dC, dI) 16 ad (layM ad cy) res.1 res.2) args s 0 0 (WA 16 ad)) (F0 m 0 ls []) by rw [eH] at K; exact K
  clear eH
  obtain ⟨locs, elocs⟩ : ∃ z : List Loc, z = [] := ⟨_, rfl⟩
  rw [← elocs] at hS ⊢
  refine lv_aload_n hx hb dX7_restore_0 rfl (lv_at hl 0 rfl) ?_
  refine xt_get (ci := 7) (C := RX7) (T := TX7) (n := 25) (v := .int (σ 0 2)) hx hb hts iX7_restore_X7 hown hK hP 0 (by decide) (LX7_obj ad cy _) rfl 2 (by decide) w1 rfl dX7_restore_1 ?_
  refine lv_if_ne (tgt := 10) hx hb dX7_restore_4 (by decide) (fun c1 => ?_) (fun c1 => ?_)
  · have hf := (if_neg c1).symm.trans hf
    refine lv_aload_n hx hb dX7_restore_10 rfl (lv_at hl 0 rfl) ?_
    refine lv_bipush (v := 9) hx hb dX7_restore_11 (by decide) ?_
    refine lv_iconst (v := 0) hx hb dX7_restore_13 (by decide) ?_
    obtain ⟨r2, qr2, hf⟩ := bd_some hf
    refine xt_callVv (As := [.int 9, .int 0]) (rest := []) (C := RX7) (ci := 7) ⟨hx, hb, hml, hown, hts⟩ 0 (mX7_copies l dC dI ad cy hJ σ 9 0 r2 qr2) (cwV 2 hts gX7_restore_X7_copies rfl rfl rfl dmX7_copies ⟨Nat.le_of_ble_eq_true rfl, Nat.le_of_ble_eq_true rfl⟩) hK hP hS (by decide) (LX7_obj ad cy _) rfl rfl rfl hl.1 (Nat.le_of_ble_eq_true rfl) ⟨Nat.zero_le _, Nat.zero_le _⟩ dX7_restore_14 (fun H locs hP hS => ?_)
    refine lv_aload_n hx hb dX7_restore_17 rfl (lv_at hl 0 rfl) ?_
    refine lv_iconst (v := 0) hx hb dX7_restore_18 (by decide) ?_
    refine xt_put (ci := 7) (C := RX7) (T := TX7) (n := 25) hx hb hts iX7_restore_X7 tyX7 tyX7_ok nmX7 hown hK hP hJ hS 0 (by decide) (LX7_obj ad cy _) rfl 1 (by decide) w2 rfl (v := 0) rfl rfl (Nat.le_of_ble_eq_true rfl) (LX7_obj ad cy _) dX7_restore_19 (fun H locs hP hS => ?_)
    obtain ⟨σ3, eσ3⟩ : ∃ z : St, z = su r2 0 1 0 := ⟨_, rfl⟩
    rw [← eσ3] at hP
    have hf := nm_to hf eσ3
    refine lv_aload_n hx hb dX7_restore_22 rfl (lv_at hl 0 rfl) ?_
    refine xt_get (ci := 7) (C := RX7) (T := TX7) (n := 25) (v := .ref (ad 1)) hx hb hts iX7_restore_X7 hown hK hP 0 (by decide) (LX7_obj ad cy _) rfl 0 (by decide) w3 rfl dX7_restore_23 ?_
    refine lv_iconst (v := 1) hx hb dX7_restore_26 (by decide) ?_
    refine xt_iald hx hb hK hP 1 (by decide) 0 (LX7_all ad cy _) rfl (by decide) dX7_restore_27 ?_
    exact xt_iret hx hb hr hP hS (rs_1 hf) (rs_2 hf) dX7_restore_28 hlocks
  · have hf := (if_pos c1).symm.trans hf
    refine lv_bipush (v := (-15)) hx hb dX7_restore_7 (by decide) ?_
    exact xt_iret hx hb hr hP hS (rs_1 hf) (rs_2 hf) dX7_restore_9 hlocks
