def fX6_load (σ : St) (a1 : Int32) (a2 : Int32) : Option (Int32 × St) :=
  bd (fX2_draft 0 σ) fun r1 => bd (fX6_setTons r1 a1 a2) fun r2 => bd (fX6_keepIfDone r2.2 r2.1) fun r3 => some (r3.1, r3.2)
abbrev rmX6_load : Room := { frames := 4, cells := 0, slots := 0, locals := 106 }
theorem dmX6_load : yX6_load.cls = RX6 ∧ yX6_load.cls ≠ "java/lang/invoke/MethodHandle" ∧ yX6_load.cls ≠ "java/lang/invoke/VarHandle" ∧ (parseMethodDescriptor yX6_load.desc).map (fun d => d.parameters.length) = some 2 := by decide +kernel
theorem iX6_load_X6 : ∀ w ∈ wsX60, w ∈ wsX6_load := fun w h => List.mem_cons_of_mem _ (List.mem_append_left _ (List.mem_append_left _ (List.mem_append_left _ (List.mem_append_left _ (List.mem_append_right _ (h))))))
set_option maxHeartbeats 8000000 in
set_option maxRecDepth 100000 in
theorem mX6_load (l : Launch) (dC : Nat → ClassId) (dI : Nat → Nat → Nat) (ad : Nat → Nat) (cy : Nat → ClassId) (hJ : WJ 93 ad) (σ : St) (a1 : Int32) (a2 : Int32) (res : (Int32 × St)) (hf : fX6_load σ a1 a2 = some res) : CMi l yX6_load wsX6_load rmX6_load (dC, dI) (tysX cy) 93 ad (layX ad cy) [.ref (ad 0), .int a1, .int a2] σ res.1 res.2 := by
  refine Met.ofW (cc := cX6_load) (maxL := 3) (ret := (some .int)) (by decide) rfl ?_
  intro p e s m args below meth c s₁ B hml hv
  obtain ⟨hargs, hP, hK⟩ := hv
  have hx := B.exec
  have hb := B.bytes
  have hr := B.returns
  have hts := atoms_spec (ws := wsX6_load) B.pre
  have hown : s.vm.findClass RX6 = some m.cls := findClass_of_methodNamed B.named
  have hlocks := B.notSynchronized
  have w1 := hts (.fieldLink RX6 39 "PierRings" "history" "LPierRings$History;") (List.mem_of_getElem? (i := 1) rfl)
  have w2 := hts (.fieldLink RX6 12 "PierRings" "harbour" "LPierRings$Harbour;") (List.mem_of_getElem? (i := 2) rfl)
  have hS : va_S (WA 93 ad) s.heap s.heap [] := va_S.rf
  have hfr : entryFrame m args 3 = F0 m 0 ((lg_sl [.ref (ad 0), .int a1, .int a2] ++ List.replicate (3 - (lg_sl [.ref (ad 0), .int a1, .int a2]).length) Slot.unset).toArray) [] := by rw [hargs]; exact lg_entry_eq _ _ _
  rw [hfr]
  have hl := lv_entry ([.ref (ad 0), .int a1, .int a2]) (n := 3) (Nat.le_of_ble_eq_true rfl)
  generalize (lg_sl [.ref (ad 0), .int a1, .int a2] ++ List.replicate (3 - (lg_sl [.ref (ad 0), .int a1, .int a2]).length) Slot.unset).toArray = ls at hl ⊢
  have hl : lv_has ls 3 [(0, .ref (ad 0)), (1, .int a1), (2, .int a2)] := hl
  clear hfr hargs B
  show W p l e rmX6_load s m args below meth c s.heap [] 0 0 (MQ below (Qiw (dC, dI) 93 ad (layX ad cy) res.1 res.2) args s 0 0 (WA 93 ad)) (F0 m 0 ls [])
  unfold fX6_load at hf
  obtain ⟨H, eH⟩ : ∃ H : Heap, H = s.heap := ⟨_, rfl⟩
  rw [← eH] at hP
  have hS : va_S (WA 93 ad) s.heap H [] := by rw [eH]; exact hS
  suffices K : W p l e rmX6_load s m args below meth c H [] 0 0 (MQ below (Qiw (dC, dI) 93 ad (layX ad cy) res.1 res.2) args s 0 0 (WA 93 ad)) (F0 m 0 ls []) by rw [eH] at K; exact K
  clear eH
  obtain ⟨locs, elocs⟩ : ∃ z : List Loc, z = [] := ⟨_, rfl⟩
  rw [← elocs] at hS ⊢
  refine lv_aload_n hx hb dX6_load_0 rfl (lv_at hl 0 rfl) ?_
  refine xt_get (ci := 6) (C := RX6) (T := TX6) (n := 12) (v := .ref (ad 1)) hx hb hts iX6_load_X6 hown hK hP 0 (by decide) (LX6_obj ad cy _) rfl 5 (by decide) w1 rfl dX6_load_1 ?_
  refine lv_aload_n hx hb dX6_load_4 rfl (lv_at hl 0 rfl) ?_
  refine xt_get (ci := 6) (C := RX6) (T := TX6) (n := 12) (v := .ref (ad 33)) hx hb hts iX6_load_X6 hown hK hP 0 (by decide) (LX6_obj ad cy _) rfl 0 (by decide) w2 rfl dX6_load_5 ?_
  obtain ⟨r1, qr1, hf⟩ := bd_some hf
  refine xt_callVv (As := [.ref (ad 33)]) (rest := []) (C := RX2) (ci := 2) ⟨hx, hb, hml, hown, hts⟩ 1 (mX2_draft l dC dI ad cy hJ 0 (by decide) σ r1 qr1) (cwV 1 hts gX6_load_X2_draft rfl rfl rfl dmX2_draft ⟨Nat.le_of_ble_eq_true rfl, Nat.le_of_ble_eq_true rfl⟩) hK hP hS (by decide) (LX2_obj ad cy _) rfl rfl rfl hl.1 (Nat.le_of_ble_eq_true rfl) ⟨Nat.zero_le _, Nat.zero_le _⟩ dX6_load_8 (fun H locs hP hS => ?_)
  refine lv_aload_n hx hb dX6_load_11 rfl (lv_at hl 0 rfl) ?_
  refine lv_aload_n hx hb dX6_load_12 rfl (lv_at hl 0 rfl) ?_
  refine lv_iload_n hx hb dX6_load_13 rfl (lv_at hl 1 rfl) ?_
  refine lv_iload_n hx hb dX6_load_14 rfl (lv_at hl 2 rfl) ?_
  obtain ⟨r2, qr2, hf⟩ := bd_some hf
  refine xt_callVi (As := [.int a1, .int a2]) (rest := [.ref (ad 0)]) (C := RX6) (ci := 6) ⟨hx, hb, hml, hown, hts⟩ 0 (mX6_setTons l dC dI ad cy hJ r1 a1 a2 r2 qr2) (cwV 2 hts gX6_load_X6_setTons rfl rfl rfl dmX6_setTons ⟨Nat.le_of_ble_eq_true rfl, Nat.le_of_ble_eq_true rfl⟩) hK hP hS (by decide) (LX6_obj ad cy _) rfl rfl rfl hl.1 (Nat.le_of_ble_eq_true rfl) ⟨Nat.zero_le _, Nat.zero_le _⟩ dX6_load_15 (fun H locs hP hS => ?_)
  obtain ⟨r3, qr3, hf⟩ := bd_some hf
  refine xt_callVi (As := [.int r2.1]) (rest := []) (C := RX6) (ci := 6) ⟨hx, hb, hml, hown, hts⟩ 0 (mX6_keepIfDone l dC dI ad cy hJ r2.2 r2.1 r3 qr3) (cwV 1 hts gX6_load_X6_keepIfDone rfl rfl rfl dmX6_keepIfDone ⟨Nat.le_of_ble_eq_true rfl, Nat.le_of_ble_eq_true rfl⟩) hK hP hS (by decide) (LX6_obj ad cy _) rfl rfl rfl hl.1 (Nat.le_of_ble_eq_true rfl) ⟨Nat.zero_le _, Nat.zero_le _⟩ dX6_load_18 (fun H locs hP hS => ?_)
  exact xt_iret hx hb hr hP hS (rs_1 hf) (rs_2 hf) dX6_load_21 hlocks
def fX6_bargeOf (σ : St) (a1 : Int32) (a2 : Int32) : Option Int32 :=
  bd (fX1_hasBarge 0 σ a1) fun r1 => if r1 = 0 then (some (-11 : Int32)) else (if a2 = 0 then (gd (okI a1 24) <| some (σ 36 a1.toNatClampNeg)) else (if a2 = 1 then (gd (okI a1 24) <| some (σ 37 a1.toNatClampNeg)) else (if a2 = 2 then (bd (fX1_pointOf 0 σ a1) fun r8 => some r8) else (if a2 = 3 then (gd (okI a1 24) <| some (σ 9 a1.toNatClampNeg)) else (if a2 = 4 then (gd (okI a1 24) <| some (σ 10 a1.toNatClampNeg)) else (some (-12 : Int32)))))))
abbrev rmX6_bargeOf : Room := { frames := 1, cells := 0, slots := 0, locals := 21 }
theorem dmX6_bargeOf : yX6_bargeOf.cls = RX6 ∧ yX6_bargeOf.cls ≠ "java/lang/invoke/MethodHandle" ∧ yX6_bargeOf.cls ≠ "java/lang/invoke/VarHandle" ∧ (parseMethodDescriptor yX6_bargeOf.desc).map (fun d => d.parameters.length) = some 2 := by decide +kernel
theorem iX6_bargeOf_X1 : ∀ w ∈ wsX10, w ∈ wsX6_bargeOf := fun w h => List.mem_cons_of_mem _ (List.mem_append_left _ (List.mem_append_right _ (h)))
theorem iX6_bargeOf_X4 : ∀ w ∈ wsX40, w ∈ wsX6_bargeOf := fun w h => List.mem_cons_of_mem _ (List.mem_append_right _ (h))
theorem iX6_bargeOf_X6 : ∀ w ∈ wsX60, w ∈ wsX6_bargeOf := fun w h => List.mem_cons_of_mem _ (List.mem_append_left _ (List.mem_append_left _ (List.mem_append_right _ (h))))
set_option maxHeartbeats 8000000 in
set_option maxRecDepth 100000 in
theorem mX6_bargeOf (l : Launch) (dC : Nat → ClassId) (dI : Nat → Nat → Nat) (ad : Nat → Nat) (cy : Nat → ClassId) (hJ : WJ 93 ad) (σ : St) (a1 : Int32) (a2 : Int32) (res : Int32) (hf : fX6_bargeOf σ a1 a2 = some res) : CMi l yX6_bargeOf wsX6_bargeOf rmX6_bargeOf (dC, dI) (tysX cy) 93 ad (layX ad cy) [.ref (ad 0), .int a1, .int a2] σ res σ := by
  refine Met.ofW (cc := cX6_bargeOf) (maxL := 3) (ret := (some .int)) (by decide) rfl ?_
  intro p e s m args below meth c s₁ B hml hv
  obtain ⟨hargs, hP, hK⟩ := hv
  have hx := B.exec
  have hb := B.bytes
  have hr := B.returns
  have hts := atoms_spec (ws := wsX6_bargeOf) B.pre
  have hown : s.vm.findClass RX6 = some m.cls := findClass_of_methodNamed B.named
  have hlocks := B.notSynchronized
  have w1 := hts (.fieldLink RX6 12 "PierRings" "harbour" "LPierRings$Harbour;") (List.mem_of_getElem? (i := 1) rfl)
  have w2 := hts (.fieldLink RX6 144 "PierRings$Harbour" "names" "[I") (List.mem_of_getElem? (i := 2) rfl)
  have w3 := hts (.fieldLink RX6 147 "PierRings$Harbour" "tons" "[I") (List.mem_of_getElem? (i := 3) rfl)
  have w4 := hts (.fieldLink RX6 26 "PierRings" "moorings" "LPierRings$Moorings;") (List.mem_of_getElem? (i := 4) rfl)
  have w5 := hts (.fieldLink RX6 153 "PierRings$Moorings" "liesAt" "[I") (List.mem_of_getElem? (i := 5) rfl)
  have w6 := hts (.fieldLink RX6 156 "PierRings$Moorings" "passed" "[I") (List.mem_of_getElem? (i := 6) rfl)
  have hS : va_S (WA 93 ad) s.heap s.heap [] := va_S.rf
  have hfr : entryFrame m args 3 = F0 m 0 ((lg_sl [.ref (ad 0), .int a1, .int a2] ++ List.replicate (3 - (lg_sl [.ref (ad 0), .int a1, .int a2]).length) Slot.unset).toArray) [] := by rw [hargs]; exact lg_entry_eq _ _ _
  rw [hfr]
  have hl := lv_entry ([.ref (ad 0), .int a1, .int a2]) (n := 3) (Nat.le_of_ble_eq_true rfl)
  generalize (lg_sl [.ref (ad 0), .int a1, .int a2] ++ List.replicate (3 - (lg_sl [.ref (ad 0), .int a1, .int a2]).length) Slot.unset).toArray = ls at hl ⊢
  have hl : lv_has ls 3 [(0, .ref (ad 0)), (1, .int a1), (2, .int a2)] := hl
  clear hfr hargs B
  show W p l e rmX6_bargeOf s m args below meth c s.heap [] 0 0 (MQ below (Qiw (dC, dI) 93 ad (layX ad cy) res σ) args s 0 0 (WA 93 ad)) (F0 m 0 ls [])
  unfold fX6_bargeOf at hf
  obtain ⟨H, eH⟩ : ∃ H : Heap, H = s.heap := ⟨_, rfl⟩
  rw [← eH] at hP
  have hS : va_S (WA 93 ad) s.heap H [] := by rw [eH]; exact hS
  suffices K : W p l e rmX6_bargeOf s m args below meth c H [] 0 0 (MQ below (Qiw (dC, dI) 93 ad (layX ad cy) res σ) args s 0 0 (WA 93 ad)) (F0 m 0 ls []) by rw [eH] at K; exact K
  clear eH
  obtain ⟨locs, elocs⟩ : ∃ z : List Loc, z = [] := ⟨_, rfl⟩
  rw [← elocs] at hS ⊢
  refine lv_aload_n hx hb dX6_bargeOf_0 rfl (lv_at hl 0 rfl) ?_
  refine xt_get (ci := 6) (C := RX6) (T := TX6) (n := 12) (v := .ref (ad 33)) hx hb hts iX6_bargeOf_X6 hown hK hP 0 (by decide) (LX6_obj ad cy _) rfl 0 (by decide) w1 rfl dX6_bargeOf_1 ?_
  refine lv_iload_n hx hb dX6_bargeOf_4 rfl (lv_at hl 1 rfl) ?_
  obtain ⟨r1, qr1, hf⟩ := bd_some hf
  refine xt_callVi (As := [.int a1]) (rest := []) (C := RX1) (ci := 1) ⟨hx, hb, hml, hown, hts⟩ 33 (mX1_hasBarge l dC dI ad cy hJ 0 (by decide) σ a1 r1 qr1) (cwV 1 hts gX6_bargeOf_X1_hasBarge rfl rfl rfl dmX1_hasBarge ⟨Nat.le_of_ble_eq_true rfl, Nat.le_of_ble_eq_true rfl⟩) hK hP hS (by decide) (LX1_obj ad cy 0 (by decide) _) rfl rfl rfl hl.1 (Nat.le_of_ble_eq_true rfl) ⟨Nat.zero_le _, Nat.zero_le _⟩ dX6_bargeOf_5 (fun H locs hP hS => ?_)
  refine lv_if_ne (tgt := 14) hx hb dX6_bargeOf_8 (by decide) (fun c2 => ?_) (fun c2 => ?_)
  · have hf := (if_neg c2).symm.trans hf
    refine lv_iload_n hx hb dX6_bargeOf_14 rfl (lv_at hl 2 rfl) ?_
    by_cases c3 : a2 = 0
    · have hf := (if_pos c3).symm.trans hf
      refine lv_tableIn (tgt := 48) (off := 33) hx hb dX6_bargeOf_15 (by rw [c3]; decide) (by rw [c3]; decide) (by rw [c3]; rfl) (by decide) ?_
      refine lv_aload_n hx hb dX6_bargeOf_48 rfl (lv_at hl 0 rfl) ?_
      refine xt_get (ci := 6) (C := RX6) (T := TX6) (n := 12) (v := .ref (ad 33)) hx hb hts iX6_bargeOf_X6 hown hK hP 0 (by decide) (LX6_obj ad cy _) rfl 0 (by decide) w1 rfl dX6_bargeOf_49 ?_
      refine xt_get (ci := 1) (C := RX1) (T := TX1) (n := 8) (v := .ref (ad 36)) hx hb hts iX6_bargeOf_X1 hown hK hP 33 (by decide) (LX1_obj ad cy 0 (by decide) _) rfl 2 (by decide) w2 rfl dX6_bargeOf_52 ?_
      refine lv_iload_n hx hb dX6_bargeOf_55 rfl (lv_at hl 1 rfl) ?_
      obtain ⟨g4, hf⟩ := gd_some hf
      refine xt_iald hx hb hK hP 36 (by decide) 0 (LX1_names ad cy 0 (by decide) _) rfl g4 dX6_bargeOf_56 ?_
      exact xt_iret hx hb hr hP hS (Option.some.inj hf) rfl dX6_bargeOf_57 hlocks
    · have hf := (if_neg c3).symm.trans hf
      by_cases c5 : a2 = 1
      · have hf := (if_pos c5).symm.trans hf
        refine lv_tableIn (tgt := 58) (off := 43) hx hb dX6_bargeOf_15 (by rw [c5]; decide) (by rw [c5]; decide) (by rw [c5]; rfl) (by decide) ?_
        refine lv_aload_n hx hb dX6_bargeOf_58 rfl (lv_at hl 0 rfl) ?_
        refine xt_get (ci := 6) (C := RX6) (T := TX6) (n := 12) (v := .ref (ad 33)) hx hb hts iX6_bargeOf_X6 hown hK hP 0 (by decide) (LX6_obj ad cy _) rfl 0 (by decide) w1 rfl dX6_bargeOf_59 ?_
        refine xt_get (ci := 1) (C := RX1) (T := TX1) (n := 8) (v := .ref (ad 37)) hx hb hts iX6_bargeOf_X1 hown hK hP 33 (by decide) (LX1_obj ad cy 0 (by decide) _) rfl 3 (by decide) w3 rfl dX6_bargeOf_62 ?_
        refine lv_iload_n hx hb dX6_bargeOf_65 rfl (lv_at hl 1 rfl) ?_
        obtain ⟨g6, hf⟩ := gd_some hf
        refine xt_iald hx hb hK hP 37 (by decide) 0 (LX1_tons ad cy 0 (by decide) _) rfl g6 dX6_bargeOf_66 ?_
        exact xt_iret hx hb hr hP hS (Option.some.inj hf) rfl dX6_bargeOf_67 hlocks
      · have hf := (if_neg c5).symm.trans hf
        by_cases c7 : a2 = 2
        · have hf := (if_pos c7).symm.trans hf
          refine lv_tableIn (tgt := 68) (off := 53) hx hb dX6_bargeOf_15 (by rw [c7]; decide) (by rw [c7]; decide) (by rw [c7]; rfl) (by decide) ?_
          refine lv_aload_n hx hb dX6_bargeOf_68 rfl (lv_at hl 0 rfl) ?_
          refine xt_get (ci := 6) (C := RX6) (T := TX6) (n := 12) (v := .ref (ad 33)) hx hb hts iX6_bargeOf_X6 hown hK hP 0 (by decide) (LX6_obj ad cy _) rfl 0 (by decide) w1 rfl dX6_bargeOf_69 ?_
          refine lv_iload_n hx hb dX6_bargeOf_72 rfl (lv_at hl 1 rfl) ?_
          obtain ⟨r8, qr8, hf⟩ := bd_some hf
          refine xt_callVi (As := [.int a1]) (rest := []) (C := RX1) (ci := 1) ⟨hx, hb, hml, hown, hts⟩ 33 (mX1_pointOf l dC dI ad cy hJ 0 (by decide) σ a1 r8 qr8) (cwV 1 hts gX6_bargeOf_X1_pointOf rfl rfl rfl dmX1_pointOf ⟨Nat.le_of_ble_eq_true rfl, Nat.le_of_ble_eq_true rfl⟩) hK hP hS (by decide) (LX1_obj ad cy 0 (by decide) _) rfl rfl rfl hl.1 (Nat.le_of_ble_eq_true rfl) ⟨Nat.zero_le _, Nat.zero_le _⟩ dX6_bargeOf_73 (fun H locs hP hS => ?_)
          exact xt_iret hx hb hr hP hS (Option.some.inj hf) rfl dX6_bargeOf_76 hlocks
        · have hf := (if_neg c7).symm.trans hf
          by_cases c9 : a2 = 3
          · have hf := (if_pos c9).symm.trans hf
            refine lv_tableIn (tgt := 77) (off := 62) hx hb dX6_bargeOf_15 (by rw [c9]; decide) (by rw [c9]; decide) (by rw [c9]; rfl) (by decide) ?_
            refine lv_aload_n hx hb dX6_bargeOf_77 rfl (lv_at hl 0 rfl) ?_
            refine xt_get (ci := 6) (C := RX6) (T := TX6) (n := 12) (v := .ref (ad 7)) hx hb hts iX6_bargeOf_X6 hown hK hP 0 (by decide) (LX6_obj ad cy _) rfl 2 (by decide) w4 rfl dX6_bargeOf_78 ?_
            refine xt_get (ci := 4) (C := RX4) (T := TX4) (n := 9) (v := .ref (ad 9)) hx hb hts iX6_bargeOf_X4 hown hK hP 7 (by decide) (LX4_obj ad cy _) rfl 1 (by decide) w5 rfl dX6_bargeOf_81 ?_
            refine lv_iload_n hx hb dX6_bargeOf_84 rfl (lv_at hl 1 rfl) ?_
            obtain ⟨g10, hf⟩ := gd_some hf
            refine xt_iald hx hb hK hP 9 (by decide) 0 (LX4_liesAt ad cy _) rfl g10 dX6_bargeOf_85 ?_
            exact xt_iret hx hb hr hP hS (Option.some.inj hf) rfl dX6_bargeOf_86 hlocks
          · have hf := (if_neg c9).symm.trans hf
            by_cases c11 : a2 = 4
            · have hf := (if_pos c11).symm.trans hf
              refine lv_tableIn (tgt := 87) (off := 72) hx hb dX6_bargeOf_15 (by rw [c11]; decide) (by rw [c11]; decide) (by rw [c11]; rfl) (by decide) ?_
              refine lv_aload_n hx hb dX6_bargeOf_87 rfl (lv_at hl 0 rfl) ?_
              refine xt_get (ci := 6) (C := RX6) (T := TX6) (n := 12) (v := .ref (ad 7)) hx hb hts iX6_bargeOf_X6 hown hK hP 0 (by decide) (LX6_obj ad cy _) rfl 2 (by decide) w4 rfl dX6_bargeOf_88 ?_
              refine xt_get (ci := 4) (C := RX4) (T := TX4) (n := 9) (v := .ref (ad 10)) hx hb hts iX6_bargeOf_X4 hown hK hP 7 (by decide) (LX4_obj ad cy _) rfl 2 (by decide) w6 rfl dX6_bargeOf_91 ?_
              refine lv_iload_n hx hb dX6_bargeOf_94 rfl (lv_at hl 1 rfl) ?_
              obtain ⟨g12, hf⟩ := gd_some hf
              refine xt_iald hx hb hK hP 10 (by decide) 0 (LX4_passed ad cy _) rfl g12 dX6_bargeOf_95 ?_
              exact xt_iret hx hb hr hP hS (Option.some.inj hf) rfl dX6_bargeOf_96 hlocks
            · have hf := (if_neg c11).symm.trans hf
              refine lv_tableOut (tgt := 97) hx hb dX6_bargeOf_15 (by have ic3 : ¬ Int32.toInt a2 = 0 := lv_neT c3 (by decide); have ic5 : ¬ Int32.toInt a2 = 1 := lv_neT c5 (by decide); have ic7 : ¬ Int32.toInt a2 = 2 := lv_neT c7 (by decide); have ic9 : ¬ Int32.toInt a2 = 3 := lv_neT c9 (by decide); have ic11 : ¬ Int32.toInt a2 = 4 := lv_neT c11 (by decide); omega) (by decide) ?_
              refine lv_bipush (v := (-12)) hx hb dX6_bargeOf_97 (by decide) ?_
              exact xt_iret hx hb hr hP hS (Option.some.inj hf) rfl dX6_bargeOf_99 hlocks
  · have hf := (if_pos c2).symm.trans hf
    refine lv_bipush (v := (-11)) hx hb dX6_bargeOf_11 (by decide) ?_
    exact xt_iret hx hb hr hP hS (Option.some.inj hf) rfl dX6_bargeOf_13 hlocks
def fX6_home (σ : St) (a1 : Int32) : Option Int32 :=
  bd (fX1_hasBarge 0 σ a1) fun r1 => if r1 = 0 then (some (-11 : Int32)) else (bd (fX1_pointOf 0 σ a1) fun r3 => bd (fX0_homeByTree 0 σ r3) fun r4 => some r4)
abbrev rmX6_home : Room := { frames := 2, cells := 0, slots := 0, locals := 46 }
theorem dmX6_home : yX6_home.cls = RX6 ∧ yX6_home.cls ≠ "java/lang/invoke/MethodHandle" ∧ yX6_home.cls ≠ "java/lang/invoke/VarHandle" ∧ (parseMethodDescriptor yX6_home.desc).map (fun d => d.parameters.length) = some 1 := by decide +kernel
theorem iX6_home_X6 : ∀ w ∈ wsX60, w ∈ wsX6_home := fun w h => List.mem_cons_of_mem _ (List.mem_append_left _ (List.mem_append_left _ (List.mem_append_right _ (h))))
set_option maxHeartbeats 8000000 in
set_option maxRecDepth 100000 in
theorem mX6_home (l : Launch) (dC : Nat → ClassId) (dI : Nat → Nat → Nat) (ad : Nat → Nat) (cy : Nat → ClassId) (hJ : WJ 93 ad) (σ : St) (a1 : Int32) (res : Int32) (hf : fX6_home σ a1 = some res) : CMi l yX6_home wsX6_home rmX6_home (dC, dI) (tysX cy) 93 ad (layX ad cy) [.ref (ad 0), .int a1] σ res σ := by
  refine Met.ofW (cc := cX6_home) (maxL := 2) (ret := (some .int)) (by decide) rfl ?_
  intro p e s m args below meth c s₁ B hml hv
  obtain ⟨hargs, hP, hK⟩ := hv
  have hx := B.exec
  have hb := B.bytes
  have hr := B.returns
  have hts := atoms_spec (ws := wsX6_home) B.pre
  have hown : s.vm.findClass RX6 = some m.cls := findClass_of_methodNamed B.named
  have hlocks := B.notSynchronized
  have w1 := hts (.fieldLink RX6 12 "PierRings" "harbour" "LPierRings$Harbour;") (List.mem_of_getElem? (i := 1) rfl)
  have w2 := hts (.fieldLink RX6 19 "PierRings" "circle" "LPierRings$Circle;") (List.mem_of_getElem? (i := 2) rfl)
  have hS : va_S (WA 93 ad) s.heap s.heap [] := va_S.rf
  have hfr : entryFrame m args 2 = F0 m 0 ((lg_sl [.ref (ad 0), .int a1] ++ List.replicate (2 - (lg_sl [.ref (ad 0), .int a1]).length) Slot.unset).toArray) [] := by rw [hargs]; exact lg_entry_eq _ _ _
  rw [hfr]
  have hl := lv_entry ([.ref (ad 0), .int a1]) (n := 2) (Nat.le_of_ble_eq_true rfl)
  generalize (lg_sl [.ref (ad 0), .int a1] ++ List.replicate (2 - (lg_sl [.ref (ad 0), .int a1]).length) Slot.unset).toArray = ls at hl ⊢
  have hl : lv_has ls 2 [(0, .ref (ad 0)), (1, .int a1)] := hl
  clear hfr hargs B
  show W p l e rmX6_home s m args below meth c s.heap [] 0 0 (MQ below (Qiw (dC, dI) 93 ad (layX ad cy) res σ) args s 0 0 (WA 93 ad)) (F0 m 0 ls [])
  unfold fX6_home at hf
  obtain ⟨H, eH⟩ : ∃ H : Heap, H = s.heap := ⟨_, rfl⟩
  rw [← eH] at hP
  have hS : va_S (WA 93 ad) s.heap H [] := by rw [eH]; exact hS
  suffices K : W p l e rmX6_home s m args below meth c H [] 0 0 (MQ below (Qiw (dC, dI) 93 ad (layX ad cy) res σ) args s 0 0 (WA 93 ad)) (F0 m 0 ls []) by rw [eH] at K; exact K
  clear eH
  obtain ⟨locs, elocs⟩ : ∃ z : List Loc, z = [] := ⟨_, rfl⟩
  rw [← elocs] at hS ⊢
  refine lv_aload_n hx hb dX6_home_0 rfl (lv_at hl 0 rfl) ?_
  refine xt_get (ci := 6) (C := RX6) (T := TX6) (n := 12) (v := .ref (ad 33)) hx hb hts iX6_home_X6 hown hK hP 0 (by decide) (LX6_obj ad cy _) rfl 0 (by decide) w1 rfl dX6_home_1 ?_
  refine lv_iload_n hx hb dX6_home_4 rfl (lv_at hl 1 rfl) ?_
  obtain ⟨r1, qr1, hf⟩ := bd_some hf
  refine xt_callVi (As := [.int a1]) (rest := []) (C := RX1) (ci := 1) ⟨hx, hb, hml, hown, hts⟩ 33 (mX1_hasBarge l dC dI ad cy hJ 0 (by decide) σ a1 r1 qr1) (cwV 1 hts gX6_home_X1_hasBarge rfl rfl rfl dmX1_hasBarge ⟨Nat.le_of_ble_eq_true rfl, Nat.le_of_ble_eq_true rfl⟩) hK hP hS (by decide) (LX1_obj ad cy 0 (by decide) _) rfl rfl rfl hl.1 (Nat.le_of_ble_eq_true rfl) ⟨Nat.zero_le _, Nat.zero_le _⟩ dX6_home_5 (fun H locs hP hS => ?_)
  refine lv_if_eq (tgt := 29) hx hb dX6_home_8 (by decide) (fun c2 => ?_) (fun c2 => ?_)
  · have hf := (if_pos c2).symm.trans hf
    refine lv_bipush (v := (-11)) hx hb dX6_home_29 (by decide) ?_
    exact xt_iret hx hb hr hP hS (Option.some.inj hf) rfl dX6_home_31 hlocks
  · have hf := (if_neg c2).symm.trans hf
    refine lv_aload_n hx hb dX6_home_11 rfl (lv_at hl 0 rfl) ?_
    refine xt_get (ci := 6) (C := RX6) (T := TX6) (n := 12) (v := .ref (ad 15)) hx hb hts iX6_home_X6 hown hK hP 0 (by decide) (LX6_obj ad cy _) rfl 1 (by decide) w2 rfl dX6_home_12 ?_
    refine lv_aload_n hx hb dX6_home_15 rfl (lv_at hl 0 rfl) ?_
    refine xt_get (ci := 6) (C := RX6) (T := TX6) (n := 12) (v := .ref (ad 33)) hx hb hts iX6_home_X6 hown hK hP 0 (by decide) (LX6_obj ad cy _) rfl 0 (by decide) w1 rfl dX6_home_16 ?_
    refine lv_iload_n hx hb dX6_home_19 rfl (lv_at hl 1 rfl) ?_
    obtain ⟨r3, qr3, hf⟩ := bd_some hf
    refine xt_callVi (As := [.int a1]) (rest := [.ref (ad 15)]) (C := RX1) (ci := 1) ⟨hx, hb, hml, hown, hts⟩ 33 (mX1_pointOf l dC dI ad cy hJ 0 (by decide) σ a1 r3 qr3) (cwV 1 hts gX6_home_X1_pointOf rfl rfl rfl dmX1_pointOf ⟨Nat.le_of_ble_eq_true rfl, Nat.le_of_ble_eq_true rfl⟩) hK hP hS (by decide) (LX1_obj ad cy 0 (by decide) _) rfl rfl rfl hl.1 (Nat.le_of_ble_eq_true rfl) ⟨Nat.zero_le _, Nat.zero_le _⟩ dX6_home_20 (fun H locs hP hS => ?_)
    obtain ⟨r4, qr4, hf⟩ := bd_some hf
    refine xt_callVi (As := [.int r3]) (rest := []) (C := RX0) (ci := 0) ⟨hx, hb, hml, hown, hts⟩ 15 (mX0_homeByTree l dC dI ad cy hJ 0 (by decide) σ r3 r4 qr4) (cwV 1 hts gX6_home_X0_homeByTree rfl rfl rfl dmX0_homeByTree ⟨Nat.le_of_ble_eq_true rfl, Nat.le_of_ble_eq_true rfl⟩) hK hP hS (by decide) (LX0_obj ad cy 0 (by decide) _) rfl rfl rfl hl.1 (Nat.le_of_ble_eq_true rfl) ⟨Nat.zero_le _, Nat.zero_le _⟩ dX6_home_23 (fun H locs hP hS => ?_)
    refine lv_goto (tgt := 31) hx hb dX6_home_26 (by decide) ?_
    exact xt_iret hx hb hr hP hS (Option.some.inj hf) rfl dX6_home_31 hlocks
def fX6_homeAgain (σ : St) (a1 : Int32) : Option Int32 :=
  bd (fX1_hasBarge 0 σ a1) fun r1 => if r1 = 0 then (some (-11 : Int32)) else (bd (fX1_pointOf 0 σ a1) fun r3 => bd (fX0_homeAlong 0 σ r3) fun r4 => some r4)
abbrev rmX6_homeAgain : Room := { frames := 1, cells := 0, slots := 0, locals := 23 }
theorem dmX6_homeAgain : yX6_homeAgain.cls = RX6 ∧ yX6_homeAgain.cls ≠ "java/lang/invoke/MethodHandle" ∧ yX6_homeAgain.cls ≠ "java/lang/invoke/VarHandle" ∧ (parseMethodDescriptor yX6_homeAgain.desc).map (fun d => d.parameters.length) = some 1 := by decide +kernel
theorem iX6_homeAgain_X6 : ∀ w ∈ wsX60, w ∈ wsX6_homeAgain := fun w h => List.mem_cons_of_mem _ (List.mem_append_left _ (List.mem_append_left _ (List.mem_append_right _ (h))))
set_option maxHeartbeats 8000000 in
set_option maxRecDepth 100000 in
theorem mX6_homeAgain (l : Launch) (dC : Nat → ClassId) (dI : Nat → Nat → Nat) (ad : Nat → Nat) (cy : Nat → ClassId) (hJ : WJ 93 ad) (σ : St) (a1 : Int32) (res : Int32) (hf : fX6_homeAgain σ a1 = some res) : CMi l yX6_homeAgain wsX6_homeAgain rmX6_homeAgain (dC, dI) (tysX cy) 93 ad (layX ad cy) [.ref (ad 0), .int a1] σ res σ := by
  refine Met.ofW (cc := cX6_homeAgain) (maxL := 2) (ret := (some .int)) (by decide) rfl ?_
  intro p e s m args below meth c s₁ B hml hv
  obtain ⟨hargs, hP, hK⟩ := hv
  have hx := B.exec
  have hb := B.bytes
  have hr := B.returns
  have hts := atoms_spec (ws := wsX6_homeAgain) B.pre
  have hown : s.vm.findClass RX6 = some m.cls := findClass_of_methodNamed B.named
  have hlocks := B.notSynchronized
  have w1 := hts (.fieldLink RX6 12 "PierRings" "harbour" "LPierRings$Harbour;") (List.mem_of_getElem? (i := 1) rfl)
  have w2 := hts (.fieldLink RX6 19 "PierRings" "circle" "LPierRings$Circle;") (List.mem_of_getElem? (i := 2) rfl)
  have hS : va_S (WA 93 ad) s.heap s.heap [] := va_S.rf
  have hfr : entryFrame m args 2 = F0 m 0 ((lg_sl [.ref (ad 0), .int a1] ++ List.replicate (2 - (lg_sl [.ref (ad 0), .int a1]).length) Slot.unset).toArray) [] := by rw [hargs]; exact lg_entry_eq _ _ _
  rw [hfr]
  have hl := lv_entry ([.ref (ad 0), .int a1]) (n := 2) (Nat.le_of_ble_eq_true rfl)
  generalize (lg_sl [.ref (ad 0), .int a1] ++ List.replicate (2 - (lg_sl [.ref (ad 0), .int a1]).length) Slot.unset).toArray = ls at hl ⊢
  have hl : lv_has ls 2 [(0, .ref (ad 0)), (1, .int a1)] := hl
  clear hfr hargs B
  show W p l e rmX6_homeAgain s m args below meth c s.heap [] 0 0 (MQ below (Qiw (dC, dI) 93 ad (layX ad cy) res σ) args s 0 0 (WA 93 ad)) (F0 m 0 ls [])
  unfold fX6_homeAgain at hf
  obtain ⟨H, eH⟩ : ∃ H : Heap, H = s.heap := ⟨_, rfl⟩
  rw [← eH] at hP
  have hS : va_S (WA 93 ad) s.heap H [] := by rw [eH]; exact hS
  suffices K : W p l e rmX6_homeAgain s m args below meth c H [] 0 0 (MQ below (Qiw (dC, dI) 93 ad (layX ad cy) res σ) args s 0 0 (WA 93 ad)) (F0 m 0 ls []) by rw [eH] at K; exact K
  clear eH
  obtain ⟨locs, elocs⟩ : ∃ z : List Loc, z = [] := ⟨_, rfl⟩
  rw [← elocs] at hS ⊢
  refine lv_aload_n hx hb dX6_homeAgain_0 rfl (lv_at hl 0 rfl) ?_
  refine xt_get (ci := 6) (C := RX6) (T := TX6) (n := 12) (v := .ref (ad 33)) hx hb hts iX6_homeAgain_X6 hown hK hP 0 (by decide) (LX6_obj ad cy _) rfl 0 (by decide) w1 rfl dX6_homeAgain_1 ?_
  refine lv_iload_n hx hb dX6_homeAgain_4 rfl (lv_at hl 1 rfl) ?_
  obtain ⟨r1, qr1, hf⟩ := bd_some hf
  refine xt_callVi (As := [.int a1]) (rest := []) (C := RX1) (ci := 1) ⟨hx, hb, hml, hown, hts⟩ 33 (mX1_hasBarge l dC dI ad cy hJ 0 (by decide) σ a1 r1 qr1) (cwV 1 hts gX6_homeAgain_X1_hasBarge rfl rfl rfl dmX1_hasBarge ⟨Nat.le_of_ble_eq_true rfl, Nat.le_of_ble_eq_true rfl⟩) hK hP hS (by decide) (LX1_obj ad cy 0 (by decide) _) rfl rfl rfl hl.1 (Nat.le_of_ble_eq_true rfl) ⟨Nat.zero_le _, Nat.zero_le _⟩ dX6_homeAgain_5 (fun H locs hP hS => ?_)
  refine lv_if_eq (tgt := 29) hx hb dX6_homeAgain_8 (by decide) (fun c2 => ?_) (fun c2 => ?_)
  · have hf := (if_pos c2).symm.trans hf
    refine lv_bipush (v := (-11)) hx hb dX6_homeAgain_29 (by decide) ?_
    exact xt_iret hx hb hr hP hS (Option.some.inj hf) rfl dX6_homeAgain_31 hlocks
  · have hf := (if_neg c2).symm.trans hf
    refine lv_aload_n hx hb dX6_homeAgain_11 rfl (lv_at hl 0 rfl) ?_
    refine xt_get (ci := 6) (C := RX6) (T := TX6) (n := 12) (v := .ref (ad 15)) hx hb hts iX6_homeAgain_X6 hown hK hP 0 (by decide) (LX6_obj ad cy _) rfl 1 (by decide) w2 rfl dX6_homeAgain_12 ?_
    refine lv_aload_n hx hb dX6_homeAgain_15 rfl (lv_at hl 0 rfl) ?_
    refine xt_get (ci := 6) (C := RX6) (T := TX6) (n := 12) (v := .ref (ad 33)) hx hb hts iX6_homeAgain_X6 hown hK hP 0 (by decide) (LX6_obj ad cy _) rfl 0 (by decide) w1 rfl dX6_homeAgain_16 ?_
    refine lv_iload_n hx hb dX6_homeAgain_19 rfl (lv_at hl 1 rfl) ?_
    obtain ⟨r3, qr3, hf⟩ := bd_some hf
    refine xt_callVi (As := [.int a1]) (rest := [.ref (ad 15)]) (C := RX1) (ci := 1) ⟨hx, hb, hml, hown, hts⟩ 33 (mX1_pointOf l dC dI ad cy hJ 0 (by decide) σ a1 r3 qr3) (cwV 1 hts gX6_homeAgain_X1_pointOf rfl rfl rfl dmX1_pointOf ⟨Nat.le_of_ble_eq_true rfl, Nat.le_of_ble_eq_true rfl⟩) hK hP hS (by decide) (LX1_obj ad cy 0 (by decide) _) rfl rfl rfl hl.1 (Nat.le_of_ble_eq_true rfl) ⟨Nat.zero_le _, Nat.zero_le _⟩ dX6_homeAgain_20 (fun H locs hP hS => ?_)
    obtain ⟨r4, qr4, hf⟩ := bd_some hf
    refine xt_callVi (As := [.int r3]) (rest := []) (C := RX0) (ci := 0) ⟨hx, hb, hml, hown, hts⟩ 15 (mX0_homeAlong l dC dI ad cy hJ 0 (by decide) σ r3 r4 qr4) (cwV 1 hts gX6_homeAgain_X0_homeAlong rfl rfl rfl dmX0_homeAlong ⟨Nat.le_of_ble_eq_true rfl, Nat.le_of_ble_eq_true rfl⟩) hK hP hS (by decide) (LX0_obj ad cy 0 (by decide) _) rfl rfl rfl hl.1 (Nat.le_of_ble_eq_true rfl) ⟨Nat.zero_le _, Nat.zero_le _⟩ dX6_homeAgain_23 (fun H locs hP hS => ?_)
    refine lv_goto (tgt := 31) hx hb dX6_homeAgain_26 (by decide) ?_
    exact xt_iret hx hb hr hP hS (Option.some.inj hf) rfl dX6_homeAgain_31 hlocks
def fX6_homeOf (σ : St) (a1 : Int32) : Option Int32 :=
  if a1 < 0 then (some (-11 : Int32)) else (if (360 : Int32) ≤ a1 then (some (-11 : Int32)) else (bd (fX0_homeByTree 0 σ a1) fun r3 => some r3))
abbrev rmX6_homeOf : Room := { frames := 2, cells := 0, slots := 0, locals := 46 }
theorem dmX6_homeOf : yX6_homeOf.cls = RX6 ∧ yX6_homeOf.cls ≠ "java/lang/invoke/MethodHandle" ∧ yX6_homeOf.cls ≠ "java/lang/invoke/VarHandle" ∧ (parseMethodDescriptor yX6_homeOf.desc).map (fun d => d.parameters.length) = some 1 := by decide +kernel
theorem iX6_homeOf_X6 : ∀ w ∈ wsX60, w ∈ wsX6_homeOf := fun w h => List.mem_cons_of_mem _ (List.mem_append_left _ (List.mem_append_right _ (h)))
set_option maxHeartbeats 8000000 in
set_option maxRecDepth 100000 in
theorem mX6_homeOf (l : Launch) (dC : Nat → ClassId) (dI : Nat → Nat → Nat) (ad : Nat → Nat) (cy : Nat → ClassId) (hJ : WJ 93 ad) (σ : St) (a1 : Int32) (res : Int32) (hf : fX6_homeOf σ a1 = some res) : CMi l yX6_homeOf wsX6_homeOf rmX6_homeOf (dC, dI) (tysX cy) 93 ad (layX ad cy) [.ref (ad 0), .int a1] σ res σ := by
  refine Met.ofW (cc := cX6_homeOf) (maxL := 2) (ret := (some .int)) (by decide) rfl ?_
  intro p e s m args below meth c s₁ B hml hv
  obtain ⟨hargs, hP, hK⟩ := hv
  have hx := B.exec
  have hb := B.bytes
  have hr := B.returns
  have hts := atoms_spec (ws := wsX6_homeOf) B.pre
  have hown : s.vm.findClass RX6 = some m.cls := findClass_of_methodNamed B.named
  have hlocks := B.notSynchronized
  have w1 := hts (.fieldLink RX6 19 "PierRings" "circle" "LPierRings$Circle;") (List.mem_of_getElem? (i := 1) rfl)
  have hS : va_S (WA 93 ad) s.heap s.heap [] := va_S.rf
  have hfr : entryFrame m args 2 = F0 m 0 ((lg_sl [.ref (ad 0), .int a1] ++ List.replicate (2 - (lg_sl [.ref (ad 0), .int a1]).length) Slot.unset).toArray) [] := by rw [hargs]; exact lg_entry_eq _ _ _
  rw [hfr]
  have hl := lv_entry ([.ref (ad 0), .int a1]) (n := 2) (Nat.le_of_ble_eq_true rfl)
  generalize (lg_sl [.ref (ad 0), .int a1] ++ List.replicate (2 - (lg_sl [.ref (ad 0), .int a1]).length) Slot.unset).toArray = ls at hl ⊢
  have hl : lv_has ls 2 [(0, .ref (ad 0)), (1, .int a1)] := hl
  clear hfr hargs B
  show W p l e rmX6_homeOf s m args below meth c s.heap [] 0 0 (MQ below (Qiw (dC, dI) 93 ad (layX ad cy) res σ) args s 0 0 (WA 93 ad)) (F0 m 0 ls [])
  unfold fX6_homeOf at hf
  obtain ⟨H, eH⟩ : ∃ H : Heap, H = s.heap := ⟨_, rfl⟩
  rw [← eH] at hP
  have hS : va_S (WA 93 ad) s.heap H [] := by rw [eH]; exact hS
  suffices K : W p l e rmX6_homeOf s m args below meth c H [] 0 0 (MQ below (Qiw (dC, dI) 93 ad (layX ad cy) res σ) args s 0 0 (WA 93 ad)) (F0 m 0 ls []) by rw [eH] at K; exact K
  clear eH
  obtain ⟨locs, elocs⟩ : ∃ z : List Loc, z = [] := ⟨_, rfl⟩
  rw [← elocs] at hS ⊢
  refine lv_iload_n hx hb dX6_homeOf_0 rfl (lv_at hl 1 rfl) ?_
  refine lv_if_lt (tgt := 22) hx hb dX6_homeOf_1 (by decide) (fun c1 => ?_) (fun c1 => ?_)
  · have hf := (if_pos c1).symm.trans hf
    refine lv_bipush (v := (-11)) hx hb dX6_homeOf_22 (by decide) ?_
    exact xt_iret hx hb hr hP hS (Option.some.inj hf) rfl dX6_homeOf_24 hlocks
  · have hf := (if_neg c1).symm.trans hf
    refine lv_iload_n hx hb dX6_homeOf_4 rfl (lv_at hl 1 rfl) ?_
    refine lv_sipush (v := 360) hx hb dX6_homeOf_5 (by decide) ?_
    refine lv_icmp_ge (tgt := 22) hx hb dX6_homeOf_8 (by decide) (fun c2 => ?_) (fun c2 => ?_)
    · have hf := (if_pos c2).symm.trans hf
      refine lv_bipush (v := (-11)) hx hb dX6_homeOf_22 (by decide) ?_
      exact xt_iret hx hb hr hP hS (Option.some.inj hf) rfl dX6_homeOf_24 hlocks
    · have hf := (if_neg c2).symm.trans hf
      refine lv_aload_n hx hb dX6_homeOf_11 rfl (lv_at hl 0 rfl) ?_
      refine xt_get (ci := 6) (C := RX6) (T := TX6) (n := 12) (v := .ref (ad 15)) hx hb hts iX6_homeOf_X6 hown hK hP 0 (by decide) (LX6_obj ad cy _) rfl 1 (by decide) w1 rfl dX6_homeOf_12 ?_
      refine lv_iload_n hx hb dX6_homeOf_15 rfl (lv_at hl 1 rfl) ?_
      obtain ⟨r3, qr3, hf⟩ := bd_some hf
      refine xt_callVi (As := [.int a1]) (rest := []) (C := RX0) (ci := 0) ⟨hx, hb, hml, hown, hts⟩ 15 (mX0_homeByTree l dC dI ad cy hJ 0 (by decide) σ a1 r3 qr3) (cwV 1 hts gX6_homeOf_X0_homeByTree rfl rfl rfl dmX0_homeByTree ⟨Nat.le_of_ble_eq_true rfl, Nat.le_of_ble_eq_true rfl⟩) hK hP hS (by decide) (LX0_obj ad cy 0 (by decide) _) rfl rfl rfl hl.1 (Nat.le_of_ble_eq_true rfl) ⟨Nat.zero_le _, Nat.zero_le _⟩ dX6_homeOf_16 (fun H locs hP hS => ?_)
      refine lv_goto (tgt := 24) hx hb dX6_homeOf_19 (by decide) ?_
      exact xt_iret hx hb hr hP hS (Option.some.inj hf) rfl dX6_homeOf_24 hlocks
def fX6_ring (σ : St) (a1 : Int32) (a2 : Int32) : Option Int32 :=
  if a1 < 0 then (some (-11 : Int32)) else (if a1 < (σ 15 5) then (gd (okI a1 80) <| nm (σ 16 a1.toNatClampNeg) fun v4 => if a2 = 0 then (gd (okI v4 80) <| some (σ 17 v4.toNatClampNeg)) else (if a2 = 1 then (gd (okI v4 80) <| some (σ 18 v4.toNatClampNeg)) else (if a2 = 2 then (gd (okI v4 80) <| some (σ 19 v4.toNatClampNeg)) else (if a2 = 3 then (gd (okI v4 80) <| some (σ 20 v4.toNatClampNeg)) else (some (-12 : Int32)))))) else (some (-11 : Int32)))
abbrev rmX6_ring : Room := { frames := 0, cells := 0, slots := 0, locals := 0 }
theorem dmX6_ring : yX6_ring.cls = RX6 ∧ yX6_ring.cls ≠ "java/lang/invoke/MethodHandle" ∧ yX6_ring.cls ≠ "java/lang/invoke/VarHandle" ∧ (parseMethodDescriptor yX6_ring.desc).map (fun d => d.parameters.length) = some 2 := by decide +kernel
theorem iX6_ring_X0 : ∀ w ∈ wsX00, w ∈ wsX6_ring := fun w h => List.mem_cons_of_mem _ (List.mem_append_right _ (h))
theorem iX6_ring_X6 : ∀ w ∈ wsX60, w ∈ wsX6_ring := fun w h => List.mem_cons_of_mem _ (List.mem_append_left _ (List.mem_append_right _ (h)))
set_option maxHeartbeats 8000000 in
set_option maxRecDepth 100000 in
theorem mX6_ring (l : Launch) (dC : Nat → ClassId) (dI : Nat → Nat → Nat) (ad : Nat → Nat) (cy : Nat → ClassId) (hJ : WJ 93 ad) (σ : St) (a1 : Int32) (a2 : Int32) (res : Int32) (hf : fX6_ring σ a1 a2 = some res) : CMi l yX6_ring wsX6_ring rmX6_ring (dC, dI) (tysX cy) 93 ad (layX ad cy) [.ref (ad 0), .int a1, .int a2] σ res σ := by
  refine Met.ofW (cc := cX6_ring) (maxL := 4) (ret := (some .int)) (by decide) rfl ?_
  intro p e s m args below meth c s₁ B hml hv
  obtain ⟨hargs, hP, hK⟩ := hv
  have hx := B.exec
  have hb := B.bytes
  have hr := B.returns
  have hts := atoms_spec (ws := wsX6_ring) B.pre
  have hown : s.vm.findClass RX6 = some m.cls := findClass_of_methodNamed B.named
  have hlocks := B.notSynchronized
  have w1 := hts (.fieldLink RX6 19 "PierRings" "circle" "LPierRings$Circle;") (List.mem_of_getElem? (i := 1) rfl)
  have w2 := hts (.fieldLink RX6 165 "PierRings$Circle" "count" "I") (List.mem_of_getElem? (i := 2) rfl)
  have w3 := hts (.fieldLink RX6 168 "PierRings$Circle" "nodeByPlace" "[I") (List.mem_of_getElem? (i := 3) rfl)
  have w4 := hts (.fieldLink RX6 171 "PierRings$Circle" "point" "[I") (List.mem_of_getElem? (i := 4) rfl)
  have w5 := hts (.fieldLink RX6 174 "PierRings$Circle" "owner" "[I") (List.mem_of_getElem? (i := 5) rfl)
  have w6 := hts (.fieldLink RX6 177 "PierRings$Circle" "number" "[I") (List.mem_of_getElem? (i := 6) rfl)
  have w7 := hts (.fieldLink RX6 180 "PierRings$Circle" "above" "[I") (List.mem_of_getElem? (i := 7) rfl)
  have hS : va_S (WA 93 ad) s.heap s.heap [] := va_S.rf
  have hfr : entryFrame m args 4 = F0 m 0 ((lg_sl [.ref (ad 0), .int a1, .int a2] ++ List.replicate (4 - (lg_sl [.ref (ad 0), .int a1, .int a2]).length) Slot.unset).toArray) [] := by rw [hargs]; exact lg_entry_eq _ _ _
  rw [hfr]
  have hl := lv_entry ([.ref (ad 0), .int a1, .int a2]) (n := 4) (Nat.le_of_ble_eq_true rfl)
  generalize (lg_sl [.ref (ad 0), .int a1, .int a2] ++ List.replicate (4 - (lg_sl [.ref (ad 0), .int a1, .int a2]).length) Slot.unset).toArray = ls at hl ⊢
  have hl : lv_has ls 4 [(0, .ref (ad 0)), (1, .int a1), (2, .int a2)] := hl
  clear hfr hargs B
  show W p l e rmX6_ring s m args below meth c s.heap [] 0 0 (MQ below (Qiw (dC, dI) 93 ad (layX ad cy) res σ) args s 0 0 (WA 93 ad)) (F0 m 0 ls [])
  unfold fX6_ring at hf
  obtain ⟨H, eH⟩ : ∃ H : Heap, H = s.heap := ⟨_, rfl⟩
  rw [← eH] at hP
  have hS : va_S (WA 93 ad) s.heap H [] := by rw [eH]; exact hS
  suffices K : W p l e rmX6_ring s m args below meth c H [] 0 0 (MQ below (Qiw (dC, dI) 93 ad (layX ad cy) res σ) args s 0 0 (WA 93 ad)) (F0 m 0 ls []) by rw [eH] at K; exact K
  clear eH
  obtain ⟨locs, elocs⟩ : ∃ z : List Loc, z = [] := ⟨_, rfl⟩
  rw [← elocs] at hS ⊢
  refine lv_iload_n hx hb dX6_ring_0 rfl (lv_at hl 1 rfl) ?_
  refine lv_if_lt (tgt := 15) hx hb dX6_ring_1 (by decide) (fun c1 => ?_) (fun c1 => ?_)
  · have hf := (if_pos c1).symm.trans hf
    refine lv_bipush (v := (-11)) hx hb dX6_ring_15 (by decide) ?_
    exact xt_iret hx hb hr hP hS (Option.some.inj hf) rfl dX6_ring_17 hlocks
  · have hf := (if_neg c1).symm.trans hf
    refine lv_iload_n hx hb dX6_ring_4 rfl (lv_at hl 1 rfl) ?_
    refine lv_aload_n hx hb dX6_ring_5 rfl (lv_at hl 0 rfl) ?_
    refine xt_get (ci := 6) (C := RX6) (T := TX6) (n := 12) (v := .ref (ad 15)) hx hb hts iX6_ring_X6 hown hK hP 0 (by decide) (LX6_obj ad cy _) rfl 1 (by decide) w1 rfl dX6_ring_6 ?_
    refine xt_get (ci := 0) (C := RX0) (T := TX0) (n := 10) (v := .int (σ 15 5)) hx hb hts iX6_ring_X0 hown hK hP 15 (by decide) (LX0_obj ad cy 0 (by decide) _) rfl 5 (by decide) w2 rfl dX6_ring_9 ?_
    refine lv_icmp_lt (tgt := 18) hx hb dX6_ring_12 (by decide) (fun c2 => ?_) (fun c2 => ?_)
    · have hf := (if_pos c2).symm.trans hf
      refine lv_aload_n hx hb dX6_ring_18 rfl (lv_at hl 0 rfl) ?_
      refine xt_get (ci := 6) (C := RX6) (T := TX6) (n := 12) (v := .ref (ad 15)) hx hb hts iX6_ring_X6 hown hK hP 0 (by decide) (LX6_obj ad cy _) rfl 1 (by decide) w1 rfl dX6_ring_19 ?_
      refine xt_get (ci := 0) (C := RX0) (T := TX0) (n := 10) (v := .ref (ad 16)) hx hb hts iX6_ring_X0 hown hK hP 15 (by decide) (LX0_obj ad cy 0 (by decide) _) rfl 0 (by decide) w3 rfl dX6_ring_22 ?_
      refine lv_iload_n hx hb dX6_ring_25 rfl (lv_at hl 1 rfl) ?_
      obtain ⟨g3, hf⟩ := gd_some hf
      refine xt_iald hx hb hK hP 16 (by decide) 0 (LX0_nodeByPlace ad cy 0 (by decide) _) rfl g3 dX6_ring_26 ?_
      refine lv_topi (fun v4 ev4 => ?_)
      have hf := nm_to hf ev4
      refine lv_istore_n (lv' := [(3, .int v4), (0, .ref (ad 0)), (1, .int a1), (2, .int a2)]) hx hb dX6_ring_27 rfl hl (by decide) rfl (fun ls hl => ?_)
      refine lv_iload_n hx hb dX6_ring_28 rfl (lv_at hl 3 rfl) ?_
      by_cases c5 : a2 = 0
      · have hf := (if_pos c5).symm.trans hf
        refine lv_tableIn (tgt := 60) (off := 31) hx hb dX6_ring_29 (by rw [c5]; decide) (by rw [c5]; decide) (by rw [c5]; rfl) (by decide) ?_
        refine lv_aload_n hx hb dX6_ring_60 rfl (lv_at hl 1 rfl) ?_
        refine xt_get (ci := 6) (C := RX6) (T := TX6) (n := 12) (v := .ref (ad 15)) hx hb hts iX6_ring_X6 hown hK hP 0 (by decide) (LX6_obj ad cy _) rfl 1 (by decide) w1 rfl dX6_ring_61 ?_
        refine xt_get (ci := 0) (C := RX0) (T := TX0) (n := 10) (v := .ref (ad 17)) hx hb hts iX6_ring_X0 hown hK hP 15 (by decide) (LX0_obj ad cy 0 (by decide) _) rfl 1 (by decide) w4 rfl dX6_ring_64 ?_
        refine lv_iload_n hx hb dX6_ring_67 rfl (lv_at hl 0 rfl) ?_
        obtain ⟨g6, hf⟩ := gd_some hf
        refine xt_iald hx hb hK hP 17 (by decide) 0 (LX0_point ad cy 0 (by decide) _) rfl g6 dX6_ring_68 ?_
        exact xt_iret hx hb hr hP hS (Option.some.inj hf) rfl dX6_ring_69 hlocks
      · have hf := (if_neg c5).symm.trans hf
        by_cases c7 : a2 = 1
        · have hf := (if_pos c7).symm.trans hf
          refine lv_tableIn (tgt := 70) (off := 41) hx hb dX6_ring_29 (by rw [c7]; decide) (by rw [c7]; decide) (by rw [c7]; rfl) (by decide) ?_
          refine lv_aload_n hx hb dX6_ring_70 rfl (lv_at hl 1 rfl) ?_
          refine xt_get (ci := 6) (C := RX6) (T := TX6) (n := 12) (v := .ref (ad 15)) hx hb hts iX6_ring_X6 hown hK hP 0 (by decide) (LX6_obj ad cy _) rfl 1 (by decide) w1 rfl dX6_ring_71 ?_
          refine xt_get (ci := 0) (C := RX0) (T := TX0) (n := 10) (v := .ref (ad 18)) hx hb hts iX6_ring_X0 hown hK hP 15 (by decide) (LX0_obj ad cy 0 (by decide) _) rfl 2 (by decide) w5 rfl dX6_ring_74 ?_
          refine lv_iload_n hx hb dX6_ring_77 rfl (lv_at hl 0 rfl) ?_
          obtain ⟨g8, hf⟩ := gd_some hf
          refine xt_iald hx hb hK hP 18 (by decide) 0 (LX0_owner ad cy 0 (by decide) _) rfl g8 dX6_ring_78 ?_
          exact xt_iret hx hb hr hP hS (Option.some.inj hf) rfl dX6_ring_79 hlocks
        · have hf := (if_neg c7).symm.trans hf
          by_cases c9 : a2 = 2
          · have hf := (if_pos c9).symm.trans hf
            refine lv_tableIn (tgt := 80) (off := 51) hx hb dX6_ring_29 (by rw [c9]; decide) (by rw [c9]; decide) (by rw [c9]; rfl) (by decide) ?_
            refine lv_aload_n hx hb dX6_ring_80 rfl (lv_at hl 1 rfl) ?_
            refine xt_get (ci := 6) (C := RX6) (T := TX6) (n := 12) (v := .ref (ad 15)) hx hb hts iX6_ring_X6 hown hK hP 0 (by decide) (LX6_obj ad cy _) rfl 1 (by decide) w1 rfl dX6_ring_81 ?_
            refine xt_get (ci := 0) (C := RX0) (T := TX0) (n := 10) (v := .ref (ad 19)) hx hb hts iX6_ring_X0 hown hK hP 15 (by decide) (LX0_obj ad cy 0 (by decide) _) rfl 3 (by decide) w6 rfl dX6_ring_84 ?_
            refine lv_iload_n hx hb dX6_ring_87 rfl (lv_at hl 0 rfl) ?_
            obtain ⟨g10, hf⟩ := gd_some hf
            refine xt_iald hx hb hK hP 19 (by decide) 0 (LX0_number ad cy 0 (by decide) _) rfl g10 dX6_ring_88 ?_
            exact xt_iret hx hb hr hP hS (Option.some.inj hf) rfl dX6_ring_89 hlocks
          · have hf := (if_neg c9).symm.trans hf
            by_cases c11 : a2 = 3
            · have hf := (if_pos c11).symm.trans hf
              refine lv_tableIn (tgt := 90) (off := 61) hx hb dX6_ring_29 (by rw [c11]; decide) (by rw [c11]; decide) (by rw [c11]; rfl) (by decide) ?_
              refine lv_aload_n hx hb dX6_ring_90 rfl (lv_at hl 1 rfl) ?_
              refine xt_get (ci := 6) (C := RX6) (T := TX6) (n := 12) (v := .ref (ad 15)) hx hb hts iX6_ring_X6 hown hK hP 0 (by decide) (LX6_obj ad cy _) rfl 1 (by decide) w1 rfl dX6_ring_91 ?_
              refine xt_get (ci := 0) (C := RX0) (T := TX0) (n := 10) (v := .ref (ad 20)) hx hb hts iX6_ring_X0 hown hK hP 15 (by decide) (LX0_obj ad cy 0 (by decide) _) rfl 4 (by decide) w7 rfl dX6_ring_94 ?_
              refine lv_iload_n hx hb dX6_ring_97 rfl (lv_at hl 0 rfl) ?_
              obtain ⟨g12, hf⟩ := gd_some hf
              refine xt_iald hx hb hK hP 20 (by decide) 0 (LX0_above ad cy 0 (by decide) _) rfl g12 dX6_ring_98 ?_
              exact xt_iret hx hb hr hP hS (Option.some.inj hf) rfl dX6_ring_99 hlocks
            · have hf := (if_neg c11).symm.trans hf
              refine lv_tableOut (tgt := 100) hx hb dX6_ring_29 (by have ic5 : ¬ Int32.toInt a2 = 0 := lv_neT c5 (by decide); have ic7 : ¬ Int32.toInt a2 = 1 := lv_neT c7 (by decide); have ic9 : ¬ Int32.toInt a2 = 2 := lv_neT c9 (by decide); have ic11 : ¬ Int32.toInt a2 = 3 := lv_neT c11 (by decide); omega) (by decide) ?_
              refine lv_bipush (v := (-12)) hx hb dX6_ring_100 (by decide) ?_
              exact xt_iret hx hb hr hP hS (Option.some.inj hf) rfl dX6_ring_102 hlocks
    · have hf := (if_neg c2).symm.trans hf
      refine lv_bipush (v := (-11)) hx hb dX6_ring_15 (by decide) ?_
      exact xt_iret hx hb hr hP hS (Option.some.inj hf) rfl dX6_ring_17 hlocks
def fX6_deep (σ : St) : Option Int32 :=
  some (σ 15 6)
abbrev rmX6_deep : Room := { frames := 0, cells := 0, slots := 0, locals := 0 }
theorem dmX6_deep : yX6_deep.cls = RX6 ∧ yX6_deep.cls ≠ "java/lang/invoke/MethodHandle" ∧ yX6_deep.cls ≠ "java/lang/invoke/VarHandle" ∧ (parseMethodDescriptor yX6_deep.desc).map (fun d => d.parameters.length) = some 0 := by decide +kernel
theorem iX6_deep_X0 : ∀ w ∈ wsX00, w ∈ wsX6_deep := fun w h => List.mem_cons_of_mem _ (List.mem_append_right _ (h))
theorem iX6_deep_X6 : ∀ w ∈ wsX60, w ∈ wsX6_deep := fun w h => List.mem_cons_of_mem _ (List.mem_append_left _ (List.mem_append_right _ (h)))
set_option maxHeartbeats 8000000 in
set_option maxRecDepth 100000 in
theorem mX6_deep (l : Launch) (dC : Nat → ClassId) (dI : Nat → Nat → Nat) (ad : Nat → Nat) (cy : Nat → ClassId) (hJ : WJ 93 ad) (σ : St) (res : Int32) (hf : fX6_deep σ = some res) : CMi l yX6_deep wsX6_deep rmX6_deep (dC, dI) (tysX cy) 93 ad (layX ad cy) [.ref (ad 0)] σ res σ := by
  refine Met.ofW (cc := cX6_deep) (maxL := 1) (ret := (some .int)) (by decide) rfl ?_
  intro p e s m args below meth c s₁ B hml hv
  obtain ⟨hargs, hP, hK⟩ := hv
  have hx := B.exec
  have hb := B.bytes
  have hr := B.returns
  have hts := atoms_spec (ws := wsX6_deep) B.pre
  have hown : s.vm.findClass RX6 = some m.cls := findClass_of_methodNamed B.named
  have hlocks := B.notSynchronized
  have w1 := hts (.fieldLink RX6 19 "PierRings" "circle" "LPierRings$Circle;") (List.mem_of_getElem? (i := 1) rfl)
  have w2 := hts (.fieldLink RX6 183 "PierRings$Circle" "height" "I") (List.mem_of_getElem? (i := 2) rfl)
  have hS : va_S (WA 93 ad) s.heap s.heap [] := va_S.rf
  have hfr : entryFrame m args 1 = F0 m 0 ((lg_sl [.ref (ad 0)] ++ List.replicate (1 - (lg_sl [.ref (ad 0)]).length) Slot.unset).toArray) [] := by rw [hargs]; exact lg_entry_eq _ _ _
  rw [hfr]
  have hl := lv_entry ([.ref (ad 0)]) (n := 1) (Nat.le_of_ble_eq_true rfl)
  generalize (lg_sl [.ref (ad 0)] ++ List.replicate (1 - (lg_sl [.ref (ad 0)]).length) Slot.unset).toArray = ls at hl ⊢
  have hl : lv_has ls 1 [(0, .ref (ad 0))] := hl
  clear hfr hargs B
  show W p l e rmX6_deep s m args below meth c s.heap [] 0 0 (MQ below (Qiw (dC, dI) 93 ad (layX ad cy) res σ) args s 0 0 (WA 93 ad)) (F0 m 0 ls [])
  unfold fX6_deep at hf
  obtain ⟨H, eH⟩ : ∃ H : Heap, H = s.heap := ⟨_, rfl⟩
  rw [← eH] at hP
  have hS : va_S (WA 93 ad) s.heap H [] := by rw [eH]; exact hS
  suffices K : W p l e rmX6_deep s m args below meth c H [] 0 0 (MQ below (Qiw (dC, dI) 93 ad (layX ad cy) res σ) args s 0 0 (WA 93 ad)) (F0 m 0 ls []) by rw [eH] at K; exact K
  clear eH
  obtain ⟨locs, elocs⟩ : ∃ z : List Loc, z = [] := ⟨_, rfl⟩
  rw [← elocs] at hS ⊢
  refine lv_aload_n hx hb dX6_deep_0 rfl (lv_at hl 0 rfl) ?_
  refine xt_get (ci := 6) (C := RX6) (T := TX6) (n := 12) (v := .ref (ad 15)) hx hb hts iX6_deep_X6 hown hK hP 0 (by decide) (LX6_obj ad cy _) rfl 1 (by decide) w1 rfl dX6_deep_1 ?_
  refine xt_get (ci := 0) (C := RX0) (T := TX0) (n := 10) (v := .int (σ 15 6)) hx hb hts iX6_deep_X0 hown hK hP 15 (by decide) (LX0_obj ad cy 0 (by decide) _) rfl 6 (by decide) w2 rfl dX6_deep_4 ?_
  exact xt_iret hx hb hr hP hS (Option.some.inj hf) rfl dX6_deep_7 hlocks
def fX6_isHotter (σ : St) (a1 : Int32) (a2 : Int32) : Option Int32 :=
  bd (fX6_tonsBeyond σ a1) fun r1 => bd (fX6_tonsBeyond σ a2) fun r2 => if r1 = r2 then (gd (okI a1 8) <| gd (okI a2 8) <| if (σ 34 a1.toNatClampNeg) = (σ 34 a2.toNatClampNeg) then (if a2 ≤ a1 then (some (0 : Int32)) else (some (1 : Int32))) else (gd (okI a1 8) <| gd (okI a2 8) <| if (σ 34 a2.toNatClampNeg) ≤ (σ 34 a1.toNatClampNeg) then (some (0 : Int32)) else (some (1 : Int32)))) else (bd (fX6_tonsBeyond σ a1) fun r11 => bd (fX6_tonsBeyond σ a2) fun r12 => if r11 ≤ r12 then (some (0 : Int32)) else (some (1 : Int32)))
abbrev rmX6_isHotter : Room := { frames := 2, cells := 0, slots := 0, locals := 42 }
theorem dmX6_isHotter : yX6_isHotter.cls = RX6 ∧ yX6_isHotter.cls ≠ "java/lang/invoke/MethodHandle" ∧ yX6_isHotter.cls ≠ "java/lang/invoke/VarHandle" ∧ (parseMethodDescriptor yX6_isHotter.desc).map (fun d => d.parameters.length) = some 2 := by decide +kernel
theorem iX6_isHotter_X1 : ∀ w ∈ wsX10, w ∈ wsX6_isHotter := fun w h => List.mem_cons_of_mem _ (List.mem_append_left _ (List.mem_append_right _ (h)))
theorem iX6_isHotter_X6 : ∀ w ∈ wsX60, w ∈ wsX6_isHotter := fun w h => List.mem_cons_of_mem _ (List.mem_append_left _ (List.mem_append_left _ (List.mem_append_right _ (h))))
set_option maxHeartbeats 8000000 in
set_option maxRecDepth 100000 in
theorem mX6_isHotter (l : Launch) (dC : Nat → ClassId) (dI : Nat → Nat → Nat) (ad : Nat → Nat) (cy : Nat → ClassId) (hJ : WJ 93 ad) (σ : St) (a1 : Int32) (a2 : Int32) (res : Int32) (hf : fX6_isHotter σ a1 a2 = some res) : CMi l yX6_isHotter wsX6_isHotter rmX6_isHotter (dC, dI) (tysX cy) 93 ad (layX ad cy) [.ref (ad 0), .int a1, .int a2] σ res σ := by
  refine Met.ofW (cc := cX6_isHotter) (maxL := 3) (ret := (some .boolean)) (by decide) rfl ?_
  intro p e s m args below meth c s₁ B hml hv
  obtain ⟨hargs, hP, hK⟩ := hv
  have hx := B.exec
  have hb := B.bytes
  have hr := B.returns
  have hts := atoms_spec (ws := wsX6_isHotter) B.pre
  have hown : s.vm.findClass RX6 = some m.cls := findClass_of_methodNamed B.named
  have hlocks := B.notSynchronized
  have w1 := hts (.fieldLink RX6 12 "PierRings" "harbour" "LPierRings$Harbour;") (List.mem_of_getElem? (i := 1) rfl)
  have w2 := hts (.fieldLink RX6 97 "PierRings$Harbour" "berths" "[I") (List.mem_of_getElem? (i := 2) rfl)
  have hS : va_S (WA 93 ad) s.heap s.heap [] := va_S.rf
  have hfr : entryFrame m args 3 = F0 m 0 ((lg_sl [.ref (ad 0), .int a1, .int a2] ++ List.replicate (3 - (lg_sl [.ref (ad 0), .int a1, .int a2]).length) Slot.unset).toArray) [] := by rw [hargs]; exact lg_entry_eq _ _ _
  rw [hfr]
  have hl := lv_entry ([.ref (ad 0), .int a1, .int a2]) (n := 3) (Nat.le_of_ble_eq_true rfl)
  generalize (lg_sl [.ref (ad 0), .int a1, .int a2] ++ List.replicate (3 - (lg_sl [.ref (ad 0), .int a1, .int a2]).length) Slot.unset).toArray = ls at hl ⊢
  have hl : lv_has ls 3 [(0, .ref (ad 0)), (1, .int a1), (2, .int a2)] := hl
  clear hfr hargs B
  show W p l e rmX6_isHotter s m args below meth c s.heap [] 0 0 (MQ below (Qiw (dC, dI) 93 ad (layX ad cy) res σ) args s 0 0 (WA 93 ad)) (F0 m 0 ls [])
  unfold fX6_isHotter at hf
  obtain ⟨H, eH⟩ : ∃ H : Heap, H = s.heap := ⟨_, rfl⟩
  rw [← eH] at hP
  have hS : va_S (WA 93 ad) s.heap H [] := by rw [eH]; exact hS
  suffices K : W p l e rmX6_isHotter s m args below meth c H [] 0 0 (MQ below (Qiw (dC, dI) 93 ad (layX ad cy) res σ) args s 0 0 (WA 93 ad)) (F0 m 0 ls []) by rw [eH] at K; exact K
  clear eH
  obtain ⟨locs, elocs⟩ : ∃ z : List Loc, z = [] := ⟨_, rfl⟩
  rw [← elocs] at hS ⊢
  refine lv_aload_n hx hb dX6_isHotter_0 rfl (lv_at hl 0 rfl) ?_
  refine lv_iload_n hx hb dX6_isHotter_1 rfl (lv_at hl 1 rfl) ?_
  obtain ⟨r1, qr1, hf⟩ := bd_some hf
  refine xt_callVi (As := [.int a1]) (rest := []) (C := RX6) (ci := 6) ⟨hx, hb, hml, hown, hts⟩ 0 (mX6_tonsBeyond l dC dI ad cy hJ σ a1 r1 qr1) (cwV 1 hts gX6_isHotter_X6_tonsBeyond rfl rfl rfl dmX6_tonsBeyond ⟨Nat.le_of_ble_eq_true rfl, Nat.le_of_ble_eq_true rfl⟩) hK hP hS (by decide) (LX6_obj ad cy _) rfl rfl rfl hl.1 (Nat.le_of_ble_eq_true rfl) ⟨Nat.zero_le _, Nat.zero_le _⟩ dX6_isHotter_2 (fun H locs hP hS => ?_)
  refine lv_aload_n hx hb dX6_isHotter_5 rfl (lv_at hl 0 rfl) ?_
  refine lv_iload_n hx hb dX6_isHotter_6 rfl (lv_at hl 2 rfl) ?_
  obtain ⟨r2, qr2, hf⟩ := bd_some hf
  refine xt_callVi (As := [.int a2]) (rest := [.int r1]) (C := RX6) (ci := 6) ⟨hx, hb, hml, hown, hts⟩ 0 (mX6_tonsBeyond l dC dI ad cy hJ σ a2 r2 qr2) (cwV 1 hts gX6_isHotter_X6_tonsBeyond rfl rfl rfl dmX6_tonsBeyond ⟨Nat.le_of_ble_eq_true rfl, Nat.le_of_ble_eq_true rfl⟩) hK hP hS (by decide) (LX6_obj ad cy _) rfl rfl rfl hl.1 (Nat.le_of_ble_eq_true rfl) ⟨Nat.zero_le _, Nat.zero_le _⟩ dX6_isHotter_7 (fun H locs hP hS => ?_)
  refine lv_icmp_eq (tgt := 32) hx hb dX6_isHotter_10 (by decide) (fun c3 => ?_) (fun c3 => ?_)
  · have hf := (if_pos c3).symm.trans hf
    refine lv_aload_n hx hb dX6_isHotter_32 rfl (lv_at hl 0 rfl) ?_
    refine xt_get (ci := 6) (C := RX6) (T := TX6) (n := 12) (v := .ref (ad 33)) hx hb hts iX6_isHotter_X6 hown hK hP 0 (by decide) (LX6_obj ad cy _) rfl 0 (by decide) w1 rfl dX6_isHotter_33 ?_
    refine xt_get (ci := 1) (C := RX1) (T := TX1) (n := 8) (v := .ref (ad 34)) hx hb hts iX6_isHotter_X1 hown hK hP 33 (by decide) (LX1_obj ad cy 0 (by decide) _) rfl 0 (by decide) w2 rfl dX6_isHotter_36 ?_
    refine lv_iload_n hx hb dX6_isHotter_39 rfl (lv_at hl 1 rfl) ?_
    obtain ⟨g4, hf⟩ := gd_some hf
    refine xt_iald hx hb hK hP 34 (by decide) 0 (LX1_berths ad cy 0 (by decide) _) rfl g4 dX6_isHotter_40 ?_
    refine lv_aload_n hx hb dX6_isHotter_41 rfl (lv_at hl 0 rfl) ?_
    refine xt_get (ci := 6) (C := RX6) (T := TX6) (n := 12) (v := .ref (ad 33)) hx hb hts iX6_isHotter_X6 hown hK hP 0 (by decide) (LX6_obj ad cy _) rfl 0 (by decide) w1 rfl dX6_isHotter_42 ?_
    refine xt_get (ci := 1) (C := RX1) (T := TX1) (n := 8) (v := .ref (ad 34)) hx hb hts iX6_isHotter_X1 hown hK hP 33 (by decide) (LX1_obj ad cy 0 (by decide) _) rfl 0 (by decide) w2 rfl dX6_isHotter_45 ?_
    refine lv_iload_n hx hb dX6_isHotter_48 rfl (lv_at hl 2 rfl) ?_
    obtain ⟨g5, hf⟩ := gd_some hf
    refine xt_iald hx hb hK hP 34 (by decide) 0 (LX1_berths ad cy 0 (by decide) _) rfl g5 dX6_isHotter_49 ?_
    refine lv_icmp_eq (tgt := 80) hx hb dX6_isHotter_50 (by decide) (fun c6 => ?_) (fun c6 => ?_)
    · have hf := (if_pos c6).symm.trans hf
      refine lv_iload_n hx hb dX6_isHotter_80 rfl (lv_at hl 1 rfl) ?_
      refine lv_iload_n hx hb dX6_isHotter_81 rfl (lv_at hl 2 rfl) ?_
      refine lv_icmp_ge (tgt := 89) hx hb dX6_isHotter_82 (by decide) (fun c7 => ?_) (fun c7 => ?_)
      · have hf := (if_pos c7).symm.trans hf
        refine lv_iconst (v := 0) hx hb dX6_isHotter_89 (by decide) ?_
        exact xt_zret hx hb hr rfl hP hS (Option.some.inj hf) rfl dX6_isHotter_90 hlocks
      · have hf := (if_neg c7).symm.trans hf
        refine lv_iconst (v := 1) hx hb dX6_isHotter_85 (by decide) ?_
        refine lv_goto (tgt := 90) hx hb dX6_isHotter_86 (by decide) ?_
        exact xt_zret hx hb hr rfl hP hS (Option.some.inj hf) rfl dX6_isHotter_90 hlocks
    · have hf := (if_neg c6).symm.trans hf
      refine lv_aload_n hx hb dX6_isHotter_53 rfl (lv_at hl 0 rfl) ?_
      refine xt_get (ci := 6) (C := RX6) (T := TX6) (n := 12) (v := .ref (ad 33)) hx hb hts iX6_isHotter_X6 hown hK hP 0 (by decide) (LX6_obj ad cy _) rfl 0 (by decide) w1 rfl dX6_isHotter_54 ?_
      refine xt_get (ci := 1) (C := RX1) (T := TX1) (n := 8) (v := .ref (ad 34)) hx hb hts iX6_isHotter_X1 hown hK hP 33 (by decide) (LX1_obj ad cy 0 (by decide) _) rfl 0 (by decide) w2 rfl dX6_isHotter_57 ?_
      refine lv_iload_n hx hb dX6_isHotter_60 rfl (lv_at hl 1 rfl) ?_
      obtain ⟨g8, hf⟩ := gd_some hf
      refine xt_iald hx hb hK hP 34 (by decide) 0 (LX1_berths ad cy 0 (by decide) _) rfl g8 dX6_isHotter_61 ?_
      refine lv_aload_n hx hb dX6_isHotter_62 rfl (lv_at hl 0 rfl) ?_
      refine xt_get (ci := 6) (C := RX6) (T := TX6) (n := 12) (v := .ref (ad 33)) hx hb hts iX6_isHotter_X6 hown hK hP 0 (by decide) (LX6_obj ad cy _) rfl 0 (by decide) w1 rfl dX6_isHotter_63 ?_
      refine xt_get (ci := 1) (C := RX1) (T := TX1) (n := 8) (v := .ref (ad 34)) hx hb hts iX6_isHotter_X1 hown hK hP 33 (by decide) (LX1_obj ad cy 0 (by decide) _) rfl 0 (by decide) w2 rfl dX6_isHotter_66 ?_
      refine lv_iload_n hx hb dX6_isHotter_69 rfl (lv_at hl 2 rfl) ?_
      obtain ⟨g9, hf⟩ := gd_some hf
      refine xt_iald hx hb hK hP 34 (by decide) 0 (LX1_berths ad cy 0 (by decide) _) rfl g9 dX6_isHotter_70 ?_
      refine lv_icmp_ge (tgt := 78) hx hb dX6_isHotter_71 (by decide) (fun c10 => ?_) (fun c10 => ?_)
      · have hf := (if_pos c10).symm.trans hf
        refine lv_iconst (v := 0) hx hb dX6_isHotter_78 (by decide) ?_
        exact xt_zret hx hb hr rfl hP hS (Option.some.inj hf) rfl dX6_isHotter_79 hlocks
      · have hf := (if_neg c10).symm.trans hf
        refine lv_iconst (v := 1) hx hb dX6_isHotter_74 (by decide) ?_
        refine lv_goto (tgt := 79) hx hb dX6_isHotter_75 (by decide) ?_
        exact xt_zret hx hb hr rfl hP hS (Option.some.inj hf) rfl dX6_isHotter_79 hlocks
  · have hf := (if_neg c3).symm.trans hf
    refine lv_aload_n hx hb dX6_isHotter_13 rfl (lv_at hl 0 rfl) ?_
    refine lv_iload_n hx hb dX6_isHotter_14 rfl (lv_at hl 1 rfl) ?_
    obtain ⟨r11, qr11, hf⟩ := bd_some hf
    refine xt_callVi (As := [.int a1]) (rest := []) (C := RX6) (ci := 6) ⟨hx, hb, hml, hown, hts⟩ 0 (mX6_tonsBeyond l dC dI ad cy hJ σ a1 r11 qr11) (cwV 1 hts gX6_isHotter_X6_tonsBeyond rfl rfl rfl dmX6_tonsBeyond ⟨Nat.le_of_ble_eq_true rfl, Nat.le_of_ble_eq_true rfl⟩) hK hP hS (by decide) (LX6_obj ad cy _) rfl rfl rfl hl.1 (Nat.le_of_ble_eq_true rfl) ⟨Nat.zero_le _, Nat.zero_le _⟩ dX6_isHotter_15 (fun H locs hP hS => ?_)
    refine lv_aload_n hx hb dX6_isHotter_18 rfl (lv_at hl 0 rfl) ?_
    refine lv_iload_n hx hb dX6_isHotter_19 rfl (lv_at hl 2 rfl) ?_
    obtain ⟨r12, qr12, hf⟩ := bd_some hf
    refine xt_callVi (As := [.int a2]) (rest := [.int r11]) (C := RX6) (ci := 6) ⟨hx, hb, hml, hown, hts⟩ 0 (mX6_tonsBeyond l dC dI ad cy hJ σ a2 r12 qr12) (cwV 1 hts gX6_isHotter_X6_tonsBeyond rfl rfl rfl dmX6_tonsBeyond ⟨Nat.le_of_ble_eq_true rfl, Nat.le_of_ble_eq_true rfl⟩) hK hP hS (by decide) (LX6_obj ad cy _) rfl rfl rfl hl.1 (Nat.le_of_ble_eq_true rfl) ⟨Nat.zero_le _, Nat.zero_le _⟩ dX6_isHotter_20 (fun H locs hP hS => ?_)
    refine lv_icmp_le (tgt := 30) hx hb dX6_isHotter_23 (by decide) (fun c13 => ?_) (fun c13 => ?_)
    · have hf := (if_pos c13).symm.trans hf
      refine lv_iconst (v := 0) hx hb dX6_isHotter_30 (by decide) ?_
      exact xt_zret hx hb hr rfl hP hS (Option.some.inj hf) rfl dX6_isHotter_31 hlocks
    · have hf := (if_neg c13).symm.trans hf
      refine lv_iconst (v := 1) hx hb dX6_isHotter_26 (by decide) ?_
      refine lv_goto (tgt := 31) hx hb dX6_isHotter_27 (by decide) ?_
      exact xt_zret hx hb hr rfl hP hS (Option.some.inj hf) rfl dX6_isHotter_31 hlocks
def fX6_hottest_B62 (σ : St) : Option Int32 :=
  some (-11 : Int32)
def fX6_hottest_B49 (G2 : Int32 → Option Int32) (K2_62 : Option Int32) (σ : St) (x1 : Int32) (x2 : Int32) (x3 : Int32) : Option Int32 :=
  if x3 = x1 then (some x2) else (nm (x2 + 1) fun v2 => G2 v2)
def fX6_hottest_L18 (σ : St) (x2 : Int32) (K18_49 : Int32 → Option Int32) : Nat → Int32 → Int32 → Option Int32
  | 0, _, _ => none
  | n18 + 1, x3, x4 => if (σ 33 4) ≤ x4 then (K18_49 x3) else (bd (fX6_isHotter σ x4 x2) fun r4 => if r4 = 0 then (nm (x4 + 1) fun v6 => (fX6_hottest_L18 σ x2 K18_49 n18) x3 v6) else (nm (x3 + 1) fun v7 => nm (x4 + 1) fun v8 => (fX6_hottest_L18 σ x2 K18_49 n18) v7 v8))
def fX6_hottest_L2 (σ : St) (x1 : Int32) (K2_62 : Option Int32) : Nat → Int32 → Option Int32
  | 0, _ => none
  | n2 + 1, x2 => if (σ 33 4) ≤ x2 then (K2_62) else (fX6_hottest_L18 σ x2 (fun y3 => fX6_hottest_B49 (fX6_hottest_L2 σ x1 K2_62 n2) K2_62 σ x1 x2 y3) 1000 0 0)
def fX6_hottest (σ : St) (a1 : Int32) : Option Int32 :=
  fX6_hottest_L2 σ a1 (fX6_hottest_B62 σ) 1000 0
abbrev rmX6_hottest : Room := { frames := 3, cells := 0, slots := 0, locals := 64 }
theorem dmX6_hottest : yX6_hottest.cls = RX6 ∧ yX6_hottest.cls ≠ "java/lang/invoke/MethodHandle" ∧ yX6_hottest.cls ≠ "java/lang/invoke/VarHandle" ∧ (parseMethodDescriptor yX6_hottest.desc).map (fun d => d.parameters.length) = some 1 := by decide +kernel
theorem iX6_hottest_X1 : ∀ w ∈ wsX10, w ∈ wsX6_hottest := fun w h => List.mem_cons_of_mem _ (List.mem_append_left _ (List.mem_append_right _ (h)))
theorem iX6_hottest_X6 : ∀ w ∈ wsX60, w ∈ wsX6_hottest := fun w h => List.mem_cons_of_mem _ (List.mem_append_left _ (List.mem_append_left _ (List.mem_append_right _ (h))))
set_option maxHeartbeats 8000000 in
set_option maxRecDepth 100000 in
theorem mX6_hottest (l : Launch) (dC : Nat → ClassId) (dI : Nat → Nat → Nat) (ad : Nat → Nat) (cy : Nat → ClassId) (hJ : WJ 93 ad) (σ : St) (a1 : Int32) (res : Int32) (hf : fX6_hottest σ a1 = some res) : CMi l yX6_hottest wsX6_hottest rmX6_hottest (dC, dI) (tysX cy) 93 ad (layX ad cy) [.ref (ad 0), .int a1] σ res σ := by
  refine Met.ofW (cc := cX6_hottest) (maxL := 5) (ret := (some .int)) (by decide) rfl ?_
  intro p e s m args below meth c s₁ B hml hv
  obtain ⟨hargs, hP, hK⟩ := hv
  have hx := B.exec
  have hb := B.bytes
  have hr := B.returns
  have hts := atoms_spec (ws := wsX6_hottest) B.pre
  have hown : s.vm.findClass RX6 = some m.cls := findClass_of_methodNamed B.named
  have hlocks := B.notSynchronized
  have w1 := hts (.fieldLink RX6 12 "PierRings" "harbour" "LPierRings$Harbour;") (List.mem_of_getElem? (i := 1) rfl)
  have w2 := hts (.fieldLink RX6 186 "PierRings$Harbour" "piers" "I") (List.mem_of_getElem? (i := 2) rfl)
  have hS : va_S (WA 93 ad) s.heap s.heap [] := va_S.rf
  have hfr : entryFrame m args 5 = F0 m 0 ((lg_sl [.ref (ad 0), .int a1] ++ List.replicate (5 - (lg_sl [.ref (ad 0), .int a1]).length) Slot.unset).toArray) [] := by rw [hargs]; exact lg_entry_eq _ _ _
  rw [hfr]
  have hl := lv_entry ([.ref (ad 0), .int a1]) (n := 5) (Nat.le_of_ble_eq_true rfl)
  generalize (lg_sl [.ref (ad 0), .int a1] ++ List.replicate (5 - (lg_sl [.ref (ad 0), .int a1]).length) Slot.unset).toArray = ls at hl ⊢
  have hl : lv_has ls 5 [(0, .ref (ad 0)), (1, .int a1)] := hl
  clear hfr hargs B
  show W p l e rmX6_hottest s m args below meth c s.heap [] 0 0 (MQ below (Qiw (dC, dI) 93 ad (layX ad cy) res σ) args s 0 0 (WA 93 ad)) (F0 m 0 ls [])
  have kB62 : fX6_hottest_B62 σ = some res → ∀ (H : Heap) (locs : List Loc), va_P (dC, dI) vwCl (wd 93 ad (layX ad cy) σ) H → va_S (WA 93 ad) s.heap H locs → ∀ (ls : Array Slot), lv_has ls 5 [] → W p l e rmX6_hottest s m args below meth c H locs 0 0 (MQ below (Qiw (dC, dI) 93 ad (layX ad cy) res σ) args s 0 0 (WA 93 ad)) (F0 m 62 ls []) := by
    intro  hf H locs hP hS ls hl
    unfold fX6_hottest_B62 at hf
    refine lv_bipush (v := (-11)) hx hb dX6_hottest_62 (by decide) ?_
    exact xt_iret hx hb hr hP hS (Option.some.inj hf) rfl dX6_hottest_64 hlocks
  have loop2 : ∀ (x1 : Int32) (n2 : Nat) (x2 : Int32), fX6_hottest_L2 σ x1 (fX6_hottest_B62 σ) n2 x2 = some res → ∀ (H : Heap) (locs : List Loc), va_P (dC, dI) vwCl (wd 93 ad (layX ad cy) σ) H → va_S (WA 93 ad) s.heap H locs → ∀ (ls : Array Slot), lv_has ls 5 [(0, .ref (ad 0)), (1, .int x1), (2, .int x2)] → W p l e rmX6_hottest s m args below meth c H locs 0 0 (MQ below (Qiw (dC, dI) 93 ad (layX ad cy) res σ) args s 0 0 (WA 93 ad)) (F0 m 2 ls []) := by
    intro x1 n2
    induction n2 with
    | zero => intro x2 hf; simp [fX6_hottest_L2] at hf
    | succ n2 ih2 =>
      intro x2 hf H locs hP hS ls hl
      rw [fX6_hottest_L2] at hf
      have kB49 : ∀ (x2 : Int32) (x3 : Int32), fX6_hottest_B49 (fX6_hottest_L2 σ x1 (fX6_hottest_B62 σ) n2) (fX6_hottest_B62 σ) σ x1 x2 x3 = some res → ∀ (H : Heap) (locs : List Loc), va_P (dC, dI) vwCl (wd 93 ad (layX ad cy) σ) H → va_S (WA 93 ad) s.heap H locs → ∀ (ls : Array Slot), lv_has ls 5 [(0, .ref (ad 0)), (1, .int x1), (2, .int x2), (3, .int x3)] → W p l e rmX6_hottest s m args below meth c H locs 0 0 (MQ below (Qiw (dC, dI) 93 ad (layX ad cy) res σ) args s 0 0 (WA 93 ad)) (F0 m 49 ls []) := by
        intro x2 x3 hf H locs hP hS ls hl
        unfold fX6_hottest_B49 at hf
        refine lv_iload_n hx hb dX6_hottest_49 rfl (lv_at hl 3 rfl) ?_
        refine lv_iload_n hx hb dX6_hottest_50 rfl (lv_at hl 1 rfl) ?_
        refine lv_icmp_ne (tgt := 56) hx hb dX6_hottest_51 (by decide) (fun c1 => ?_) (fun c1 => ?_)
        · have hf := (if_neg c1).symm.trans hf
          obtain ⟨v2, ev2⟩ : ∃ y : Int32, y = x2 + 1 := ⟨_, rfl⟩
          have hf := nm_to hf ev2
          refine lv_iinc (v := v2) (lv' := [(2, .int v2), (0, .ref (ad 0)), (1, .int x1), (3, .int x3)]) hx hb dX6_hottest_56 hl (k := 2) rfl (by rw [ev2]; rfl) (by decide) rfl (fun ls hl => ?_)
          refine lv_goto (tgt := 2) hx hb dX6_hottest_59 (by decide) ?_
          exact ih2 v2 hf H locs hP hS ls (lv_sub hl [1, 2, 0] rfl)
        · have hf := (if_pos c1).symm.trans hf
          refine lv_iload_n hx hb dX6_hottest_54 rfl (lv_at hl 2 rfl) ?_
          exact xt_iret hx hb hr hP hS (Option.some.inj hf) rfl dX6_hottest_55 hlocks
      have loop18 : ∀ (x2 : Int32) (n18 : Nat) (x3 : Int32) (x4 : Int32), fX6_hottest_L18 σ x2 (fun y3 => fX6_hottest_B49 (fX6_hottest_L2 σ x1 (fX6_hottest_B62 σ) n2) (fX6_hottest_B62 σ) σ x1 x2 y3) n18 x3 x4 = some res → ∀ (H : Heap) (locs : List Loc), va_P (dC, dI) vwCl (wd 93 ad (layX ad cy) σ) H → va_S (WA 93 ad) s.heap H locs → ∀ (ls : Array Slot), lv_has ls 5 [(0, .ref (ad 0)), (1, .int x1), (2, .int x2), (3, .int x3), (4, .int x4)] → W p l e rmX6_hottest s m args below meth c H locs 0 0 (MQ below (Qiw (dC, dI) 93 ad (layX ad cy) res σ) args s 0 0 (WA 93 ad)) (F0 m 18 ls []) := by
        intro x2 n18
        induction n18 with
        | zero => intro x3 x4 hf; simp [fX6_hottest_L18] at hf
        | succ n18 ih18 =>
          intro x3 x4 hf H locs hP hS ls hl
          rw [fX6_hottest_L18] at hf
          refine lv_iload hx hb dX6_hottest_18 (lv_at hl 4 rfl) ?_
          refine lv_aload_n hx hb dX6_hottest_20 rfl (lv_at hl 0 rfl) ?_
          refine xt_get (ci := 6) (C := RX6) (T := TX6) (n := 12) (v := .ref (ad 33)) hx hb hts iX6_hottest_X6 hown hK hP 0 (by decide) (LX6_obj ad cy _) rfl 0 (by decide) w1 rfl dX6_hottest_21 ?_
          refine xt_get (ci := 1) (C := RX1) (T := TX1) (n := 8) (v := .int (σ 33 4)) hx hb hts iX6_hottest_X1 hown hK hP 33 (by decide) (LX1_obj ad cy 0 (by decide) _) rfl 4 (by decide) w2 rfl dX6_hottest_24 ?_
          refine lv_icmp_ge (tgt := 49) hx hb dX6_hottest_27 (by decide) (fun c3 => ?_) (fun c3 => ?_)
          · have hf := (if_pos c3).symm.trans hf
            exact kB49 x2 x3 hf H locs hP hS ls (lv_sub hl [0, 1, 2, 3] rfl)
          · have hf := (if_neg c3).symm.trans hf
            refine lv_aload_n hx hb dX6_hottest_30 rfl (lv_at hl 0 rfl) ?_
            refine lv_iload hx hb dX6_hottest_31 (lv_at hl 4 rfl) ?_
            refine lv_iload_n hx hb dX6_hottest_33 rfl (lv_at hl 2 rfl) ?_
            obtain ⟨r4, qr4, hf⟩ := bd_some hf
            refine xt_callVi (As := [.int x4, .int x2]) (rest := []) (C := RX6) (ci := 6) ⟨hx, hb, hml, hown, hts⟩ 0 (mX6_isHotter l dC dI ad cy hJ σ x4 x2 r4 qr4) (cwV 2 hts gX6_hottest_X6_isHotter rfl rfl rfl dmX6_isHotter ⟨Nat.le_of_ble_eq_true rfl, Nat.le_of_ble_eq_true rfl⟩) hK hP hS (by decide) (LX6_obj ad cy _) rfl rfl rfl hl.1 (Nat.le_of_ble_eq_true rfl) ⟨Nat.zero_le _, Nat.zero_le _⟩ dX6_hottest_34 (fun H locs hP hS => ?_)
            refine lv_if_eq (tgt := 43) hx hb dX6_hottest_37 (by decide) (fun c5 => ?_) (fun c5 => ?_)
            · have hf := (if_pos c5).symm.trans hf
              obtain ⟨v6, ev6⟩ : ∃ y : Int32, y = x4 + 1 := ⟨_, rfl⟩
              have hf := nm_to hf ev6
              refine lv_iinc (v := v6) (lv' := [(4, .int v6), (0, .ref (ad 0)), (1, .int x1), (2, .int x2), (3, .int x3)]) hx hb dX6_hottest_43 hl (k := 4) rfl (by rw [ev6]; rfl) (by decide) rfl (fun ls hl => ?_)
              refine lv_goto (tgt := 18) hx hb dX6_hottest_46 (by decide) ?_
              exact ih18 x3 v6 hf H locs hP hS ls (lv_sub hl [1, 2, 3, 4, 0] rfl)
            · have hf := (if_neg c5).symm.trans hf
              obtain ⟨v7, ev7⟩ : ∃ y : Int32, y = x3 + 1 := ⟨_, rfl⟩
              have hf := nm_to hf ev7
              refine lv_iinc (v := v7) (lv' := [(3, .int v7), (0, .ref (ad 0)), (1, .int x1), (2, .int x2), (4, .int x4)]) hx hb dX6_hottest_40 hl (k := 3) rfl (by rw [ev7]; rfl) (by decide) rfl (fun ls hl => ?_)
              obtain ⟨v8, ev8⟩ : ∃ y : Int32, y = x4 + 1 := ⟨_, rfl⟩
              have hf := nm_to hf ev8
              refine lv_iinc (v := v8) (lv' := [(4, .int v8), (3, .int v7), (0, .ref (ad 0)), (1, .int x1), (2, .int x2)]) hx hb dX6_hottest_43 hl (k := 4) rfl (by rw [ev8]; rfl) (by decide) rfl (fun ls hl => ?_)
              refine lv_goto (tgt := 18) hx hb dX6_hottest_46 (by decide) ?_
              exact ih18 v7 v8 hf H locs hP hS ls (lv_sub hl [2, 3, 4, 1, 0] rfl)
      refine lv_iload_n hx hb dX6_hottest_2 rfl (lv_at hl 2 rfl) ?_
      refine lv_aload_n hx hb dX6_hottest_3 rfl (lv_at hl 0 rfl) ?_
      refine xt_get (ci := 6) (C := RX6) (T := TX6) (n := 12) (v := .ref (ad 33)) hx hb hts iX6_hottest_X6 hown hK hP 0 (by decide) (LX6_obj ad cy _) rfl 0 (by decide) w1 rfl dX6_hottest_4 ?_
      refine xt_get (ci := 1) (C := RX1) (T := TX1) (n := 8) (v := .int (σ 33 4)) hx hb hts iX6_hottest_X1 hown hK hP 33 (by decide) (LX1_obj ad cy 0 (by decide) _) rfl 4 (by decide) w2 rfl dX6_hottest_7 ?_
      refine lv_icmp_ge (tgt := 62) hx hb dX6_hottest_10 (by decide) (fun c9 => ?_) (fun c9 => ?_)
      · have hf := (if_pos c9).symm.trans hf
        exact kB62 hf H locs hP hS ls (lv_sub hl [] rfl)
      · have hf := (if_neg c9).symm.trans hf
        refine lv_iconst (v := 0) hx hb dX6_hottest_13 (by decide) ?_
        refine lv_istore_n (lv' := [(3, .int 0), (0, .ref (ad 0)), (1, .int x1), (2, .int x2)]) hx hb dX6_hottest_14 rfl hl (by decide) rfl (fun ls hl => ?_)
        refine lv_iconst (v := 0) hx hb dX6_hottest_15 (by decide) ?_
        refine lv_istore (lv' := [(4, .int 0), (3, .int 0), (0, .ref (ad 0)), (1, .int x1), (2, .int x2)]) hx hb dX6_hottest_16 hl (by decide) rfl (fun ls hl => ?_)
        exact loop18 x2 1000 0 0 hf H locs hP hS ls (lv_sub hl [2, 3, 4, 1, 0] rfl)
  unfold fX6_hottest at hf
  obtain ⟨H, eH⟩ : ∃ H : Heap, H = s.heap := ⟨_, rfl⟩
  rw [← eH] at hP
  have hS : va_S (WA 93 ad) s.heap H [] := by rw [eH]; exact hS
  suffices K : W p l e rmX6_hottest s m args below meth c H [] 0 0 (MQ below (Qiw (dC, dI) 93 ad (layX ad cy) res σ) args s 0 0 (WA 93 ad)) (F0 m 0 ls []) by rw [eH] at K; exact K
  clear eH
  obtain ⟨locs, elocs⟩ : ∃ z : List Loc, z = [] := ⟨_, rfl⟩
  rw [← elocs] at hS ⊢
  refine lv_iconst (v := 0) hx hb dX6_hottest_0 (by decide) ?_
  refine lv_istore_n (lv' := [(2, .int 0), (0, .ref (ad 0)), (1, .int a1)]) hx hb dX6_hottest_1 rfl hl (by decide) rfl (fun ls hl => ?_)
  exact loop2 a1 1000 0 hf H locs hP hS ls (lv_sub hl [1, 2, 0] rfl)
def fX6_tell_B141 (σ : St) : Option (Int32 × St) :=
  some ((σ 5 1), σ)
def fX6_tell_L88 (x1 : Int32) (K88_141 : St → Option (Int32 × St)) : Nat → St → Int32 → Int32 → Option (Int32 × St)
  | 0, _, _, _ => none
  | n88 + 1, σ, x2, x3 => if (σ 33 5) ≤ x3 then (K88_141 σ) else (gd (okI x3 24) <| if (σ 9 x3.toNatClampNeg) = x1 then (if x2 = 0 then (bd (fX3_put σ 44) fun r8 => bd (fX3_putNumber r8 x3) fun r9 => nm (x3 + 1) fun v10 => (fX6_tell_L88 x1 K88_141 n88) r9 0 v10) else (bd (fX3_putNumber σ x3) fun r6 => nm (x3 + 1) fun v7 => (fX6_tell_L88 x1 K88_141 n88) r6 0 v7)) else (nm (x3 + 1) fun v4 => (fX6_tell_L88 x1 K88_141 n88) σ x2 v4))
def fX6_tell_B75 (σ : St) (x1 : Int32) : Option (Int32 × St) :=
  bd (fX3_put σ 58) fun r11 => fX6_tell_L88 x1 (fun σ => fX6_tell_B141 σ) 1000 r11 1 0
def fX6_tell (σ : St) (a1 : Int32) : Option (Int32 × St) :=
  bd (fX1_hasPier 0 σ a1) fun r12 => if r12 = 0 then (some ((-11), σ)) else (bd (fX3_empty σ) fun r14 => bd (fX3_putNumber r14 a1) fun r15 => bd (fX3_put r15 42) fun r16 => gd (okI a1 8) <| bd (fX3_putNumber r16 (r16 34 a1.toNatClampNeg)) fun r18 => gd (okI a1 8) <| if (r18 35 a1.toNatClampNeg) = 0 then (bd (fX3_put r18 120) fun r21 => fX6_tell_B75 r21 a1) else (fX6_tell_B75 r18 a1))
abbrev rmX6_tell : Room := { frames := 2, cells := 0, slots := 0, locals := 45 }
theorem dmX6_tell : yX6_tell.cls = RX6 ∧ yX6_tell.cls ≠ "java/lang/invoke/MethodHandle" ∧ yX6_tell.cls ≠ "java/lang/invoke/VarHandle" ∧ (parseMethodDescriptor yX6_tell.desc).map (fun d => d.parameters.length) = some 1 := by decide +kernel
theorem iX6_tell_X1 : ∀ w ∈ wsX10, w ∈ wsX6_tell := fun w h => List.mem_cons_of_mem _ (List.mem_append_left _ (List.mem_append_left _ (List.mem_append_right _ (h))))
theorem iX6_tell_X3 : ∀ w ∈ wsX30, w ∈ wsX6_tell := fun w h => List.mem_cons_of_mem _ (List.mem_append_right _ (h))
theorem iX6_tell_X4 : ∀ w ∈ wsX40, w ∈ wsX6_tell := fun w h => List.mem_cons_of_mem _ (List.mem_append_left _ (List.mem_append_right _ (h)))
theorem iX6_tell_X6 : ∀ w ∈ wsX60, w ∈ wsX6_tell := fun w h => List.mem_cons_of_mem _ (List.mem_append_left _ (List.mem_append_left _ (List.mem_append_left _ (List.mem_append_right _ (h)))))
set_option maxHeartbeats 8000000 in
set_option maxRecDepth 100000 in
theorem mX6_tell (l : Launch) (dC : Nat → ClassId) (dI : Nat → Nat → Nat) (ad : Nat → Nat) (cy : Nat → ClassId) (hJ : WJ 93 ad) (σ : St) (a1 : Int32) (res : (Int32 × St)) (hf : fX6_tell σ a1 = some res) : CMi l yX6_tell wsX6_tell rmX6_tell (dC, dI) (tysX cy) 93 ad (layX ad cy) [.ref (ad 0), .int a1] σ res.1 res.2 := by
  refine Met.ofW (cc := cX6_tell) (maxL := 4) (ret := (some .int)) (by decide) rfl ?_
  intro p e s m args below meth c s₁ B hml hv
  obtain ⟨hargs, hP, hK⟩ := hv
  have hx := B.exec
  have hb := B.bytes
  have hr := B.returns
  have hts := atoms_spec (ws := wsX6_tell) B.pre
  have hown : s.vm.findClass RX6 = some m.cls := findClass_of_methodNamed B.named
  have hlocks := B.notSynchronized
  have w1 := hts (.fieldLink RX6 12 "PierRings" "harbour" "LPierRings$Harbour;") (List.mem_of_getElem? (i := 1) rfl)
  have w2 := hts (.fieldLink RX6 56 "PierRings" "line" "LPierRings$Line;") (List.mem_of_getElem? (i := 2) rfl)
  have w3 := hts (.fieldLink RX6 97 "PierRings$Harbour" "berths" "[I") (List.mem_of_getElem? (i := 3) rfl)
  have w4 := hts (.fieldLink RX6 101 "PierRings$Harbour" "opened" "[Z") (List.mem_of_getElem? (i := 4) rfl)
  have w5 := hts (.fieldLink RX6 252 "PierRings$Harbour" "barges" "I") (List.mem_of_getElem? (i := 5) rfl)
  have w6 := hts (.fieldLink RX6 26 "PierRings" "moorings" "LPierRings$Moorings;") (List.mem_of_getElem? (i := 6) rfl)
  have w7 := hts (.fieldLink RX6 153 "PierRings$Moorings" "liesAt" "[I") (List.mem_of_getElem? (i := 7) rfl)
  have w8 := hts (.fieldLink RX6 255 "PierRings$Line" "length" "I") (List.mem_of_getElem? (i := 8) rfl)
  have hS : va_S (WA 93 ad) s.heap s.heap [] := va_S.rf
  have hfr : entryFrame m args 4 = F0 m 0 ((lg_sl [.ref (ad 0), .int a1] ++ List.replicate (4 - (lg_sl [.ref (ad 0), .int a1]).length) Slot.unset).toArray) [] := by rw [hargs]; exact lg_entry_eq _ _ _
  rw [hfr]
  have hl := lv_entry ([.ref (ad 0), .int a1]) (n := 4) (Nat.le_of_ble_eq_true rfl)
  generalize (lg_sl [.ref (ad 0), .int a1] ++ List.replicate (4 - (lg_sl [.ref (ad 0), .int a1]).length) Slot.unset).toArray = ls at hl ⊢
  have hl : lv_has ls 4 [(0, .ref (ad 0)), (1, .int a1)] := hl
  clear hfr hargs B
  show W p l e rmX6_tell s m args below meth c s.heap [] 0 0 (MQ below (Qiw (dC, dI) 93 ad (layX ad cy) res.1 res.2) args s 0 0 (WA 93 ad)) (F0 m 0 ls [])
  have kB141 : ∀ (σ : St), fX6_tell_B141 σ = some res → ∀ (H : Heap) (locs : List Loc), va_P (dC, dI) vwCl (wd 93 ad (layX ad cy) σ) H → va_S (WA 93 ad) s.heap H locs → ∀ (ls : Array Slot), lv_has ls 4 [(0, .ref (ad 0))] → W p l e rmX6_tell s m args below meth c H locs 0 0 (MQ below (Qiw (dC, dI) 93 ad (layX ad cy) res.1 res.2) args s 0 0 (WA 93 ad)) (F0 m 141 ls []) := by
    intro σ hf H locs hP hS ls hl
    unfold fX6_tell_B141 at hf
    refine lv_aload_n hx hb dX6_tell_141 rfl (lv_at hl 0 rfl) ?_
    refine xt_get (ci := 6) (C := RX6) (T := TX6) (n := 12) (v := .ref (ad 5)) hx hb hts iX6_tell_X6 hown hK hP 0 (by decide) (LX6_obj ad cy _) rfl 8 (by decide) w2 rfl dX6_tell_142 ?_
    refine xt_get (ci := 3) (C := RX3) (T := TX3) (n := 2) (v := .int (σ 5 1)) hx hb hts iX6_tell_X3 hown hK hP 5 (by decide) (LX3_obj ad cy _) rfl 1 (by decide) w8 rfl dX6_tell_145 ?_
    exact xt_iret hx hb hr hP hS (rs_1 hf) (rs_2 hf) dX6_tell_148 hlocks
  have loop88 : ∀ (x1 : Int32) (n88 : Nat) (σ : St) (x2 : Int32) (x3 : Int32), fX6_tell_L88 x1 (fun σ => fX6_tell_B141 σ) n88 σ x2 x3 = some res → ∀ (H : Heap) (locs : List Loc), va_P (dC, dI) vwCl (wd 93 ad (layX ad cy) σ) H → va_S (WA 93 ad) s.heap H locs → ∀ (ls : Array Slot), lv_has ls 4 [(0, .ref (ad 0)), (1, .int x1), (2, .int x2), (3, .int x3)] → W p l e rmX6_tell s m args below meth c H locs 0 0 (MQ below (Qiw (dC, dI) 93 ad (layX ad cy) res.1 res.2) args s 0 0 (WA 93 ad)) (F0 m 88 ls []) := by
    intro x1 n88
    induction n88 with
    | zero => intro σ x2 x3 hf; simp [fX6_tell_L88] at hf
    | succ n88 ih88 =>
      intro σ x2 x3 hf H locs hP hS ls hl
      rw [fX6_tell_L88] at hf
      refine lv_iload_n hx hb dX6_tell_88 rfl (lv_at hl 3 rfl) ?_
      refine lv_aload_n hx hb dX6_tell_89 rfl (lv_at hl 0 rfl) ?_
      refine xt_get (ci := 6) (C := RX6) (T := TX6) (n := 12) (v := .ref (ad 33)) hx hb hts iX6_tell_X6 hown hK hP 0 (by decide) (LX6_obj ad cy _) rfl 0 (by decide) w1 rfl dX6_tell_90 ?_
      refine xt_get (ci := 1) (C := RX1) (T := TX1) (n := 8) (v := .int (σ 33 5)) hx hb hts iX6_tell_X1 hown hK hP 33 (by decide) (LX1_obj ad cy 0 (by decide) _) rfl 5 (by decide) w5 rfl dX6_tell_93 ?_
      refine lv_icmp_ge (tgt := 141) hx hb dX6_tell_96 (by decide) (fun c1 => ?_) (fun c1 => ?_)
      · have hf := (if_pos c1).symm.trans hf
        exact kB141 σ hf H locs hP hS ls (lv_sub hl [0] rfl)
      · have hf := (if_neg c1).symm.trans hf
        refine lv_aload_n hx hb dX6_tell_99 rfl (lv_at hl 0 rfl) ?_
        refine xt_get (ci := 6) (C := RX6) (T := TX6) (n := 12) (v := .ref (ad 7)) hx hb hts iX6_tell_X6 hown hK hP 0 (by decide) (LX6_obj ad cy _) rfl 2 (by decide) w6 rfl dX6_tell_100 ?_
        refine xt_get (ci := 4) (C := RX4) (T := TX4) (n := 9) (v := .ref (ad 9)) hx hb hts iX6_tell_X4 hown hK hP 7 (by decide) (LX4_obj ad cy _) rfl 1 (by decide) w7 rfl dX6_tell_103 ?_
        refine lv_iload_n hx hb dX6_tell_106 rfl (lv_at hl 3 rfl) ?_
        obtain ⟨g2, hf⟩ := gd_some hf
        refine xt_iald hx hb hK hP 9 (by decide) 0 (LX4_liesAt ad cy _) rfl g2 dX6_tell_107 ?_
        refine lv_iload_n hx hb dX6_tell_108 rfl (lv_at hl 1 rfl) ?_
        refine lv_icmp_ne (tgt := 135) hx hb dX6_tell_109 (by decide) (fun c3 => ?_) (fun c3 => ?_)
        · have hf := (if_neg c3).symm.trans hf
          obtain ⟨v4, ev4⟩ : ∃ y : Int32, y = x3 + 1 := ⟨_, rfl⟩
          have hf := nm_to hf ev4
          refine lv_iinc (v := v4) (lv' := [(3, .int v4), (0, .ref (ad 0)), (1, .int x1), (2, .int x2)]) hx hb dX6_tell_135 hl (k := 3) rfl (by rw [ev4]; rfl) (by decide) rfl (fun ls hl => ?_)
          refine lv_goto (tgt := 88) hx hb dX6_tell_138 (by decide) ?_
          exact ih88 σ x2 v4 hf H locs hP hS ls (lv_sub hl [1, 2, 3, 0] rfl)
        · have hf := (if_pos c3).symm.trans hf
          refine lv_iload_n hx hb dX6_tell_112 rfl (lv_at hl 2 rfl) ?_
          refine lv_if_ne (tgt := 125) hx hb dX6_tell_113 (by decide) (fun c5 => ?_) (fun c5 => ?_)
          · have hf := (if_neg c5).symm.trans hf
            refine lv_aload_n hx hb dX6_tell_125 rfl (lv_at hl 0 rfl) ?_
            refine xt_get (ci := 6) (C := RX6) (T := TX6) (n := 12) (v := .ref (ad 5)) hx hb hts iX6_tell_X6 hown hK hP 0 (by decide) (LX6_obj ad cy _) rfl 8 (by decide) w2 rfl dX6_tell_126 ?_
            refine lv_iload_n hx hb dX6_tell_129 rfl (lv_at hl 3 rfl) ?_
            obtain ⟨r6, qr6, hf⟩ := bd_some hf
            refine xt_callVv (As := [.int x3]) (rest := []) (C := RX3) (ci := 3) ⟨hx, hb, hml, hown, hts⟩ 5 (mX3_putNumber l dC dI ad cy hJ σ x3 r6 qr6) (cwV 1 hts gX6_tell_X3_putNumber rfl rfl rfl dmX3_putNumber ⟨Nat.le_of_ble_eq_true rfl, Nat.le_of_ble_eq_true rfl⟩) hK hP hS (by decide) (LX3_obj ad cy _) rfl rfl rfl hl.1 (Nat.le_of_ble_eq_true rfl) ⟨Nat.zero_le _, Nat.zero_le _⟩ dX6_tell_130 (fun H locs hP hS => ?_)
            refine lv_iconst (v := 0) hx hb dX6_tell_133 (by decide) ?_
            refine lv_istore_n (lv' := [(2, .int 0), (0, .ref (ad 0)), (1, .int x1), (3, .int x3)]) hx hb dX6_tell_134 rfl hl (by decide) rfl (fun ls hl => ?_)
            obtain ⟨v7, ev7⟩ : ∃ y : Int32, y = x3 + 1 := ⟨_, rfl⟩
            have hf := nm_to hf ev7
            refine lv_iinc (v := v7) (lv' := [(3, .int v7), (2, .int 0), (0, .ref (ad 0)), (1, .int x1)]) hx hb dX6_tell_135 hl (k := 3) rfl (by rw [ev7]; rfl) (by decide) rfl (fun ls hl => ?_)
            refine lv_goto (tgt := 88) hx hb dX6_tell_138 (by decide) ?_
            exact ih88 r6 0 v7 hf H locs hP hS ls (lv_sub hl [2, 3, 1, 0] rfl)
          · have hf := (if_pos c5).symm.trans hf
            refine lv_aload_n hx hb dX6_tell_116 rfl (lv_at hl 0 rfl) ?_
            refine xt_get (ci := 6) (C := RX6) (T := TX6) (n := 12) (v := .ref (ad 5)) hx hb hts iX6_tell_X6 hown hK hP 0 (by decide) (LX6_obj ad cy _) rfl 8 (by decide) w2 rfl dX6_tell_117 ?_
            refine lv_bipush (v := 44) hx hb dX6_tell_120 (by decide) ?_
            obtain ⟨r8, qr8, hf⟩ := bd_some hf
            refine xt_callVv (As := [.int 44]) (rest := []) (C := RX3) (ci := 3) ⟨hx, hb, hml, hown, hts⟩ 5 (mX3_put l dC dI ad cy hJ σ 44 r8 qr8) (cwV 1 hts gX6_tell_X3_put rfl rfl rfl dmX3_put ⟨Nat.le_of_ble_eq_true rfl, Nat.le_of_ble_eq_true rfl⟩) hK hP hS (by decide) (LX3_obj ad cy _) rfl rfl rfl hl.1 (Nat.le_of_ble_eq_true rfl) ⟨Nat.zero_le _, Nat.zero_le _⟩ dX6_tell_122 (fun H locs hP hS => ?_)
            refine lv_aload_n hx hb dX6_tell_125 rfl (lv_at hl 0 rfl) ?_
            refine xt_get (ci := 6) (C := RX6) (T := TX6) (n := 12) (v := .ref (ad 5)) hx hb hts iX6_tell_X6 hown hK hP 0 (by decide) (LX6_obj ad cy _) rfl 8 (by decide) w2 rfl dX6_tell_126 ?_
            refine lv_iload_n hx hb dX6_tell_129 rfl (lv_at hl 3 rfl) ?_
            obtain ⟨r9, qr9, hf⟩ := bd_some hf
            refine xt_callVv (As := [.int x3]) (rest := []) (C := RX3) (ci := 3) ⟨hx, hb, hml, hown, hts⟩ 5 (mX3_putNumber l dC dI ad cy hJ r8 x3 r9 qr9) (cwV 1 hts gX6_tell_X3_putNumber rfl rfl rfl dmX3_putNumber ⟨Nat.le_of_ble_eq_true rfl, Nat.le_of_ble_eq_true rfl⟩) hK hP hS (by decide) (LX3_obj ad cy _) rfl rfl rfl hl.1 (Nat.le_of_ble_eq_true rfl) ⟨Nat.zero_le _, Nat.zero_le _⟩ dX6_tell_130 (fun H locs hP hS => ?_)
            refine lv_iconst (v := 0) hx hb dX6_tell_133 (by decide) ?_
            refine lv_istore_n (lv' := [(2, .int 0), (0, .ref (ad 0)), (1, .int x1), (3, .int x3)]) hx hb dX6_tell_134 rfl hl (by decide) rfl (fun ls hl => ?_)
            obtain ⟨v10, ev10⟩ : ∃ y : Int32, y = x3 + 1 := ⟨_, rfl⟩
            have hf := nm_to hf ev10
            refine lv_iinc (v := v10) (lv' := [(3, .int v10), (2, .int 0), (0, .ref (ad 0)), (1, .int x1)]) hx hb dX6_tell_135 hl (k := 3) rfl (by rw [ev10]; rfl) (by decide) rfl (fun ls hl => ?_)
            refine lv_goto (tgt := 88) hx hb dX6_tell_138 (by decide) ?_
            exact ih88 r9 0 v10 hf H locs hP hS ls (lv_sub hl [2, 3, 1, 0] rfl)
  have kB75 : ∀ (σ : St) (x1 : Int32), fX6_tell_B75 σ x1 = some res → ∀ (H : Heap) (locs : List Loc), va_P (dC, dI) vwCl (wd 93 ad (layX ad cy) σ) H → va_S (WA 93 ad) s.heap H locs → ∀ (ls : Array Slot), lv_has ls 4 [(0, .ref (ad 0)), (1, .int x1)] → W p l e rmX6_tell s m args below meth c H locs 0 0 (MQ below (Qiw (dC, dI) 93 ad (layX ad cy) res.1 res.2) args s 0 0 (WA 93 ad)) (F0 m 75 ls []) := by
    intro σ x1 hf H locs hP hS ls hl
    unfold fX6_tell_B75 at hf
    refine lv_aload_n hx hb dX6_tell_75 rfl (lv_at hl 0 rfl) ?_
    refine xt_get (ci := 6) (C := RX6) (T := TX6) (n := 12) (v := .ref (ad 5)) hx hb hts iX6_tell_X6 hown hK hP 0 (by decide) (LX6_obj ad cy _) rfl 8 (by decide) w2 rfl dX6_tell_76 ?_
    refine lv_bipush (v := 58) hx hb dX6_tell_79 (by decide) ?_
    obtain ⟨r11, qr11, hf⟩ := bd_some hf
    refine xt_callVv (As := [.int 58]) (rest := []) (C := RX3) (ci := 3) ⟨hx, hb, hml, hown, hts⟩ 5 (mX3_put l dC dI ad cy hJ σ 58 r11 qr11) (cwV 1 hts gX6_tell_X3_put rfl rfl rfl dmX3_put ⟨Nat.le_of_ble_eq_true rfl, Nat.le_of_ble_eq_true rfl⟩) hK hP hS (by decide) (LX3_obj ad cy _) rfl rfl rfl hl.1 (Nat.le_of_ble_eq_true rfl) ⟨Nat.zero_le _, Nat.zero_le _⟩ dX6_tell_81 (fun H locs hP hS => ?_)
    refine lv_iconst (v := 1) hx hb dX6_tell_84 (by decide) ?_
    refine lv_istore_n (lv' := [(2, .int 1), (0, .ref (ad 0)), (1, .int x1)]) hx hb dX6_tell_85 rfl hl (by decide) rfl (fun ls hl => ?_)
    refine lv_iconst (v := 0) hx hb dX6_tell_86 (by decide) ?_
    refine lv_istore_n (lv' := [(3, .int 0), (2, .int 1), (0, .ref (ad 0)), (1, .int x1)]) hx hb dX6_tell_87 rfl hl (by decide) rfl (fun ls hl => ?_)
    exact loop88 x1 1000 r11 1 0 hf H locs hP hS ls (lv_sub hl [2, 3, 1, 0] rfl)
  unfold fX6_tell at hf
  obtain ⟨H, eH⟩ : ∃ H : Heap, H = s.heap := ⟨_, rfl⟩
  rw [← eH] at hP
  have hS : va_S (WA 93 ad) s.heap H [] := by rw [eH]; exact hS
  suffices K : W p l e rmX6_tell s m args below meth c H [] 0 0 (MQ below (Qiw (dC, dI) 93 ad (layX ad cy) res.1 res.2) args s 0 0 (WA 93 ad)) (F0 m 0 ls []) by rw [eH] at K; exact K
  clear eH
  obtain ⟨locs, elocs⟩ : ∃ z : List Loc, z = [] := ⟨_, rfl⟩
  rw [← elocs] at hS ⊢
  refine lv_aload_n hx hb dX6_tell_0 rfl (lv_at hl 0 rfl) ?_
  refine xt_get (ci := 6) (C := RX6) (T := TX6) (n := 12) (v := .ref (ad 33)) hx hb hts iX6_tell_X6 hown hK hP 0 (by decide) (LX6_obj ad cy _) rfl 0 (by decide) w1 rfl dX6_tell_1 ?_
  refine lv_iload_n hx hb dX6_tell_4 rfl (lv_at hl 1 rfl) ?_
  obtain ⟨r12, qr12, hf⟩ := bd_some hf
  refine xt_callVi (As := [.int a1]) (rest := []) (C := RX1) (ci := 1) ⟨hx, hb, hml, hown, hts⟩ 33 (mX1_hasPier l dC dI ad cy hJ 0 (by decide) σ a1 r12 qr12) (cwV 1 hts gX6_tell_X1_hasPier rfl rfl rfl dmX1_hasPier ⟨Nat.le_of_ble_eq_true rfl, Nat.le_of_ble_eq_true rfl⟩) hK hP hS (by decide) (LX1_obj ad cy 0 (by decide) _) rfl rfl rfl hl.1 (Nat.le_of_ble_eq_true rfl) ⟨Nat.zero_le _, Nat.zero_le _⟩ dX6_tell_5 (fun H locs hP hS => ?_)
  refine lv_if_ne (tgt := 14) hx hb dX6_tell_8 (by decide) (fun c13 => ?_) (fun c13 => ?_)
  · have hf := (if_neg c13).symm.trans hf
    refine lv_aload_n hx hb dX6_tell_14 rfl (lv_at hl 0 rfl) ?_
    refine xt_get (ci := 6) (C := RX6) (T := TX6) (n := 12) (v := .ref (ad 5)) hx hb hts iX6_tell_X6 hown hK hP 0 (by decide) (LX6_obj ad cy _) rfl 8 (by decide) w2 rfl dX6_tell_15 ?_
    obtain ⟨r14, qr14, hf⟩ := bd_some hf
    refine xt_callVv (As := []) (rest := []) (C := RX3) (ci := 3) ⟨hx, hb, hml, hown, hts⟩ 5 (mX3_empty l dC dI ad cy hJ σ r14 qr14) (cwV 0 hts gX6_tell_X3_empty rfl rfl rfl dmX3_empty ⟨Nat.le_of_ble_eq_true rfl, Nat.le_of_ble_eq_true rfl⟩) hK hP hS (by decide) (LX3_obj ad cy _) rfl rfl rfl hl.1 (Nat.le_of_ble_eq_true rfl) ⟨Nat.zero_le _, Nat.zero_le _⟩ dX6_tell_18 (fun H locs hP hS => ?_)
    refine lv_aload_n hx hb dX6_tell_21 rfl (lv_at hl 0 rfl) ?_
    refine xt_get (ci := 6) (C := RX6) (T := TX6) (n := 12) (v := .ref (ad 5)) hx hb hts iX6_tell_X6 hown hK hP 0 (by decide) (LX6_obj ad cy _) rfl 8 (by decide) w2 rfl dX6_tell_22 ?_
    refine lv_iload_n hx hb dX6_tell_25 rfl (lv_at hl 1 rfl) ?_
    obtain ⟨r15, qr15, hf⟩ := bd_some hf
    refine xt_callVv (As := [.int a1]) (rest := []) (C := RX3) (ci := 3) ⟨hx, hb, hml, hown, hts⟩ 5 (mX3_putNumber l dC dI ad cy hJ r14 a1 r15 qr15) (cwV 1 hts gX6_tell_X3_putNumber rfl rfl rfl dmX3_putNumber ⟨Nat.le_of_ble_eq_true rfl, Nat.le_of_ble_eq_true rfl⟩) hK hP hS (by decide) (LX3_obj ad cy _) rfl rfl rfl hl.1 (Nat.le_of_ble_eq_true rfl) ⟨Nat.zero_le _, Nat.zero_le _⟩ dX6_tell_26 (fun H locs hP hS => ?_)
    refine lv_aload_n hx hb dX6_tell_29 rfl (lv_at hl 0 rfl) ?_
    refine xt_get (ci := 6) (C := RX6) (T := TX6) (n := 12) (v := .ref (ad 5)) hx hb hts iX6_tell_X6 hown hK hP 0 (by decide) (LX6_obj ad cy _) rfl 8 (by decide) w2 rfl dX6_tell_30 ?_
    refine lv_bipush (v := 42) hx hb dX6_tell_33 (by decide) ?_
    obtain ⟨r16, qr16, hf⟩ := bd_some hf
    refine xt_callVv (As := [.int 42]) (rest := []) (C := RX3) (ci := 3) ⟨hx, hb, hml, hown, hts⟩ 5 (mX3_put l dC dI ad cy hJ r15 42 r16 qr16) (cwV 1 hts gX6_tell_X3_put rfl rfl rfl dmX3_put ⟨Nat.le_of_ble_eq_true rfl, Nat.le_of_ble_eq_true rfl⟩) hK hP hS (by decide) (LX3_obj ad cy _) rfl rfl rfl hl.1 (Nat.le_of_ble_eq_true rfl) ⟨Nat.zero_le _, Nat.zero_le _⟩ dX6_tell_35 (fun H locs hP hS => ?_)
    refine lv_aload_n hx hb dX6_tell_38 rfl (lv_at hl 0 rfl) ?_
    refine xt_get (ci := 6) (C := RX6) (T := TX6) (n := 12) (v := .ref (ad 5)) hx hb hts iX6_tell_X6 hown hK hP 0 (by decide) (LX6_obj ad cy _) rfl 8 (by decide) w2 rfl dX6_tell_39 ?_
    refine lv_aload_n hx hb dX6_tell_42 rfl (lv_at hl 0 rfl) ?_
    refine xt_get (ci := 6) (C := RX6) (T := TX6) (n := 12) (v := .ref (ad 33)) hx hb hts iX6_tell_X6 hown hK hP 0 (by decide) (LX6_obj ad cy _) rfl 0 (by decide) w1 rfl dX6_tell_43 ?_
    refine xt_get (ci := 1) (C := RX1) (T := TX1) (n := 8) (v := .ref (ad 34)) hx hb hts iX6_tell_X1 hown hK hP 33 (by decide) (LX1_obj ad cy 0 (by decide) _) rfl 0 (by decide) w3 rfl dX6_tell_46 ?_
    refine lv_iload_n hx hb dX6_tell_49 rfl (lv_at hl 1 rfl) ?_
    obtain ⟨g17, hf⟩ := gd_some hf
    refine xt_iald hx hb hK hP 34 (by decide) 0 (LX1_berths ad cy 0 (by decide) _) rfl g17 dX6_tell_50 ?_
    obtain ⟨r18, qr18, hf⟩ := bd_some hf
    refine xt_callVv (As := [.int (r16 34 a1.toNatClampNeg)]) (rest := []) (C := RX3) (ci := 3) ⟨hx, hb, hml, hown, hts⟩ 5 (mX3_putNumber l dC dI ad cy hJ r16 (r16 34 a1.toNatClampNeg) r18 qr18) (cwV 1 hts gX6_tell_X3_putNumber rfl rfl rfl dmX3_putNumber ⟨Nat.le_of_ble_eq_true rfl, Nat.le_of_ble_eq_true rfl⟩) hK hP hS (by decide) (LX3_obj ad cy _) rfl rfl rfl hl.1 (Nat.le_of_ble_eq_true rfl) ⟨Nat.zero_le _, Nat.zero_le _⟩ dX6_tell_51 (fun H locs hP hS => ?_)
    refine lv_aload_n hx hb dX6_tell_54 rfl (lv_at hl 0 rfl) ?_
    refine xt_get (ci := 6) (C := RX6) (T := TX6) (n := 12) (v := .ref (ad 33)) hx hb hts iX6_tell_X6 hown hK hP 0 (by decide) (LX6_obj ad cy _) rfl 0 (by decide) w1 rfl dX6_tell_55 ?_
    refine xt_get (ci := 1) (C := RX1) (T := TX1) (n := 8) (v := .ref (ad 35)) hx hb hts iX6_tell_X1 hown hK hP 33 (by decide) (LX1_obj ad cy 0 (by decide) _) rfl 1 (by decide) w4 rfl dX6_tell_58 ?_
    refine lv_iload_n hx hb dX6_tell_61 rfl (lv_at hl 1 rfl) ?_
    obtain ⟨g19, hf⟩ := gd_some hf
    refine xt_zald hx hb hK hP 35 (by decide) 1 (LX1_opened ad cy 0 (by decide) _) rfl g19 dX6_tell_62 ?_
    refine lv_if_ne (tgt := 75) hx hb dX6_tell_63 (by decide) (fun c20 => ?_) (fun c20 => ?_)
    · have hf := (if_neg c20).symm.trans hf
      exact kB75 r18 a1 hf H locs hP hS ls (lv_sub hl [0, 1] rfl)
    · have hf := (if_pos c20).symm.trans hf
      refine lv_aload_n hx hb dX6_tell_66 rfl (lv_at hl 0 rfl) ?_
      refine xt_get (ci := 6) (C := RX6) (T := TX6) (n := 12) (v := .ref (ad 5)) hx hb hts iX6_tell_X6 hown hK hP 0 (by decide) (LX6_obj ad cy _) rfl 8 (by decide) w2 rfl dX6_tell_67 ?_
      refine lv_bipush (v := 120) hx hb dX6_tell_70 (by decide) ?_
      obtain ⟨r21, qr21, hf⟩ := bd_some hf
      refine xt_callVv (As := [.int 120]) (rest := []) (C := RX3) (ci := 3) ⟨hx, hb, hml, hown, hts⟩ 5 (mX3_put l dC dI ad cy hJ r18 120 r21 qr21) (cwV 1 hts gX6_tell_X3_put rfl rfl rfl dmX3_put ⟨Nat.le_of_ble_eq_true rfl, Nat.le_of_ble_eq_true rfl⟩) hK hP hS (by decide) (LX3_obj ad cy _) rfl rfl rfl hl.1 (Nat.le_of_ble_eq_true rfl) ⟨Nat.zero_le _, Nat.zero_le _⟩ dX6_tell_72 (fun H locs hP hS => ?_)
      exact kB75 r21 a1 hf H locs hP hS ls (lv_sub hl [0, 1] rfl)
  · have hf := (if_pos c13).symm.trans hf
    refine lv_bipush (v := (-11)) hx hb dX6_tell_11 (by decide) ?_
    exact xt_iret hx hb hr hP hS (rs_1 hf) (rs_2 hf) dX6_tell_13 hlocks
def fX6_tellBarge (σ : St) (a1 : Int32) : Option (Int32 × St) :=
  bd (fX1_hasBarge 0 σ a1) fun r1 => if r1 = 0 then (some ((-11), σ)) else (bd (fX3_empty σ) fun r3 => bd (fX3_putNumber r3 a1) fun r4 => bd (fX3_put r4 61) fun r5 => gd (okI a1 24) <| bd (fX3_putNumber r5 (r5 36 a1.toNatClampNeg)) fun r7 => bd (fX3_put r7 64) fun r8 => bd (fX1_pointOf 0 r8 a1) fun r9 => bd (fX3_putNumber r8 r9) fun r10 => bd (fX3_put r10 43) fun r11 => gd (okI a1 24) <| bd (fX3_putNumber r11 (r11 37 a1.toNatClampNeg)) fun r13 => bd (fX3_put r13 62) fun r14 => gd (okI a1 24) <| if (r14 9 a1.toNatClampNeg) = (-15 : Int32) then (bd (fX3_put r14 45) fun r19 => some ((r19 5 1), r19)) else (gd (okI a1 24) <| bd (fX3_putNumber r14 (r14 9 a1.toNatClampNeg)) fun r18 => some ((r18 5 1), r18)))
abbrev rmX6_tellBarge : Room := { frames := 2, cells := 0, slots := 0, locals := 45 }
theorem dmX6_tellBarge : yX6_tellBarge.cls = RX6 ∧ yX6_tellBarge.cls ≠ "java/lang/invoke/MethodHandle" ∧ yX6_tellBarge.cls ≠ "java/lang/invoke/VarHandle" ∧ (parseMethodDescriptor yX6_tellBarge.desc).map (fun d => d.parameters.length) = some 1 := by decide +kernel
theorem iX6_tellBarge_X1 : ∀ w ∈ wsX10, w ∈ wsX6_tellBarge := fun w h => List.mem_cons_of_mem _ (List.mem_append_left _ (List.mem_append_left _ (List.mem_append_right _ (h))))
theorem iX6_tellBarge_X3 : ∀ w ∈ wsX30, w ∈ wsX6_tellBarge := fun w h => List.mem_cons_of_mem _ (List.mem_append_right _ (h))
theorem iX6_tellBarge_X4 : ∀ w ∈ wsX40, w ∈ wsX6_tellBarge := fun w h => List.mem_cons_of_mem _ (List.mem_append_left _ (List.mem_append_right _ (h)))
theorem iX6_tellBarge_X6 : ∀ w ∈ wsX60, w ∈ wsX6_tellBarge := fun w h => List.mem_cons_of_mem _ (List.mem_append_left _ (List.mem_append_left _ (List.mem_append_left _ (List.mem_append_right _ (h)))))
set_option maxHeartbeats 8000000 in
set_option maxRecDepth 100000 in
theorem mX6_tellBarge (l : Launch) (dC : Nat → ClassId) (dI : Nat → Nat → Nat) (ad : Nat → Nat) (cy : Nat → ClassId) (hJ : WJ 93 ad) (σ : St) (a1 : Int32) (res : (Int32 × St)) (hf : fX6_tellBarge σ a1 = some res) : CMi l yX6_tellBarge wsX6_tellBarge rmX6_tellBarge (dC, dI) (tysX cy) 93 ad (layX ad cy) [.ref (ad 0), .int a1] σ res.1 res.2 := by
  refine Met.ofW (cc := cX6_tellBarge) (maxL := 2) (ret := (some .int)) (by decide) rfl ?_
  intro p e s m args below meth c s₁ B hml hv
  obtain ⟨hargs, hP, hK⟩ := hv
  have hx := B.exec
  have hb := B.bytes
  have hr := B.returns
  have hts := atoms_spec (ws := wsX6_tellBarge) B.pre
  have hown : s.vm.findClass RX6 = some m.cls := findClass_of_methodNamed B.named
  have hlocks := B.notSynchronized
  have w1 := hts (.fieldLink RX6 12 "PierRings" "harbour" "LPierRings$Harbour;") (List.mem_of_getElem? (i := 1) rfl)
  have w2 := hts (.fieldLink RX6 56 "PierRings" "line" "LPierRings$Line;") (List.mem_of_getElem? (i := 2) rfl)
  have w3 := hts (.fieldLink RX6 144 "PierRings$Harbour" "names" "[I") (List.mem_of_getElem? (i := 3) rfl)
  have w4 := hts (.fieldLink RX6 147 "PierRings$Harbour" "tons" "[I") (List.mem_of_getElem? (i := 4) rfl)
  have w5 := hts (.fieldLink RX6 26 "PierRings" "moorings" "LPierRings$Moorings;") (List.mem_of_getElem? (i := 5) rfl)
  have w6 := hts (.fieldLink RX6 153 "PierRings$Moorings" "liesAt" "[I") (List.mem_of_getElem? (i := 6) rfl)
  have w7 := hts (.fieldLink RX6 255 "PierRings$Line" "length" "I") (List.mem_of_getElem? (i := 7) rfl)
  have hS : va_S (WA 93 ad) s.heap s.heap [] := va_S.rf
  have hfr : entryFrame m args 2 = F0 m 0 ((lg_sl [.ref (ad 0), .int a1] ++ List.replicate (2 - (lg_sl [.ref (ad 0), .int a1]).length) Slot.unset).toArray) [] := by rw [hargs]; exact lg_entry_eq _ _ _
  rw [hfr]
  have hl := lv_entry ([.ref (ad 0), .int a1]) (n := 2) (Nat.le_of_ble_eq_true rfl)
  generalize (lg_sl [.ref (ad 0), .int a1] ++ List.replicate (2 - (lg_sl [.ref (ad 0), .int a1]).length) Slot.unset).toArray = ls at hl ⊢
  have hl : lv_has ls 2 [(0, .ref (ad 0)), (1, .int a1)] := hl
  clear hfr hargs B
  show W p l e rmX6_tellBarge s m args below meth c s.heap [] 0 0 (MQ below (Qiw (dC, dI) 93 ad (layX ad cy) res.1 res.2) args s 0 0 (WA 93 ad)) (F0 m 0 ls [])
  unfold fX6_tellBarge at hf
  obtain ⟨H, eH⟩ : ∃ H : Heap, H = s.heap := ⟨_, rfl⟩
  rw [← eH] at hP
  have hS : va_S (WA 93 ad) s.heap H [] := by rw [eH]; exact hS
  suffices K : W p l e rmX6_tellBarge s m args below meth c H [] 0 0 (MQ below (Qiw (dC, dI) 93 ad (layX ad cy) res.1 res.2) args s 0 0 (WA 93 ad)) (F0 m 0 ls []) by rw [eH] at K; exact K
  clear eH
  obtain ⟨locs, elocs⟩ : ∃ z : List Loc, z = [] := ⟨_, rfl⟩
  rw [← elocs] at hS ⊢
  refine lv_aload_n hx hb dX6_tellBarge_0 rfl (lv_at hl 0 rfl) ?_
  refine xt_get (ci := 6) (C := RX6) (T := TX6) (n := 12) (v := .ref (ad 33)) hx hb hts iX6_tellBarge_X6 hown hK hP 0 (by decide) (LX6_obj ad cy _) rfl 0 (by decide) w1 rfl dX6_tellBarge_1 ?_
  refine lv_iload_n hx hb dX6_tellBarge_4 rfl (lv_at hl 1 rfl) ?_
  obtain ⟨r1, qr1, hf⟩ := bd_some hf
  refine xt_callVi (As := [.int a1]) (rest := []) (C := RX1) (ci := 1) ⟨hx, hb, hml, hown, hts⟩ 33 (mX1_hasBarge l dC dI ad cy hJ 0 (by decide) σ a1 r1 qr1) (cwV 1 hts gX6_tellBarge_X1_hasBarge rfl rfl rfl dmX1_hasBarge ⟨Nat.le_of_ble_eq_true rfl, Nat.le_of_ble_eq_true rfl⟩) hK hP hS (by decide) (LX1_obj ad cy 0 (by decide) _) rfl rfl rfl hl.1 (Nat.le_of_ble_eq_true rfl) ⟨Nat.zero_le _, Nat.zero_le _⟩ dX6_tellBarge_5 (fun H locs hP hS => ?_)
  refine lv_if_ne (tgt := 14) hx hb dX6_tellBarge_8 (by decide) (fun c2 => ?_) (fun c2 => ?_)
  · have hf := (if_neg c2).symm.trans hf
    refine lv_aload_n hx hb dX6_tellBarge_14 rfl (lv_at hl 0 rfl) ?_
    refine xt_get (ci := 6) (C := RX6) (T := TX6) (n := 12) (v := .ref (ad 5)) hx hb hts iX6_tellBarge_X6 hown hK hP 0 (by decide) (LX6_obj ad cy _) rfl 8 (by decide) w2 rfl dX6_tellBarge_15 ?_
    obtain ⟨r3, qr3, hf⟩ := bd_some hf
    refine xt_callVv (As := []) (rest := []) (C := RX3) (ci := 3) ⟨hx, hb, hml, hown, hts⟩ 5 (mX3_empty l dC dI ad cy hJ σ r3 qr3) (cwV 0 hts gX6_tellBarge_X3_empty rfl rfl rfl dmX3_empty ⟨Nat.le_of_ble_eq_true rfl, Nat.le_of_ble_eq_true rfl⟩) hK hP hS (by decide) (LX3_obj ad cy _) rfl rfl rfl hl.1 (Nat.le_of_ble_eq_true rfl) ⟨Nat.zero_le _, Nat.zero_le _⟩ dX6_tellBarge_18 (fun H locs hP hS => ?_)
    refine lv_aload_n hx hb dX6_tellBarge_21 rfl (lv_at hl 0 rfl) ?_
    refine xt_get (ci := 6) (C := RX6) (T := TX6) (n := 12) (v := .ref (ad 5)) hx hb hts iX6_tellBarge_X6 hown hK hP 0 (by decide) (LX6_obj ad cy _) rfl 8 (by decide) w2 rfl dX6_tellBarge_22 ?_
    refine lv_iload_n hx hb dX6_tellBarge_25 rfl (lv_at hl 1 rfl) ?_
    obtain ⟨r4, qr4, hf⟩ := bd_some hf
    refine xt_callVv (As := [.int a1]) (rest := []) (C := RX3) (ci := 3) ⟨hx, hb, hml, hown, hts⟩ 5 (mX3_putNumber l dC dI ad cy hJ r3 a1 r4 qr4) (cwV 1 hts gX6_tellBarge_X3_putNumber rfl rfl rfl dmX3_putNumber ⟨Nat.le_of_ble_eq_true rfl, Nat.le_of_ble_eq_true rfl⟩) hK hP hS (by decide) (LX3_obj ad cy _) rfl rfl rfl hl.1 (Nat.le_of_ble_eq_true rfl) ⟨Nat.zero_le _, Nat.zero_le _⟩ dX6_tellBarge_26 (fun H locs hP hS => ?_)
    refine lv_aload_n hx hb dX6_tellBarge_29 rfl (lv_at hl 0 rfl) ?_
    refine xt_get (ci := 6) (C := RX6) (T := TX6) (n := 12) (v := .ref (ad 5)) hx hb hts iX6_tellBarge_X6 hown hK hP 0 (by decide) (LX6_obj ad cy _) rfl 8 (by decide) w2 rfl dX6_tellBarge_30 ?_
    refine lv_bipush (v := 61) hx hb dX6_tellBarge_33 (by decide) ?_
    obtain ⟨r5, qr5, hf⟩ := bd_some hf
    refine xt_callVv (As := [.int 61]) (rest := []) (C := RX3) (ci := 3) ⟨hx, hb, hml, hown, hts⟩ 5 (mX3_put l dC dI ad cy hJ r4 61 r5 qr5) (cwV 1 hts gX6_tellBarge_X3_put rfl rfl rfl dmX3_put ⟨Nat.le_of_ble_eq_true rfl, Nat.le_of_ble_eq_true rfl⟩) hK hP hS (by decide) (LX3_obj ad cy _) rfl rfl rfl hl.1 (Nat.le_of_ble_eq_true rfl) ⟨Nat.zero_le _, Nat.zero_le _⟩ dX6_tellBarge_35 (fun H locs hP hS => ?_)
    refine lv_aload_n hx hb dX6_tellBarge_38 rfl (lv_at hl 0 rfl) ?_
    refine xt_get (ci := 6) (C := RX6) (T := TX6) (n := 12) (v := .ref (ad 5)) hx hb hts iX6_tellBarge_X6 hown hK hP 0 (by decide) (LX6_obj ad cy _) rfl 8 (by decide) w2 rfl dX6_tellBarge_39 ?_
    refine lv_aload_n hx hb dX6_tellBarge_42 rfl (lv_at hl 0 rfl) ?_
    refine xt_get (ci := 6) (C := RX6) (T := TX6) (n := 12) (v := .ref (ad 33)) hx hb hts iX6_tellBarge_X6 hown hK hP 0 (by decide) (LX6_obj ad cy _) rfl 0 (by decide) w1 rfl dX6_tellBarge_43 ?_
    refine xt_get (ci := 1) (C := RX1) (T := TX1) (n := 8) (v := .ref (ad 36)) hx hb hts iX6_tellBarge_X1 hown hK hP 33 (by decide) (LX1_obj ad cy 0 (by decide) _) rfl 2 (by decide) w3 rfl dX6_tellBarge_46 ?_
    refine lv_iload_n hx hb dX6_tellBarge_49 rfl (lv_at hl 1 rfl) ?_
    obtain ⟨g6, hf⟩ := gd_some hf
    refine xt_iald hx hb hK hP 36 (by decide) 0 (LX1_names ad cy 0 (by decide) _) rfl g6 dX6_tellBarge_50 ?_
    obtain ⟨r7, qr7, hf⟩ := bd_some hf
    refine xt_callVv (As := [.int (r5 36 a1.toNatClampNeg)]) (rest := []) (C := RX3) (ci := 3) ⟨hx, hb, hml, hown, hts⟩ 5 (mX3_putNumber l dC dI ad cy hJ r5 (r5 36 a1.toNatClampNeg) r7 qr7) (cwV 1 hts gX6_tellBarge_X3_putNumber rfl rfl rfl dmX3_putNumber ⟨Nat.le_of_ble_eq_true rfl, Nat.le_of_ble_eq_true rfl⟩) hK hP hS (by decide) (LX3_obj ad cy _) rfl rfl rfl hl.1 (Nat.le_of_ble_eq_true rfl) ⟨Nat.zero_le _, Nat.zero_le _⟩ dX6_tellBarge_51 (fun H locs hP hS => ?_)
    refine lv_aload_n hx hb dX6_tellBarge_54 rfl (lv_at hl 0 rfl) ?_
    refine xt_get (ci := 6) (C := RX6) (T := TX6) (n := 12) (v := .ref (ad 5)) hx hb hts iX6_tellBarge_X6 hown hK hP 0 (by decide) (LX6_obj ad cy _) rfl 8 (by decide) w2 rfl dX6_tellBarge_55 ?_
    refine lv_bipush (v := 64) hx hb dX6_tellBarge_58 (by decide) ?_
    obtain ⟨r8, qr8, hf⟩ := bd_some hf
    refine xt_callVv (As := [.int 64]) (rest := []) (C := RX3) (ci := 3) ⟨hx, hb, hml, hown, hts⟩ 5 (mX3_put l dC dI ad cy hJ r7 64 r8 qr8) (cwV 1 hts gX6_tellBarge_X3_put rfl rfl rfl dmX3_put ⟨Nat.le_of_ble_eq_true rfl, Nat.le_of_ble_eq_true rfl⟩) hK hP hS (by decide) (LX3_obj ad cy _) rfl rfl rfl hl.1 (Nat.le_of_ble_eq_true rfl) ⟨Nat.zero_le _, Nat.zero_le _⟩ dX6_tellBarge_60 (fun H locs hP hS => ?_)
    refine lv_aload_n hx hb dX6_tellBarge_63 rfl (lv_at hl 0 rfl) ?_
    refine xt_get (ci := 6) (C := RX6) (T := TX6) (n := 12) (v := .ref (ad 5)) hx hb hts iX6_tellBarge_X6 hown hK hP 0 (by decide) (LX6_obj ad cy _) rfl 8 (by decide) w2 rfl dX6_tellBarge_64 ?_
    refine lv_aload_n hx hb dX6_tellBarge_67 rfl (lv_at hl 0 rfl) ?_
    refine xt_get (ci := 6) (C := RX6) (T := TX6) (n := 12) (v := .ref (ad 33)) hx hb hts iX6_tellBarge_X6 hown hK hP 0 (by decide) (LX6_obj ad cy _) rfl 0 (by decide) w1 rfl dX6_tellBarge_68 ?_
    refine lv_iload_n hx hb dX6_tellBarge_71 rfl (lv_at hl 1 rfl) ?_
    obtain ⟨r9, qr9, hf⟩ := bd_some hf
    refine xt_callVi (As := [.int a1]) (rest := [.ref (ad 5)]) (C := RX1) (ci := 1) ⟨hx, hb, hml, hown, hts⟩ 33 (mX1_pointOf l dC dI ad cy hJ 0 (by decide) r8 a1 r9 qr9) (cwV 1 hts gX6_tellBarge_X1_pointOf rfl rfl rfl dmX1_pointOf ⟨Nat.le_of_ble_eq_true rfl, Nat.le_of_ble_eq_true rfl⟩) hK hP hS (by decide) (LX1_obj ad cy 0 (by decide) _) rfl rfl rfl hl.1 (Nat.le_of_ble_eq_true rfl) ⟨Nat.zero_le _, Nat.zero_le _⟩ dX6_tellBarge_72 (fun H locs hP hS => ?_)
    obtain ⟨r10, qr10, hf⟩ := bd_some hf
    refine xt_callVv (As := [.int r9]) (rest := []) (C := RX3) (ci := 3) ⟨hx, hb, hml, hown, hts⟩ 5 (mX3_putNumber l dC dI ad cy hJ r8 r9 r10 qr10) (cwV 1 hts gX6_tellBarge_X3_putNumber rfl rfl rfl dmX3_putNumber ⟨Nat.le_of_ble_eq_true rfl, Nat.le_of_ble_eq_true rfl⟩) hK hP hS (by decide) (LX3_obj ad cy _) rfl rfl rfl hl.1 (Nat.le_of_ble_eq_true rfl) ⟨Nat.zero_le _, Nat.zero_le _⟩ dX6_tellBarge_75 (fun H locs hP hS => ?_)
    refine lv_aload_n hx hb dX6_tellBarge_78 rfl (lv_at hl 0 rfl) ?_
    refine xt_get (ci := 6) (C := RX6) (T := TX6) (n := 12) (v := .ref (ad 5)) hx hb hts iX6_tellBarge_X6 hown hK hP 0 (by decide) (LX6_obj ad cy _) rfl 8 (by decide) w2 rfl dX6_tellBarge_79 ?_
    refine lv_bipush (v := 43) hx hb dX6_tellBarge_82 (by decide) ?_
    obtain ⟨r11, qr11, hf⟩ := bd_some hf
    refine xt_callVv (As := [.int 43]) (rest := []) (C := RX3) (ci := 3) ⟨hx, hb, hml, hown, hts⟩ 5 (mX3_put l dC dI ad cy hJ r10 43 r11 qr11) (cwV 1 hts gX6_tellBarge_X3_put rfl rfl rfl dmX3_put ⟨Nat.le_of_ble_eq_true rfl, Nat.le_of_ble_eq_true rfl⟩) hK hP hS (by decide) (LX3_obj ad cy _) rfl rfl rfl hl.1 (Nat.le_of_ble_eq_true rfl) ⟨Nat.zero_le _, Nat.zero_le _⟩ dX6_tellBarge_84 (fun H locs hP hS => ?_)
    refine lv_aload_n hx hb dX6_tellBarge_87 rfl (lv_at hl 0 rfl) ?_
    refine xt_get (ci := 6) (C := RX6) (T := TX6) (n := 12) (v := .ref (ad 5)) hx hb hts iX6_tellBarge_X6 hown hK hP 0 (by decide) (LX6_obj ad cy _) rfl 8 (by decide) w2 rfl dX6_tellBarge_88 ?_
    refine lv_aload_n hx hb dX6_tellBarge_91 rfl (lv_at hl 0 rfl) ?_
    refine xt_get (ci := 6) (C := RX6) (T := TX6) (n := 12) (v := .ref (ad 33)) hx hb hts iX6_tellBarge_X6 hown hK hP 0 (by decide) (LX6_obj ad cy _) rfl 0 (by decide) w1 rfl dX6_tellBarge_92 ?_
    refine xt_get (ci := 1) (C := RX1) (T := TX1) (n := 8) (v := .ref (ad 37)) hx hb hts iX6_tellBarge_X1 hown hK hP 33 (by decide) (LX1_obj ad cy 0 (by decide) _) rfl 3 (by decide) w4 rfl dX6_tellBarge_95 ?_
    refine lv_iload_n hx hb dX6_tellBarge_98 rfl (lv_at hl 1 rfl) ?_
    obtain ⟨g12, hf⟩ := gd_some hf
    refine xt_iald hx hb hK hP 37 (by decide) 0 (LX1_tons ad cy 0 (by decide) _) rfl g12 dX6_tellBarge_99 ?_
    obtain ⟨r13, qr13, hf⟩ := bd_some hf
    refine xt_callVv (As := [.int (r11 37 a1.toNatClampNeg)]) (rest := []) (C := RX3) (ci := 3) ⟨hx, hb, hml, hown, hts⟩ 5 (mX3_putNumber l dC dI ad cy hJ r11 (r11 37 a1.toNatClampNeg) r13 qr13) (cwV 1 hts gX6_tellBarge_X3_putNumber rfl rfl rfl dmX3_putNumber ⟨Nat.le_of_ble_eq_true rfl, Nat.le_of_ble_eq_true rfl⟩) hK hP hS (by decide) (LX3_obj ad cy _) rfl rfl rfl hl.1 (Nat.le_of_ble_eq_true rfl) ⟨Nat.zero_le _, Nat.zero_le _⟩ dX6_tellBarge_100 (fun H locs hP hS => ?_)
    refine lv_aload_n hx hb dX6_tellBarge_103 rfl (lv_at hl 0 rfl) ?_
    refine xt_get (ci := 6) (C := RX6) (T := TX6) (n := 12) (v := .ref (ad 5)) hx hb hts iX6_tellBarge_X6 hown hK hP 0 (by decide) (LX6_obj ad cy _) rfl 8 (by decide) w2 rfl dX6_tellBarge_104 ?_
    refine lv_bipush (v := 62) hx hb dX6_tellBarge_107 (by decide) ?_
    obtain ⟨r14, qr14, hf⟩ := bd_some hf
    refine xt_callVv (As := [.int 62]) (rest := []) (C := RX3) (ci := 3) ⟨hx, hb, hml, hown, hts⟩ 5 (mX3_put l dC dI ad cy hJ r13 62 r14 qr14) (cwV 1 hts gX6_tellBarge_X3_put rfl rfl rfl dmX3_put ⟨Nat.le_of_ble_eq_true rfl, Nat.le_of_ble_eq_true rfl⟩) hK hP hS (by decide) (LX3_obj ad cy _) rfl rfl rfl hl.1 (Nat.le_of_ble_eq_true rfl) ⟨Nat.zero_le _, Nat.zero_le _⟩ dX6_tellBarge_109 (fun H locs hP hS => ?_)
    refine lv_aload_n hx hb dX6_tellBarge_112 rfl (lv_at hl 0 rfl) ?_
    refine xt_get (ci := 6) (C := RX6) (T := TX6) (n := 12) (v := .ref (ad 7)) hx hb hts iX6_tellBarge_X6 hown hK hP 0 (by decide) (LX6_obj ad cy _) rfl 2 (by decide) w5 rfl dX6_tellBarge_113 ?_
    refine xt_get (ci := 4) (C := RX4) (T := TX4) (n := 9) (v := .ref (ad 9)) hx hb hts iX6_tellBarge_X4 hown hK hP 7 (by decide) (LX4_obj ad cy _) rfl 1 (by decide) w6 rfl dX6_tellBarge_116 ?_
    refine lv_iload_n hx hb dX6_tellBarge_119 rfl (lv_at hl 1 rfl) ?_
    obtain ⟨g15, hf⟩ := gd_some hf
    refine xt_iald hx hb hK hP 9 (by decide) 0 (LX4_liesAt ad cy _) rfl g15 dX6_tellBarge_120 ?_
    refine lv_bipush (v := (-15)) hx hb dX6_tellBarge_121 (by decide) ?_
    refine lv_icmp_ne (tgt := 138) hx hb dX6_tellBarge_123 (by decide) (fun c16 => ?_) (fun c16 => ?_)
    · have hf := (if_neg c16).symm.trans hf
      refine lv_aload_n hx hb dX6_tellBarge_138 rfl (lv_at hl 0 rfl) ?_
      refine xt_get (ci := 6) (C := RX6) (T := TX6) (n := 12) (v := .ref (ad 5)) hx hb hts iX6_tellBarge_X6 hown hK hP 0 (by decide) (LX6_obj ad cy _) rfl 8 (by decide) w2 rfl dX6_tellBarge_139 ?_
      refine lv_aload_n hx hb dX6_tellBarge_142 rfl (lv_at hl 0 rfl) ?_
      refine xt_get (ci := 6) (C := RX6) (T := TX6) (n := 12) (v := .ref (ad 7)) hx hb hts iX6_tellBarge_X6 hown hK hP 0 (by decide) (LX6_obj ad cy _) rfl 2 (by decide) w5 rfl dX6_tellBarge_143 ?_
      refine xt_get (ci := 4) (C := RX4) (T := TX4) (n := 9) (v := .ref (ad 9)) hx hb hts iX6_tellBarge_X4 hown hK hP 7 (by decide) (LX4_obj ad cy _) rfl 1 (by decide) w6 rfl dX6_tellBarge_146 ?_
      refine lv_iload_n hx hb dX6_tellBarge_149 rfl (lv_at hl 1 rfl) ?_
      obtain ⟨g17, hf⟩ := gd_some hf
      refine xt_iald hx hb hK hP 9 (by decide) 0 (LX4_liesAt ad cy _) rfl g17 dX6_tellBarge_150 ?_
      obtain ⟨r18, qr18, hf⟩ := bd_some hf
      refine xt_callVv (As := [.int (r14 9 a1.toNatClampNeg)]) (rest := []) (C := RX3) (ci := 3) ⟨hx, hb, hml, hown, hts⟩ 5 (mX3_putNumber l dC dI ad cy hJ r14 (r14 9 a1.toNatClampNeg) r18 qr18) (cwV 1 hts gX6_tellBarge_X3_putNumber rfl rfl rfl dmX3_putNumber ⟨Nat.le_of_ble_eq_true rfl, Nat.le_of_ble_eq_true rfl⟩) hK hP hS (by decide) (LX3_obj ad cy _) rfl rfl rfl hl.1 (Nat.le_of_ble_eq_true rfl) ⟨Nat.zero_le _, Nat.zero_le _⟩ dX6_tellBarge_151 (fun H locs hP hS => ?_)
      refine lv_aload_n hx hb dX6_tellBarge_154 rfl (lv_at hl 0 rfl) ?_
      refine xt_get (ci := 6) (C := RX6) (T := TX6) (n := 12) (v := .ref (ad 5)) hx hb hts iX6_tellBarge_X6 hown hK hP 0 (by decide) (LX6_obj ad cy _) rfl 8 (by decide) w2 rfl dX6_tellBarge_155 ?_
      refine xt_get (ci := 3) (C := RX3) (T := TX3) (n := 2) (v := .int (r18 5 1)) hx hb hts iX6_tellBarge_X3 hown hK hP 5 (by decide) (LX3_obj ad cy _) rfl 1 (by decide) w7 rfl dX6_tellBarge_158 ?_
      exact xt_iret hx hb hr hP hS (rs_1 hf) (rs_2 hf) dX6_tellBarge_161 hlocks
    · have hf := (if_pos c16).symm.trans hf
      refine lv_aload_n hx hb dX6_tellBarge_126 rfl (lv_at hl 0 rfl) ?_
      refine xt_get (ci := 6) (C := RX6) (T := TX6) (n := 12) (v := .ref (ad 5)) hx hb hts iX6_tellBarge_X6 hown hK hP 0 (by decide) (LX6_obj ad cy _) rfl 8 (by decide) w2 rfl dX6_tellBarge_127 ?_
      refine lv_bipush (v := 45) hx hb dX6_tellBarge_130 (by decide) ?_
      obtain ⟨r19, qr19, hf⟩ := bd_some hf
      refine xt_callVv (As := [.int 45]) (rest := []) (C := RX3) (ci := 3) ⟨hx, hb, hml, hown, hts⟩ 5 (mX3_put l dC dI ad cy hJ r14 45 r19 qr19) (cwV 1 hts gX6_tellBarge_X3_put rfl rfl rfl dmX3_put ⟨Nat.le_of_ble_eq_true rfl, Nat.le_of_ble_eq_true rfl⟩) hK hP hS (by decide) (LX3_obj ad cy _) rfl rfl rfl hl.1 (Nat.le_of_ble_eq_true rfl) ⟨Nat.zero_le _, Nat.zero_le _⟩ dX6_tellBarge_132 (fun H locs hP hS => ?_)
      refine lv_goto (tgt := 154) hx hb dX6_tellBarge_135 (by decide) ?_
      refine lv_aload_n hx hb dX6_tellBarge_154 rfl (lv_at hl 0 rfl) ?_
      refine xt_get (ci := 6) (C := RX6) (T := TX6) (n := 12) (v := .ref (ad 5)) hx hb hts iX6_tellBarge_X6 hown hK hP 0 (by decide) (LX6_obj ad cy _) rfl 8 (by decide) w2 rfl dX6_tellBarge_155 ?_
      refine xt_get (ci := 3) (C := RX3) (T := TX3) (n := 2) (v := .int (r19 5 1)) hx hb hts iX6_tellBarge_X3 hown hK hP 5 (by decide) (LX3_obj ad cy _) rfl 1 (by decide) w7 rfl dX6_tellBarge_158 ?_
      exact xt_iret hx hb hr hP hS (rs_1 hf) (rs_2 hf) dX6_tellBarge_161 hlocks
  · have hf := (if_pos c2).symm.trans hf
    refine lv_bipush (v := (-11)) hx hb dX6_tellBarge_11 (by decide) ?_
    exact xt_iret hx hb hr hP hS (rs_1 hf) (rs_2 hf) dX6_tellBarge_13 hlocks
def fX6_character (σ : St) (a1 : Int32) : Option Int32 :=
  if a1 < 0 then (some (-11 : Int32)) else (if (σ 5 1) ≤ a1 then (some (-11 : Int32)) else (gd (okI a1 80) <| some (σ 6 a1.toNatClampNeg)))
abbrev rmX6_character : Room := { frames := 0, cells := 0, slots := 0, locals := 0 }
theorem dmX6_character : yX6_character.cls = RX6 ∧ yX6_character.cls ≠ "java/lang/invoke/MethodHandle" ∧ yX6_character.cls ≠ "java/lang/invoke/VarHandle" ∧ (parseMethodDescriptor yX6_character.desc).map (fun d => d.parameters.length) = some 1 := by decide +kernel
theorem iX6_character_X3 : ∀ w ∈ wsX30, w ∈ wsX6_character := fun w h => List.mem_cons_of_mem _ (List.mem_append_right _ (h))
theorem iX6_character_X6 : ∀ w ∈ wsX60, w ∈ wsX6_character := fun w h => List.mem_cons_of_mem _ (List.mem_append_left _ (List.mem_append_right _ (h)))
set_option maxHeartbeats 8000000 in
set_option maxRecDepth 100000 in
theorem mX6_character (l : Launch) (dC : Nat → ClassId) (dI : Nat → Nat → Nat) (ad : Nat → Nat) (cy : Nat → ClassId) (hJ : WJ 93 ad) (σ : St) (a1 : Int32) (res : Int32) (hf : fX6_character σ a1 = some res) : CMi l yX6_character wsX6_character rmX6_character (dC, dI) (tysX cy) 93 ad (layX ad cy) [.ref (ad 0), .int a1] σ res σ := by
  refine Met.ofW (cc := cX6_character) (maxL := 2) (ret := (some .int)) (by decide) rfl ?_
  intro p e s m args below meth c s₁ B hml hv
  obtain ⟨hargs, hP, hK⟩ := hv
  have hx := B.exec
  have hb := B.bytes
  have hr := B.returns
  have hts := atoms_spec (ws := wsX6_character) B.pre
  have hown : s.vm.findClass RX6 = some m.cls := findClass_of_methodNamed B.named
  have hlocks := B.notSynchronized
  have w1 := hts (.fieldLink RX6 56 "PierRings" "line" "LPierRings$Line;") (List.mem_of_getElem? (i := 1) rfl)
  have w2 := hts (.fieldLink RX6 255 "PierRings$Line" "length" "I") (List.mem_of_getElem? (i := 2) rfl)
  have w3 := hts (.fieldLink RX6 256 "PierRings$Line" "signs" "[C") (List.mem_of_getElem? (i := 3) rfl)
  have hS : va_S (WA 93 ad) s.heap s.heap [] := va_S.rf
  have hfr : entryFrame m args 2 = F0 m 0 ((lg_sl [.ref (ad 0), .int a1] ++ List.replicate (2 - (lg_sl [.ref (ad 0), .int a1]).length) Slot.unset).toArray) [] := by rw [hargs]; exact lg_entry_eq _ _ _
  rw [hfr]
  have hl := lv_entry ([.ref (ad 0), .int a1]) (n := 2) (Nat.le_of_ble_eq_true rfl)
  generalize (lg_sl [.ref (ad 0), .int a1] ++ List.replicate (2 - (lg_sl [.ref (ad 0), .int a1]).length) Slot.unset).toArray = ls at hl ⊢
  have hl : lv_has ls 2 [(0, .ref (ad 0)), (1, .int a1)] := hl
  clear hfr hargs B
  show W p l e rmX6_character s m args below meth c s.heap [] 0 0 (MQ below (Qiw (dC, dI) 93 ad (layX ad cy) res σ) args s 0 0 (WA 93 ad)) (F0 m 0 ls [])
  unfold fX6_character at hf
  obtain ⟨H, eH⟩ : ∃ H : Heap, H = s.heap := ⟨_, rfl⟩
  rw [← eH] at hP
  have hS : va_S (WA 93 ad) s.heap H [] := by rw [eH]; exact hS
  suffices K : W p l e rmX6_character s m args below meth c H [] 0 0 (MQ below (Qiw (dC, dI) 93 ad (layX ad cy) res σ) args s 0 0 (WA 93 ad)) (F0 m 0 ls []) by rw [eH] at K; exact K
  clear eH
  obtain ⟨locs, elocs⟩ : ∃ z : List Loc, z = [] := ⟨_, rfl⟩
  rw [← elocs] at hS ⊢
  refine lv_iload_n hx hb dX6_character_0 rfl (lv_at hl 1 rfl) ?_
  refine lv_if_lt (tgt := 27) hx hb dX6_character_1 (by decide) (fun c1 => ?_) (fun c1 => ?_)
  · have hf := (if_pos c1).symm.trans hf
    refine lv_bipush (v := (-11)) hx hb dX6_character_27 (by decide) ?_
    exact xt_iret hx hb hr hP hS (Option.some.inj hf) rfl dX6_character_29 hlocks
  · have hf := (if_neg c1).symm.trans hf
    refine lv_iload_n hx hb dX6_character_4 rfl (lv_at hl 1 rfl) ?_
    refine lv_aload_n hx hb dX6_character_5 rfl (lv_at hl 0 rfl) ?_
    refine xt_get (ci := 6) (C := RX6) (T := TX6) (n := 12) (v := .ref (ad 5)) hx hb hts iX6_character_X6 hown hK hP 0 (by decide) (LX6_obj ad cy _) rfl 8 (by decide) w1 rfl dX6_character_6 ?_
    refine xt_get (ci := 3) (C := RX3) (T := TX3) (n := 2) (v := .int (σ 5 1)) hx hb hts iX6_character_X3 hown hK hP 5 (by decide) (LX3_obj ad cy _) rfl 1 (by decide) w2 rfl dX6_character_9 ?_
    refine lv_icmp_ge (tgt := 27) hx hb dX6_character_12 (by decide) (fun c2 => ?_) (fun c2 => ?_)
    · have hf := (if_pos c2).symm.trans hf
      refine lv_bipush (v := (-11)) hx hb dX6_character_27 (by decide) ?_
      exact xt_iret hx hb hr hP hS (Option.some.inj hf) rfl dX6_character_29 hlocks
    · have hf := (if_neg c2).symm.trans hf
      refine lv_aload_n hx hb dX6_character_15 rfl (lv_at hl 0 rfl) ?_
      refine xt_get (ci := 6) (C := RX6) (T := TX6) (n := 12) (v := .ref (ad 5)) hx hb hts iX6_character_X6 hown hK hP 0 (by decide) (LX6_obj ad cy _) rfl 8 (by decide) w1 rfl dX6_character_16 ?_
      refine xt_get (ci := 3) (C := RX3) (T := TX3) (n := 2) (v := .ref (ad 6)) hx hb hts iX6_character_X3 hown hK hP 5 (by decide) (LX3_obj ad cy _) rfl 0 (by decide) w3 rfl dX6_character_19 ?_
      refine lv_iload_n hx hb dX6_character_22 rfl (lv_at hl 1 rfl) ?_
      obtain ⟨g3, hf⟩ := gd_some hf
      refine xt_cald hx hb hK hP 6 (by decide) 2 (LX3_signs ad cy _) rfl g3 dX6_character_23 ?_
      refine lv_goto (tgt := 29) hx hb dX6_character_24 (by decide) ?_
      exact xt_iret hx hb hr hP hS (Option.some.inj hf) rfl dX6_character_29 hlocks
def fX6_hotPiers_B32 (σ : St) (x1 : Int32) : Option Int32 :=
  some x1
def fX6_hotPiers_L4 (σ : St) (K4_32 : Int32 → Option Int32) : Nat → Int32 → Int32 → Option Int32
  | 0, _, _ => none
  | n4 + 1, x1, x2 => if (σ 33 4) ≤ x2 then (K4_32 x1) else (bd (fX6_isHot σ x2) fun r2 => if r2 = 0 then (nm (x2 + 1) fun v4 => (fX6_hotPiers_L4 σ K4_32 n4) x1 v4) else (nm (x1 + 1) fun v5 => nm (x2 + 1) fun v6 => (fX6_hotPiers_L4 σ K4_32 n4) v5 v6))
def fX6_hotPiers (σ : St) : Option Int32 :=
  fX6_hotPiers_L4 σ (fun y1 => fX6_hotPiers_B32 σ y1) 1000 0 0
abbrev rmX6_hotPiers : Room := { frames := 3, cells := 0, slots := 0, locals := 63 }
theorem dmX6_hotPiers : yX6_hotPiers.cls = RX6 ∧ yX6_hotPiers.cls ≠ "java/lang/invoke/MethodHandle" ∧ yX6_hotPiers.cls ≠ "java/lang/invoke/VarHandle" ∧ (parseMethodDescriptor yX6_hotPiers.desc).map (fun d => d.parameters.length) = some 0 := by decide +kernel
theorem iX6_hotPiers_X1 : ∀ w ∈ wsX10, w ∈ wsX6_hotPiers := fun w h => List.mem_cons_of_mem _ (List.mem_append_left _ (List.mem_append_right _ (h)))
theorem iX6_hotPiers_X6 : ∀ w ∈ wsX60, w ∈ wsX6_hotPiers := fun w h => List.mem_cons_of_mem _ (List.mem_append_left _ (List.mem_append_left _ (List.mem_append_right _ (h))))
set_option maxHeartbeats 8000000 in
set_option maxRecDepth 100000 in
theorem mX6_hotPiers (l : Launch) (dC : Nat → ClassId) (dI : Nat → Nat → Nat) (ad : Nat → Nat) (cy : Nat → ClassId) (hJ : WJ 93 ad) (σ : St) (res : Int32) (hf : fX6_hotPiers σ = some res) : CMi l yX6_hotPiers wsX6_hotPiers rmX6_hotPiers (dC, dI) (tysX cy) 93 ad (layX ad cy) [.ref (ad 0)] σ res σ := by
  refine Met.ofW (cc := cX6_hotPiers) (maxL := 3) (ret := (some .int)) (by decide) rfl ?_
  intro p e s m args below meth c s₁ B hml hv
  obtain ⟨hargs, hP, hK⟩ := hv
  have hx := B.exec
  have hb := B.bytes
  have hr := B.returns
  have hts := atoms_spec (ws := wsX6_hotPiers) B.pre
  have hown : s.vm.findClass RX6 = some m.cls := findClass_of_methodNamed B.named
  have hlocks := B.notSynchronized
  have w1 := hts (.fieldLink RX6 12 "PierRings" "harbour" "LPierRings$Harbour;") (List.mem_of_getElem? (i := 1) rfl)
  have w2 := hts (.fieldLink RX6 186 "PierRings$Harbour" "piers" "I") (List.mem_of_getElem? (i := 2) rfl)
  have hS : va_S (WA 93 ad) s.heap s.heap [] := va_S.rf
  have hfr : entryFrame m args 3 = F0 m 0 ((lg_sl [.ref (ad 0)] ++ List.replicate (3 - (lg_sl [.ref (ad 0)]).length) Slot.unset).toArray) [] := by rw [hargs]; exact lg_entry_eq _ _ _
  rw [hfr]
  have hl := lv_entry ([.ref (ad 0)]) (n := 3) (Nat.le_of_ble_eq_true rfl)
  generalize (lg_sl [.ref (ad 0)] ++ List.replicate (3 - (lg_sl [.ref (ad 0)]).length) Slot.unset).toArray = ls at hl ⊢
  have hl : lv_has ls 3 [(0, .ref (ad 0))] := hl
  clear hfr hargs B
  show W p l e rmX6_hotPiers s m args below meth c s.heap [] 0 0 (MQ below (Qiw (dC, dI) 93 ad (layX ad cy) res σ) args s 0 0 (WA 93 ad)) (F0 m 0 ls [])
  have kB32 : ∀ (x1 : Int32), fX6_hotPiers_B32 σ x1 = some res → ∀ (H : Heap) (locs : List Loc), va_P (dC, dI) vwCl (wd 93 ad (layX ad cy) σ) H → va_S (WA 93 ad) s.heap H locs → ∀ (ls : Array Slot), lv_has ls 3 [(1, .int x1)] → W p l e rmX6_hotPiers s m args below meth c H locs 0 0 (MQ below (Qiw (dC, dI) 93 ad (layX ad cy) res σ) args s 0 0 (WA 93 ad)) (F0 m 32 ls []) := by
    intro x1 hf H locs hP hS ls hl
    unfold fX6_hotPiers_B32 at hf
    refine lv_iload_n hx hb dX6_hotPiers_32 rfl (lv_at hl 0 rfl) ?_
    exact xt_iret hx hb hr hP hS (Option.some.inj hf) rfl dX6_hotPiers_33 hlocks
  have loop4 : ∀ (n4 : Nat) (x1 : Int32) (x2 : Int32), fX6_hotPiers_L4 σ (fun y1 => fX6_hotPiers_B32 σ y1) n4 x1 x2 = some res → ∀ (H : Heap) (locs : List Loc), va_P (dC, dI) vwCl (wd 93 ad (layX ad cy) σ) H → va_S (WA 93 ad) s.heap H locs → ∀ (ls : Array Slot), lv_has ls 3 [(0, .ref (ad 0)), (1, .int x1), (2, .int x2)] → W p l e rmX6_hotPiers s m args below meth c H locs 0 0 (MQ below (Qiw (dC, dI) 93 ad (layX ad cy) res σ) args s 0 0 (WA 93 ad)) (F0 m 4 ls []) := by
    intro n4
    induction n4 with
    | zero => intro x1 x2 hf; simp [fX6_hotPiers_L4] at hf
    | succ n4 ih4 =>
      intro x1 x2 hf H locs hP hS ls hl
      rw [fX6_hotPiers_L4] at hf
      refine lv_iload_n hx hb dX6_hotPiers_4 rfl (lv_at hl 2 rfl) ?_
      refine lv_aload_n hx hb dX6_hotPiers_5 rfl (lv_at hl 0 rfl) ?_
      refine xt_get (ci := 6) (C := RX6) (T := TX6) (n := 12) (v := .ref (ad 33)) hx hb hts iX6_hotPiers_X6 hown hK hP 0 (by decide) (LX6_obj ad cy _) rfl 0 (by decide) w1 rfl dX6_hotPiers_6 ?_
      refine xt_get (ci := 1) (C := RX1) (T := TX1) (n := 8) (v := .int (σ 33 4)) hx hb hts iX6_hotPiers_X1 hown hK hP 33 (by decide) (LX1_obj ad cy 0 (by decide) _) rfl 4 (by decide) w2 rfl dX6_hotPiers_9 ?_
      refine lv_icmp_ge (tgt := 32) hx hb dX6_hotPiers_12 (by decide) (fun c1 => ?_) (fun c1 => ?_)
      · have hf := (if_pos c1).symm.trans hf
        exact kB32 x1 hf H locs hP hS ls (lv_sub hl [1] rfl)
      · have hf := (if_neg c1).symm.trans hf
        refine lv_aload_n hx hb dX6_hotPiers_15 rfl (lv_at hl 0 rfl) ?_
        refine lv_iload_n hx hb dX6_hotPiers_16 rfl (lv_at hl 2 rfl) ?_
        obtain ⟨r2, qr2, hf⟩ := bd_some hf
        refine xt_callVi (As := [.int x2]) (rest := []) (C := RX6) (ci := 6) ⟨hx, hb, hml, hown, hts⟩ 0 (mX6_isHot l dC dI ad cy hJ σ x2 r2 qr2) (cwV 1 hts gX6_hotPiers_X6_isHot rfl rfl rfl dmX6_isHot ⟨Nat.le_of_ble_eq_true rfl, Nat.le_of_ble_eq_true rfl⟩) hK hP hS (by decide) (LX6_obj ad cy _) rfl rfl rfl hl.1 (Nat.le_of_ble_eq_true rfl) ⟨Nat.zero_le _, Nat.zero_le _⟩ dX6_hotPiers_17 (fun H locs hP hS => ?_)
        refine lv_if_eq (tgt := 26) hx hb dX6_hotPiers_20 (by decide) (fun c3 => ?_) (fun c3 => ?_)
        · have hf := (if_pos c3).symm.trans hf
          obtain ⟨v4, ev4⟩ : ∃ y : Int32, y = x2 + 1 := ⟨_, rfl⟩
          have hf := nm_to hf ev4
          refine lv_iinc (v := v4) (lv' := [(2, .int v4), (0, .ref (ad 0)), (1, .int x1)]) hx hb dX6_hotPiers_26 hl (k := 2) rfl (by rw [ev4]; rfl) (by decide) rfl (fun ls hl => ?_)
          refine lv_goto (tgt := 4) hx hb dX6_hotPiers_29 (by decide) ?_
          exact ih4 x1 v4 hf H locs hP hS ls (lv_sub hl [1, 2, 0] rfl)
        · have hf := (if_neg c3).symm.trans hf
          obtain ⟨v5, ev5⟩ : ∃ y : Int32, y = x1 + 1 := ⟨_, rfl⟩
          have hf := nm_to hf ev5
          refine lv_iinc (v := v5) (lv' := [(1, .int v5), (0, .ref (ad 0)), (2, .int x2)]) hx hb dX6_hotPiers_23 hl (k := 1) rfl (by rw [ev5]; rfl) (by decide) rfl (fun ls hl => ?_)
          obtain ⟨v6, ev6⟩ : ∃ y : Int32, y = x2 + 1 := ⟨_, rfl⟩
          have hf := nm_to hf ev6
          refine lv_iinc (v := v6) (lv' := [(2, .int v6), (1, .int v5), (0, .ref (ad 0))]) hx hb dX6_hotPiers_26 hl (k := 2) rfl (by rw [ev6]; rfl) (by decide) rfl (fun ls hl => ?_)
          refine lv_goto (tgt := 4) hx hb dX6_hotPiers_29 (by decide) ?_
          exact ih4 v5 v6 hf H locs hP hS ls (lv_sub hl [2, 1, 0] rfl)
  unfold fX6_hotPiers at hf
  obtain ⟨H, eH⟩ : ∃ H : Heap, H = s.heap := ⟨_, rfl⟩
  rw [← eH] at hP
  have hS : va_S (WA 93 ad) s.heap H [] := by rw [eH]; exact hS
  suffices K : W p l e rmX6_hotPiers s m args below meth c H [] 0 0 (MQ below (Qiw (dC, dI) 93 ad (layX ad cy) res σ) args s 0 0 (WA 93 ad)) (F0 m 0 ls []) by rw [eH] at K; exact K
  clear eH
  obtain ⟨locs, elocs⟩ : ∃ z : List Loc, z = [] := ⟨_, rfl⟩
  rw [← elocs] at hS ⊢
  refine lv_iconst (v := 0) hx hb dX6_hotPiers_0 (by decide) ?_
  refine lv_istore_n (lv' := [(1, .int 0), (0, .ref (ad 0))]) hx hb dX6_hotPiers_1 rfl hl (by decide) rfl (fun ls hl => ?_)
  refine lv_iconst (v := 0) hx hb dX6_hotPiers_2 (by decide) ?_
  refine lv_istore_n (lv' := [(2, .int 0), (1, .int 0), (0, .ref (ad 0))]) hx hb dX6_hotPiers_3 rfl hl (by decide) rfl (fun ls hl => ?_)
  exact loop4 1000 0 0 hf H locs hP hS ls (lv_sub hl [2, 1, 0] rfl)
def fX6_account (σ : St) (a1 : Int32) : Option Int32 :=
  if a1 = 0 then (some (σ 33 4)) else (if a1 = 1 then (bd (fX1_openPiers 0 σ) fun r3 => some r3) else (if a1 = 2 then (some (σ 15 5)) else (if a1 = 3 then (some (σ 33 5)) else (if a1 = 4 then (some (σ 7 7)) else (if a1 = 5 then (some (σ 7 8)) else (if a1 = 6 then (some (((σ 33 5) - (σ 7 7)) - (σ 7 8))) else (if a1 = 7 then (bd (fX1_allTons 0 σ) fun r10 => some r10) else (if a1 = 8 then (bd (fX4_allLyingTons σ) fun r12 => some r12) else (if a1 = 9 then (bd (fX1_allRoom 0 σ) fun r14 => some r14) else (if a1 = 10 then (some (σ 33 7)) else (if a1 = 11 then (some (σ 33 6)) else (if a1 = 12 then (bd (fX6_hotPiers σ) fun r18 => some r18) else (if a1 = 13 then (some (σ 3 0)) else (if a1 = 14 then (some (σ 1 0)) else (some (-12 : Int32))))))))))))))))
abbrev rmX6_account : Room := { frames := 4, cells := 0, slots := 0, locals := 85 }
theorem dmX6_account : yX6_account.cls = RX6 ∧ yX6_account.cls ≠ "java/lang/invoke/MethodHandle" ∧ yX6_account.cls ≠ "java/lang/invoke/VarHandle" ∧ (parseMethodDescriptor yX6_account.desc).map (fun d => d.parameters.length) = some 1 := by decide +kernel
theorem iX6_account_X0 : ∀ w ∈ wsX00, w ∈ wsX6_account := fun w h => List.mem_cons_of_mem _ (List.mem_append_left _ (List.mem_append_left _ (List.mem_append_left _ (List.mem_append_right _ (h)))))
theorem iX6_account_X1 : ∀ w ∈ wsX10, w ∈ wsX6_account := fun w h => List.mem_cons_of_mem _ (List.mem_append_left _ (List.mem_append_left _ (List.mem_append_left _ (List.mem_append_left _ (List.mem_append_right _ (h))))))
theorem iX6_account_X2 : ∀ w ∈ wsX20, w ∈ wsX6_account := fun w h => List.mem_cons_of_mem _ (List.mem_append_right _ (h))
theorem iX6_account_X4 : ∀ w ∈ wsX40, w ∈ wsX6_account := fun w h => List.mem_cons_of_mem _ (List.mem_append_left _ (List.mem_append_left _ (List.mem_append_right _ (h))))
theorem iX6_account_X5 : ∀ w ∈ wsX50, w ∈ wsX6_account := fun w h => List.mem_cons_of_mem _ (List.mem_append_left _ (List.mem_append_right _ (h)))
theorem iX6_account_X6 : ∀ w ∈ wsX60, w ∈ wsX6_account := fun w h => List.mem_cons_of_mem _ (List.mem_append_left _ (List.mem_append_left _ (List.mem_append_left _ (List.mem_append_left _ (List.mem_append_left _ (List.mem_append_right _ (h)))))))
set_option maxHeartbeats 8000000 in
set_option maxRecDepth 100000 in
theorem mX6_account (l : Launch) (dC : Nat → ClassId) (dI : Nat → Nat → Nat) (ad : Nat → Nat) (cy : Nat → ClassId) (hJ : WJ 93 ad) (σ : St) (a1 : Int32) (res : Int32) (hf : fX6_account σ a1 = some res) : CMi l yX6_account wsX6_account rmX6_account (dC, dI) (tysX cy) 93 ad (layX ad cy) [.ref (ad 0), .int a1] σ res σ := by
  refine Met.ofW (cc := cX6_account) (maxL := 2) (ret := (some .int)) (by decide) rfl ?_
  intro p e s m args below meth c s₁ B hml hv
  obtain ⟨hargs, hP, hK⟩ := hv
  have hx := B.exec
  have hb := B.bytes
  have hr := B.returns
  have hts := atoms_spec (ws := wsX6_account) B.pre
  have hown : s.vm.findClass RX6 = some m.cls := findClass_of_methodNamed B.named
  have hlocks := B.notSynchronized
  have w1 := hts (.fieldLink RX6 12 "PierRings" "harbour" "LPierRings$Harbour;") (List.mem_of_getElem? (i := 1) rfl)
  have w2 := hts (.fieldLink RX6 186 "PierRings$Harbour" "piers" "I") (List.mem_of_getElem? (i := 2) rfl)
  have w3 := hts (.fieldLink RX6 19 "PierRings" "circle" "LPierRings$Circle;") (List.mem_of_getElem? (i := 3) rfl)
  have w4 := hts (.fieldLink RX6 165 "PierRings$Circle" "count" "I") (List.mem_of_getElem? (i := 4) rfl)
  have w5 := hts (.fieldLink RX6 252 "PierRings$Harbour" "barges" "I") (List.mem_of_getElem? (i := 5) rfl)
  have w6 := hts (.fieldLink RX6 26 "PierRings" "moorings" "LPierRings$Moorings;") (List.mem_of_getElem? (i := 6) rfl)
  have w7 := hts (.fieldLink RX6 263 "PierRings$Moorings" "atHome" "I") (List.mem_of_getElem? (i := 7) rfl)
  have w8 := hts (.fieldLink RX6 266 "PierRings$Moorings" "elsewhere" "I") (List.mem_of_getElem? (i := 8) rfl)
  have w9 := hts (.fieldLink RX6 278 "PierRings$Harbour" "movedHomes" "I") (List.mem_of_getElem? (i := 9) rfl)
  have w10 := hts (.fieldLink RX6 281 "PierRings$Harbour" "berthTons" "I") (List.mem_of_getElem? (i := 10) rfl)
  have w11 := hts (.fieldLink RX6 49 "PierRings" "text" "LPierRings$OrderText;") (List.mem_of_getElem? (i := 11) rfl)
  have w12 := hts (.fieldLink RX6 214 "PierRings$OrderText" "length" "I") (List.mem_of_getElem? (i := 12) rfl)
  have w13 := hts (.fieldLink RX6 39 "PierRings" "history" "LPierRings$History;") (List.mem_of_getElem? (i := 13) rfl)
  have w14 := hts (.fieldLink RX6 287 "PierRings$History" "kept" "I") (List.mem_of_getElem? (i := 14) rfl)
  have hS : va_S (WA 93 ad) s.heap s.heap [] := va_S.rf
  have hfr : entryFrame m args 2 = F0 m 0 ((lg_sl [.ref (ad 0), .int a1] ++ List.replicate (2 - (lg_sl [.ref (ad 0), .int a1]).length) Slot.unset).toArray) [] := by rw [hargs]; exact lg_entry_eq _ _ _
  rw [hfr]
  have hl := lv_entry ([.ref (ad 0), .int a1]) (n := 2) (Nat.le_of_ble_eq_true rfl)
  generalize (lg_sl [.ref (ad 0), .int a1] ++ List.replicate (2 - (lg_sl [.ref (ad 0), .int a1]).length) Slot.unset).toArray = ls at hl ⊢
  have hl : lv_has ls 2 [(0, .ref (ad 0)), (1, .int a1)] := hl
  clear hfr hargs B
  show W p l e rmX6_account s m args below meth c s.heap [] 0 0 (MQ below (Qiw (dC, dI) 93 ad (layX ad cy) res σ) args s 0 0 (WA 93 ad)) (F0 m 0 ls [])
  unfold fX6_account at hf
  obtain ⟨H, eH⟩ : ∃ H : Heap, H = s.heap := ⟨_, rfl⟩
  rw [← eH] at hP
  have hS : va_S (WA 93 ad) s.heap H [] := by rw [eH]; exact hS
  suffices K : W p l e rmX6_account s m args below meth c H [] 0 0 (MQ below (Qiw (dC, dI) 93 ad (layX ad cy) res σ) args s 0 0 (WA 93 ad)) (F0 m 0 ls []) by rw [eH] at K; exact K
  clear eH
  obtain ⟨locs, elocs⟩ : ∃ z : List Loc, z = [] := ⟨_, rfl⟩
  rw [← elocs] at hS ⊢
  refine lv_iload_n hx hb dX6_account_0 rfl (lv_at hl 1 rfl) ?_
  by_cases c1 : a1 = 0
  · have hf := (if_pos c1).symm.trans hf
    refine lv_tableIn (tgt := 76) (off := 75) hx hb dX6_account_1 (by rw [c1]; decide) (by rw [c1]; decide) (by rw [c1]; rfl) (by decide) ?_
    refine lv_aload_n hx hb dX6_account_76 rfl (lv_at hl 0 rfl) ?_
    refine xt_get (ci := 6) (C := RX6) (T := TX6) (n := 12) (v := .ref (ad 33)) hx hb hts iX6_account_X6 hown hK hP 0 (by decide) (LX6_obj ad cy _) rfl 0 (by decide) w1 rfl dX6_account_77 ?_
    refine xt_get (ci := 1) (C := RX1) (T := TX1) (n := 8) (v := .int (σ 33 4)) hx hb hts iX6_account_X1 hown hK hP 33 (by decide) (LX1_obj ad cy 0 (by decide) _) rfl 4 (by decide) w2 rfl dX6_account_80 ?_
    exact xt_iret hx hb hr hP hS (Option.some.inj hf) rfl dX6_account_83 hlocks
  · have hf := (if_neg c1).symm.trans hf
    by_cases c2 : a1 = 1
    · have hf := (if_pos c2).symm.trans hf
      refine lv_tableIn (tgt := 84) (off := 83) hx hb dX6_account_1 (by rw [c2]; decide) (by rw [c2]; decide) (by rw [c2]; rfl) (by decide) ?_
      refine lv_aload_n hx hb dX6_account_84 rfl (lv_at hl 0 rfl) ?_
      refine xt_get (ci := 6) (C := RX6) (T := TX6) (n := 12) (v := .ref (ad 33)) hx hb hts iX6_account_X6 hown hK hP 0 (by decide) (LX6_obj ad cy _) rfl 0 (by decide) w1 rfl dX6_account_85 ?_
      obtain ⟨r3, qr3, hf⟩ := bd_some hf
      refine xt_callVi (As := []) (rest := []) (C := RX1) (ci := 1) ⟨hx, hb, hml, hown, hts⟩ 33 (mX1_openPiers l dC dI ad cy hJ 0 (by decide) σ r3 qr3) (cwV 0 hts gX6_account_X1_openPiers rfl rfl rfl dmX1_openPiers ⟨Nat.le_of_ble_eq_true rfl, Nat.le_of_ble_eq_true rfl⟩) hK hP hS (by decide) (LX1_obj ad cy 0 (by decide) _) rfl rfl rfl hl.1 (Nat.le_of_ble_eq_true rfl) ⟨Nat.zero_le _, Nat.zero_le _⟩ dX6_account_88 (fun H locs hP hS => ?_)
      exact xt_iret hx hb hr hP hS (Option.some.inj hf) rfl dX6_account_91 hlocks
    · have hf := (if_neg c2).symm.trans hf
      by_cases c4 : a1 = 2
      · have hf := (if_pos c4).symm.trans hf
        refine lv_tableIn (tgt := 92) (off := 91) hx hb dX6_account_1 (by rw [c4]; decide) (by rw [c4]; decide) (by rw [c4]; rfl) (by decide) ?_
        refine lv_aload_n hx hb dX6_account_92 rfl (lv_at hl 0 rfl) ?_
        refine xt_get (ci := 6) (C := RX6) (T := TX6) (n := 12) (v := .ref (ad 15)) hx hb hts iX6_account_X6 hown hK hP 0 (by decide) (LX6_obj ad cy _) rfl 1 (by decide) w3 rfl dX6_account_93 ?_
        refine xt_get (ci := 0) (C := RX0) (T := TX0) (n := 10) (v := .int (σ 15 5)) hx hb hts iX6_account_X0 hown hK hP 15 (by decide) (LX0_obj ad cy 0 (by decide) _) rfl 5 (by decide) w4 rfl dX6_account_96 ?_
        exact xt_iret hx hb hr hP hS (Option.some.inj hf) rfl dX6_account_99 hlocks
      · have hf := (if_neg c4).symm.trans hf
        by_cases c5 : a1 = 3
        · have hf := (if_pos c5).symm.trans hf
          refine lv_tableIn (tgt := 100) (off := 99) hx hb dX6_account_1 (by rw [c5]; decide) (by rw [c5]; decide) (by rw [c5]; rfl) (by decide) ?_
          refine lv_aload_n hx hb dX6_account_100 rfl (lv_at hl 0 rfl) ?_
          refine xt_get (ci := 6) (C := RX6) (T := TX6) (n := 12) (v := .ref (ad 33)) hx hb hts iX6_account_X6 hown hK hP 0 (by decide) (LX6_obj ad cy _) rfl 0 (by decide) w1 rfl dX6_account_101 ?_
          refine xt_get (ci := 1) (C := RX1) (T := TX1) (n := 8) (v := .int (σ 33 5)) hx hb hts iX6_account_X1 hown hK hP 33 (by decide) (LX1_obj ad cy 0 (by decide) _) rfl 5 (by decide) w5 rfl dX6_account_104 ?_
          exact xt_iret hx hb hr hP hS (Option.some.inj hf) rfl dX6_account_107 hlocks
        · have hf := (if_neg c5).symm.trans hf
          by_cases c6 : a1 = 4
          · have hf := (if_pos c6).symm.trans hf
            refine lv_tableIn (tgt := 108) (off := 107) hx hb dX6_account_1 (by rw [c6]; decide) (by rw [c6]; decide) (by rw [c6]; rfl) (by decide) ?_
            refine lv_aload_n hx hb dX6_account_108 rfl (lv_at hl 0 rfl) ?_
            refine xt_get (ci := 6) (C := RX6) (T := TX6) (n := 12) (v := .ref (ad 7)) hx hb hts iX6_account_X6 hown hK hP 0 (by decide) (LX6_obj ad cy _) rfl 2 (by decide) w6 rfl dX6_account_109 ?_
            refine xt_get (ci := 4) (C := RX4) (T := TX4) (n := 9) (v := .int (σ 7 7)) hx hb hts iX6_account_X4 hown hK hP 7 (by decide) (LX4_obj ad cy _) rfl 7 (by decide) w7 rfl dX6_account_112 ?_
            exact xt_iret hx hb hr hP hS (Option.some.inj hf) rfl dX6_account_115 hlocks
          · have hf := (if_neg c6).symm.trans hf
            by_cases c7 : a1 = 5
            · have hf := (if_pos c7).symm.trans hf
              refine lv_tableIn (tgt := 116) (off := 115) hx hb dX6_account_1 (by rw [c7]; decide) (by rw [c7]; decide) (by rw [c7]; rfl) (by decide) ?_
              refine lv_aload_n hx hb dX6_account_116 rfl (lv_at hl 0 rfl) ?_
              refine xt_get (ci := 6) (C := RX6) (T := TX6) (n := 12) (v := .ref (ad 7)) hx hb hts iX6_account_X6 hown hK hP 0 (by decide) (LX6_obj ad cy _) rfl 2 (by decide) w6 rfl dX6_account_117 ?_
              refine xt_get (ci := 4) (C := RX4) (T := TX4) (n := 9) (v := .int (σ 7 8)) hx hb hts iX6_account_X4 hown hK hP 7 (by decide) (LX4_obj ad cy _) rfl 8 (by decide) w8 rfl dX6_account_120 ?_
              exact xt_iret hx hb hr hP hS (Option.some.inj hf) rfl dX6_account_123 hlocks
            · have hf := (if_neg c7).symm.trans hf
              by_cases c8 : a1 = 6
              · have hf := (if_pos c8).symm.trans hf
                refine lv_tableIn (tgt := 124) (off := 123) hx hb dX6_account_1 (by rw [c8]; decide) (by rw [c8]; decide) (by rw [c8]; rfl) (by decide) ?_
                refine lv_aload_n hx hb dX6_account_124 rfl (lv_at hl 0 rfl) ?_
                refine xt_get (ci := 6) (C := RX6) (T := TX6) (n := 12) (v := .ref (ad 33)) hx hb hts iX6_account_X6 hown hK hP 0 (by decide) (LX6_obj ad cy _) rfl 0 (by decide) w1 rfl dX6_account_125 ?_
                refine xt_get (ci := 1) (C := RX1) (T := TX1) (n := 8) (v := .int (σ 33 5)) hx hb hts iX6_account_X1 hown hK hP 33 (by decide) (LX1_obj ad cy 0 (by decide) _) rfl 5 (by decide) w5 rfl dX6_account_128 ?_
                refine lv_aload_n hx hb dX6_account_131 rfl (lv_at hl 0 rfl) ?_
                refine xt_get (ci := 6) (C := RX6) (T := TX6) (n := 12) (v := .ref (ad 7)) hx hb hts iX6_account_X6 hown hK hP 0 (by decide) (LX6_obj ad cy _) rfl 2 (by decide) w6 rfl dX6_account_132 ?_
                refine xt_get (ci := 4) (C := RX4) (T := TX4) (n := 9) (v := .int (σ 7 7)) hx hb hts iX6_account_X4 hown hK hP 7 (by decide) (LX4_obj ad cy _) rfl 7 (by decide) w7 rfl dX6_account_135 ?_
                refine lv_isub hx hb dX6_account_138 ?_
                refine lv_aload_n hx hb dX6_account_139 rfl (lv_at hl 0 rfl) ?_
                refine xt_get (ci := 6) (C := RX6) (T := TX6) (n := 12) (v := .ref (ad 7)) hx hb hts iX6_account_X6 hown hK hP 0 (by decide) (LX6_obj ad cy _) rfl 2 (by decide) w6 rfl dX6_account_140 ?_
                refine xt_get (ci := 4) (C := RX4) (T := TX4) (n := 9) (v := .int (σ 7 8)) hx hb hts iX6_account_X4 hown hK hP 7 (by decide) (LX4_obj ad cy _) rfl 8 (by decide) w8 rfl dX6_account_143 ?_
                refine lv_isub hx hb dX6_account_146 ?_
                exact xt_iret hx hb hr hP hS (Option.some.inj hf) rfl dX6_account_147 hlocks
              · have hf := (if_neg c8).symm.trans hf
                by_cases c9 : a1 = 7
                · have hf := (if_pos c9).symm.trans hf
                  refine lv_tableIn (tgt := 148) (off := 147) hx hb dX6_account_1 (by rw [c9]; decide) (by rw [c9]; decide) (by rw [c9]; rfl) (by decide) ?_
                  refine lv_aload_n hx hb dX6_account_148 rfl (lv_at hl 0 rfl) ?_
                  refine xt_get (ci := 6) (C := RX6) (T := TX6) (n := 12) (v := .ref (ad 33)) hx hb hts iX6_account_X6 hown hK hP 0 (by decide) (LX6_obj ad cy _) rfl 0 (by decide) w1 rfl dX6_account_149 ?_
                  obtain ⟨r10, qr10, hf⟩ := bd_some hf
                  refine xt_callVi (As := []) (rest := []) (C := RX1) (ci := 1) ⟨hx, hb, hml, hown, hts⟩ 33 (mX1_allTons l dC dI ad cy hJ 0 (by decide) σ r10 qr10) (cwV 0 hts gX6_account_X1_allTons rfl rfl rfl dmX1_allTons ⟨Nat.le_of_ble_eq_true rfl, Nat.le_of_ble_eq_true rfl⟩) hK hP hS (by decide) (LX1_obj ad cy 0 (by decide) _) rfl rfl rfl hl.1 (Nat.le_of_ble_eq_true rfl) ⟨Nat.zero_le _, Nat.zero_le _⟩ dX6_account_152 (fun H locs hP hS => ?_)
                  exact xt_iret hx hb hr hP hS (Option.some.inj hf) rfl dX6_account_155 hlocks
                · have hf := (if_neg c9).symm.trans hf
                  by_cases c11 : a1 = 8
                  · have hf := (if_pos c11).symm.trans hf
                    refine lv_tableIn (tgt := 156) (off := 155) hx hb dX6_account_1 (by rw [c11]; decide) (by rw [c11]; decide) (by rw [c11]; rfl) (by decide) ?_
                    refine lv_aload_n hx hb dX6_account_156 rfl (lv_at hl 0 rfl) ?_
                    refine xt_get (ci := 6) (C := RX6) (T := TX6) (n := 12) (v := .ref (ad 7)) hx hb hts iX6_account_X6 hown hK hP 0 (by decide) (LX6_obj ad cy _) rfl 2 (by decide) w6 rfl dX6_account_157 ?_
                    obtain ⟨r12, qr12, hf⟩ := bd_some hf
                    refine xt_callVi (As := []) (rest := []) (C := RX4) (ci := 4) ⟨hx, hb, hml, hown, hts⟩ 7 (mX4_allLyingTons l dC dI ad cy hJ σ r12 qr12) (cwV 0 hts gX6_account_X4_allLyingTons rfl rfl rfl dmX4_allLyingTons ⟨Nat.le_of_ble_eq_true rfl, Nat.le_of_ble_eq_true rfl⟩) hK hP hS (by decide) (LX4_obj ad cy _) rfl rfl rfl hl.1 (Nat.le_of_ble_eq_true rfl) ⟨Nat.zero_le _, Nat.zero_le _⟩ dX6_account_160 (fun H locs hP hS => ?_)
                    exact xt_iret hx hb hr hP hS (Option.some.inj hf) rfl dX6_account_163 hlocks
                  · have hf := (if_neg c11).symm.trans hf
                    by_cases c13 : a1 = 9
                    · have hf := (if_pos c13).symm.trans hf
                      refine lv_tableIn (tgt := 164) (off := 163) hx hb dX6_account_1 (by rw [c13]; decide) (by rw [c13]; decide) (by rw [c13]; rfl) (by decide) ?_
                      refine lv_aload_n hx hb dX6_account_164 rfl (lv_at hl 0 rfl) ?_
                      refine xt_get (ci := 6) (C := RX6) (T := TX6) (n := 12) (v := .ref (ad 33)) hx hb hts iX6_account_X6 hown hK hP 0 (by decide) (LX6_obj ad cy _) rfl 0 (by decide) w1 rfl dX6_account_165 ?_
                      obtain ⟨r14, qr14, hf⟩ := bd_some hf
                      refine xt_callVi (As := []) (rest := []) (C := RX1) (ci := 1) ⟨hx, hb, hml, hown, hts⟩ 33 (mX1_allRoom l dC dI ad cy hJ 0 (by decide) σ r14 qr14) (cwV 0 hts gX6_account_X1_allRoom rfl rfl rfl dmX1_allRoom ⟨Nat.le_of_ble_eq_true rfl, Nat.le_of_ble_eq_true rfl⟩) hK hP hS (by decide) (LX1_obj ad cy 0 (by decide) _) rfl rfl rfl hl.1 (Nat.le_of_ble_eq_true rfl) ⟨Nat.zero_le _, Nat.zero_le _⟩ dX6_account_168 (fun H locs hP hS => ?_)
                      exact xt_iret hx hb hr hP hS (Option.some.inj hf) rfl dX6_account_171 hlocks
                    · have hf := (if_neg c13).symm.trans hf
                      by_cases c15 : a1 = 10
                      · have hf := (if_pos c15).symm.trans hf
                        refine lv_tableIn (tgt := 172) (off := 171) hx hb dX6_account_1 (by rw [c15]; decide) (by rw [c15]; decide) (by rw [c15]; rfl) (by decide) ?_
                        refine lv_aload_n hx hb dX6_account_172 rfl (lv_at hl 0 rfl) ?_
                        refine xt_get (ci := 6) (C := RX6) (T := TX6) (n := 12) (v := .ref (ad 33)) hx hb hts iX6_account_X6 hown hK hP 0 (by decide) (LX6_obj ad cy _) rfl 0 (by decide) w1 rfl dX6_account_173 ?_
                        refine xt_get (ci := 1) (C := RX1) (T := TX1) (n := 8) (v := .int (σ 33 7)) hx hb hts iX6_account_X1 hown hK hP 33 (by decide) (LX1_obj ad cy 0 (by decide) _) rfl 7 (by decide) w9 rfl dX6_account_176 ?_
                        exact xt_iret hx hb hr hP hS (Option.some.inj hf) rfl dX6_account_179 hlocks
                      · have hf := (if_neg c15).symm.trans hf
                        by_cases c16 : a1 = 11
                        · have hf := (if_pos c16).symm.trans hf
                          refine lv_tableIn (tgt := 180) (off := 179) hx hb dX6_account_1 (by rw [c16]; decide) (by rw [c16]; decide) (by rw [c16]; rfl) (by decide) ?_
                          refine lv_aload_n hx hb dX6_account_180 rfl (lv_at hl 0 rfl) ?_
                          refine xt_get (ci := 6) (C := RX6) (T := TX6) (n := 12) (v := .ref (ad 33)) hx hb hts iX6_account_X6 hown hK hP 0 (by decide) (LX6_obj ad cy _) rfl 0 (by decide) w1 rfl dX6_account_181 ?_
                          refine xt_get (ci := 1) (C := RX1) (T := TX1) (n := 8) (v := .int (σ 33 6)) hx hb hts iX6_account_X1 hown hK hP 33 (by decide) (LX1_obj ad cy 0 (by decide) _) rfl 6 (by decide) w10 rfl dX6_account_184 ?_
                          exact xt_iret hx hb hr hP hS (Option.some.inj hf) rfl dX6_account_187 hlocks
                        · have hf := (if_neg c16).symm.trans hf
                          by_cases c17 : a1 = 12
                          · have hf := (if_pos c17).symm.trans hf
                            refine lv_tableIn (tgt := 188) (off := 187) hx hb dX6_account_1 (by rw [c17]; decide) (by rw [c17]; decide) (by rw [c17]; rfl) (by decide) ?_
                            refine lv_aload_n hx hb dX6_account_188 rfl (lv_at hl 0 rfl) ?_
                            obtain ⟨r18, qr18, hf⟩ := bd_some hf
                            refine xt_callVi (As := []) (rest := []) (C := RX6) (ci := 6) ⟨hx, hb, hml, hown, hts⟩ 0 (mX6_hotPiers l dC dI ad cy hJ σ r18 qr18) (cwV 0 hts gX6_account_X6_hotPiers rfl rfl rfl dmX6_hotPiers ⟨Nat.le_of_ble_eq_true rfl, Nat.le_of_ble_eq_true rfl⟩) hK hP hS (by decide) (LX6_obj ad cy _) rfl rfl rfl hl.1 (Nat.le_of_ble_eq_true rfl) ⟨Nat.zero_le _, Nat.zero_le _⟩ dX6_account_189 (fun H locs hP hS => ?_)
                            exact xt_iret hx hb hr hP hS (Option.some.inj hf) rfl dX6_account_192 hlocks
                          · have hf := (if_neg c17).symm.trans hf
                            by_cases c19 : a1 = 13
                            · have hf := (if_pos c19).symm.trans hf
                              refine lv_tableIn (tgt := 193) (off := 192) hx hb dX6_account_1 (by rw [c19]; decide) (by rw [c19]; decide) (by rw [c19]; rfl) (by decide) ?_
                              refine lv_aload_n hx hb dX6_account_193 rfl (lv_at hl 0 rfl) ?_
                              refine xt_get (ci := 6) (C := RX6) (T := TX6) (n := 12) (v := .ref (ad 3)) hx hb hts iX6_account_X6 hown hK hP 0 (by decide) (LX6_obj ad cy _) rfl 7 (by decide) w11 rfl dX6_account_194 ?_
                              refine xt_get (ci := 5) (C := RX5) (T := TX5) (n := 6) (v := .int (σ 3 0)) hx hb hts iX6_account_X5 hown hK hP 3 (by decide) (LX5_obj ad cy _) rfl 0 (by decide) w12 rfl dX6_account_197 ?_
                              exact xt_iret hx hb hr hP hS (Option.some.inj hf) rfl dX6_account_200 hlocks
                            · have hf := (if_neg c19).symm.trans hf
                              by_cases c20 : a1 = 14
                              · have hf := (if_pos c20).symm.trans hf
                                refine lv_tableIn (tgt := 201) (off := 200) hx hb dX6_account_1 (by rw [c20]; decide) (by rw [c20]; decide) (by rw [c20]; rfl) (by decide) ?_
                                refine lv_aload_n hx hb dX6_account_201 rfl (lv_at hl 0 rfl) ?_
                                refine xt_get (ci := 6) (C := RX6) (T := TX6) (n := 12) (v := .ref (ad 1)) hx hb hts iX6_account_X6 hown hK hP 0 (by decide) (LX6_obj ad cy _) rfl 5 (by decide) w13 rfl dX6_account_202 ?_
                                refine xt_get (ci := 2) (C := RX2) (T := TX2) (n := 3) (v := .int (σ 1 0)) hx hb hts iX6_account_X2 hown hK hP 1 (by decide) (LX2_obj ad cy _) rfl 0 (by decide) w14 rfl dX6_account_205 ?_
                                exact xt_iret hx hb hr hP hS (Option.some.inj hf) rfl dX6_account_208 hlocks
                              · have hf := (if_neg c20).symm.trans hf
                                refine lv_tableOut (tgt := 209) hx hb dX6_account_1 (by have ic1 : ¬ Int32.toInt a1 = 0 := lv_neT c1 (by decide); have ic2 : ¬ Int32.toInt a1 = 1 := lv_neT c2 (by decide); have ic4 : ¬ Int32.toInt a1 = 2 := lv_neT c4 (by decide); have ic5 : ¬ Int32.toInt a1 = 3 := lv_neT c5 (by decide); have ic6 : ¬ Int32.toInt a1 = 4 := lv_neT c6 (by decide); have ic7 : ¬ Int32.toInt a1 = 5 := lv_neT c7 (by decide); have ic8 : ¬ Int32.toInt a1 = 6 := lv_neT c8 (by decide); have ic9 : ¬ Int32.toInt a1 = 7 := lv_neT c9 (by decide); have ic11 : ¬ Int32.toInt a1 = 8 := lv_neT c11 (by decide); have ic13 : ¬ Int32.toInt a1 = 9 := lv_neT c13 (by decide); have ic15 : ¬ Int32.toInt a1 = 10 := lv_neT c15 (by decide); have ic16 : ¬ Int32.toInt a1 = 11 := lv_neT c16 (by decide); have ic17 : ¬ Int32.toInt a1 = 12 := lv_neT c17 (by decide); have ic19 : ¬ Int32.toInt a1 = 13 := lv_neT c19 (by decide); have ic20 : ¬ Int32.toInt a1 = 14 := lv_neT c20 (by decide); omega) (by decide) ?_
                                refine lv_bipush (v := (-12)) hx hb dX6_account_209 (by decide) ?_
                                exact xt_iret hx hb hr hP hS (Option.some.inj hf) rfl dX6_account_211 hlocks
def fX6_homesAgree_B49 (σ : St) : Option Int32 :=
  some (1 : Int32)
def fX6_homesAgree_L2 (σ : St) (K2_49 : Option Int32) : Nat → Int32 → Option Int32
  | 0, _ => none
  | n2 + 1, x1 => if (σ 33 5) ≤ x1 then (K2_49) else (bd (fX1_pointOf 0 σ x1) fun r2 => bd (fX0_homeByTree 0 σ r2) fun r3 => bd (fX0_homeAlong 0 σ r2) fun r4 => if r3 = r4 then (nm (x1 + 1) fun v6 => (fX6_homesAgree_L2 σ K2_49 n2) v6) else (some (0 : Int32)))
def fX6_homesAgree (σ : St) : Option Int32 :=
  fX6_homesAgree_L2 σ (fX6_homesAgree_B49 σ) 1000 0
abbrev rmX6_homesAgree : Room := { frames := 2, cells := 0, slots := 0, locals := 46 }
theorem dmX6_homesAgree : yX6_homesAgree.cls = RX6 ∧ yX6_homesAgree.cls ≠ "java/lang/invoke/MethodHandle" ∧ yX6_homesAgree.cls ≠ "java/lang/invoke/VarHandle" ∧ (parseMethodDescriptor yX6_homesAgree.desc).map (fun d => d.parameters.length) = some 0 := by decide +kernel
theorem iX6_homesAgree_X1 : ∀ w ∈ wsX10, w ∈ wsX6_homesAgree := fun w h => List.mem_cons_of_mem _ (List.mem_append_left _ (List.mem_append_right _ (h)))
theorem iX6_homesAgree_X6 : ∀ w ∈ wsX60, w ∈ wsX6_homesAgree := fun w h => List.mem_cons_of_mem _ (List.mem_append_left _ (List.mem_append_left _ (List.mem_append_right _ (h))))
set_option maxHeartbeats 8000000 in
set_option maxRecDepth 100000 in
theorem mX6_homesAgree (l : Launch) (dC : Nat → ClassId) (dI : Nat → Nat → Nat) (ad : Nat → Nat) (cy : Nat → ClassId) (hJ : WJ 93 ad) (σ : St) (res : Int32) (hf : fX6_homesAgree σ = some res) : CMi l yX6_homesAgree wsX6_homesAgree rmX6_homesAgree (dC, dI) (tysX cy) 93 ad (layX ad cy) [.ref (ad 0)] σ res σ := by
  refine Met.ofW (cc := cX6_homesAgree) (maxL := 3) (ret := (some .boolean)) (by decide) rfl ?_
  intro p e s m args below meth c s₁ B hml hv
  obtain ⟨hargs, hP, hK⟩ := hv
  have hx := B.exec
  have hb := B.bytes
  have hr := B.returns
  have hts := atoms_spec (ws := wsX6_homesAgree) B.pre
  have hown : s.vm.findClass RX6 = some m.cls := findClass_of_methodNamed B.named
  have hlocks := B.notSynchronized
  have w1 := hts (.fieldLink RX6 12 "PierRings" "harbour" "LPierRings$Harbour;") (List.mem_of_getElem? (i := 1) rfl)
  have w2 := hts (.fieldLink RX6 252 "PierRings$Harbour" "barges" "I") (List.mem_of_getElem? (i := 2) rfl)
  have w3 := hts (.fieldLink RX6 19 "PierRings" "circle" "LPierRings$Circle;") (List.mem_of_getElem? (i := 3) rfl)
  have hS : va_S (WA 93 ad) s.heap s.heap [] := va_S.rf
  have hfr : entryFrame m args 3 = F0 m 0 ((lg_sl [.ref (ad 0)] ++ List.replicate (3 - (lg_sl [.ref (ad 0)]).length) Slot.unset).toArray) [] := by rw [hargs]; exact lg_entry_eq _ _ _
  rw [hfr]
  have hl := lv_entry ([.ref (ad 0)]) (n := 3) (Nat.le_of_ble_eq_true rfl)
  generalize (lg_sl [.ref (ad 0)] ++ List.replicate (3 - (lg_sl [.ref (ad 0)]).length) Slot.unset).toArray = ls at hl ⊢
  have hl : lv_has ls 3 [(0, .ref (ad 0))] := hl
  clear hfr hargs B
  show W p l e rmX6_homesAgree s m args below meth c s.heap [] 0 0 (MQ below (Qiw (dC, dI) 93 ad (layX ad cy) res σ) args s 0 0 (WA 93 ad)) (F0 m 0 ls [])
  have kB49 : fX6_homesAgree_B49 σ = some res → ∀ (H : Heap) (locs : List Loc), va_P (dC, dI) vwCl (wd 93 ad (layX ad cy) σ) H → va_S (WA 93 ad) s.heap H locs → ∀ (ls : Array Slot), lv_has ls 3 [] → W p l e rmX6_homesAgree s m args below meth c H locs 0 0 (MQ below (Qiw (dC, dI) 93 ad (layX ad cy) res σ) args s 0 0 (WA 93 ad)) (F0 m 49 ls []) := by
    intro  hf H locs hP hS ls hl
    unfold fX6_homesAgree_B49 at hf
    refine lv_iconst (v := 1) hx hb dX6_homesAgree_49 (by decide) ?_
    exact xt_zret hx hb hr rfl hP hS (Option.some.inj hf) rfl dX6_homesAgree_50 hlocks
  have loop2 : ∀ (n2 : Nat) (x1 : Int32), fX6_homesAgree_L2 σ (fX6_homesAgree_B49 σ) n2 x1 = some res → ∀ (H : Heap) (locs : List Loc), va_P (dC, dI) vwCl (wd 93 ad (layX ad cy) σ) H → va_S (WA 93 ad) s.heap H locs → ∀ (ls : Array Slot), lv_has ls 3 [(0, .ref (ad 0)), (1, .int x1)] → W p l e rmX6_homesAgree s m args below meth c H locs 0 0 (MQ below (Qiw (dC, dI) 93 ad (layX ad cy) res σ) args s 0 0 (WA 93 ad)) (F0 m 2 ls []) := by
    intro n2
    induction n2 with
    | zero => intro x1 hf; simp [fX6_homesAgree_L2] at hf
    | succ n2 ih2 =>
      intro x1 hf H locs hP hS ls hl
      rw [fX6_homesAgree_L2] at hf
      refine lv_iload_n hx hb dX6_homesAgree_2 rfl (lv_at hl 1 rfl) ?_
      refine lv_aload_n hx hb dX6_homesAgree_3 rfl (lv_at hl 0 rfl) ?_
      refine xt_get (ci := 6) (C := RX6) (T := TX6) (n := 12) (v := .ref (ad 33)) hx hb hts iX6_homesAgree_X6 hown hK hP 0 (by decide) (LX6_obj ad cy _) rfl 0 (by decide) w1 rfl dX6_homesAgree_4 ?_
      refine xt_get (ci := 1) (C := RX1) (T := TX1) (n := 8) (v := .int (σ 33 5)) hx hb hts iX6_homesAgree_X1 hown hK hP 33 (by decide) (LX1_obj ad cy 0 (by decide) _) rfl 5 (by decide) w2 rfl dX6_homesAgree_7 ?_
      refine lv_icmp_ge (tgt := 49) hx hb dX6_homesAgree_10 (by decide) (fun c1 => ?_) (fun c1 => ?_)
      · have hf := (if_pos c1).symm.trans hf
        exact kB49 hf H locs hP hS ls (lv_sub hl [] rfl)
      · have hf := (if_neg c1).symm.trans hf
        refine lv_aload_n hx hb dX6_homesAgree_13 rfl (lv_at hl 0 rfl) ?_
        refine xt_get (ci := 6) (C := RX6) (T := TX6) (n := 12) (v := .ref (ad 33)) hx hb hts iX6_homesAgree_X6 hown hK hP 0 (by decide) (LX6_obj ad cy _) rfl 0 (by decide) w1 rfl dX6_homesAgree_14 ?_
        refine lv_iload_n hx hb dX6_homesAgree_17 rfl (lv_at hl 1 rfl) ?_
        obtain ⟨r2, qr2, hf⟩ := bd_some hf
        refine xt_callVi (As := [.int x1]) (rest := []) (C := RX1) (ci := 1) ⟨hx, hb, hml, hown, hts⟩ 33 (mX1_pointOf l dC dI ad cy hJ 0 (by decide) σ x1 r2 qr2) (cwV 1 hts gX6_homesAgree_X1_pointOf rfl rfl rfl dmX1_pointOf ⟨Nat.le_of_ble_eq_true rfl, Nat.le_of_ble_eq_true rfl⟩) hK hP hS (by decide) (LX1_obj ad cy 0 (by decide) _) rfl rfl rfl hl.1 (Nat.le_of_ble_eq_true rfl) ⟨Nat.zero_le _, Nat.zero_le _⟩ dX6_homesAgree_18 (fun H locs hP hS => ?_)
        refine lv_istore_n (lv' := [(2, .int r2), (0, .ref (ad 0)), (1, .int x1)]) hx hb dX6_homesAgree_21 rfl hl (by decide) rfl (fun ls hl => ?_)
        refine lv_aload_n hx hb dX6_homesAgree_22 rfl (lv_at hl 1 rfl) ?_
        refine xt_get (ci := 6) (C := RX6) (T := TX6) (n := 12) (v := .ref (ad 15)) hx hb hts iX6_homesAgree_X6 hown hK hP 0 (by decide) (LX6_obj ad cy _) rfl 1 (by decide) w3 rfl dX6_homesAgree_23 ?_
        refine lv_iload_n hx hb dX6_homesAgree_26 rfl (lv_at hl 0 rfl) ?_
        obtain ⟨r3, qr3, hf⟩ := bd_some hf
        refine xt_callVi (As := [.int r2]) (rest := []) (C := RX0) (ci := 0) ⟨hx, hb, hml, hown, hts⟩ 15 (mX0_homeByTree l dC dI ad cy hJ 0 (by decide) σ r2 r3 qr3) (cwV 1 hts gX6_homesAgree_X0_homeByTree rfl rfl rfl dmX0_homeByTree ⟨Nat.le_of_ble_eq_true rfl, Nat.le_of_ble_eq_true rfl⟩) hK hP hS (by decide) (LX0_obj ad cy 0 (by decide) _) rfl rfl rfl hl.1 (Nat.le_of_ble_eq_true rfl) ⟨Nat.zero_le _, Nat.zero_le _⟩ dX6_homesAgree_27 (fun H locs hP hS => ?_)
        refine lv_aload_n hx hb dX6_homesAgree_30 rfl (lv_at hl 1 rfl) ?_
        refine xt_get (ci := 6) (C := RX6) (T := TX6) (n := 12) (v := .ref (ad 15)) hx hb hts iX6_homesAgree_X6 hown hK hP 0 (by decide) (LX6_obj ad cy _) rfl 1 (by decide) w3 rfl dX6_homesAgree_31 ?_
        refine lv_iload_n hx hb dX6_homesAgree_34 rfl (lv_at hl 0 rfl) ?_
        obtain ⟨r4, qr4, hf⟩ := bd_some hf
        refine xt_callVi (As := [.int r2]) (rest := [.int r3]) (C := RX0) (ci := 0) ⟨hx, hb, hml, hown, hts⟩ 15 (mX0_homeAlong l dC dI ad cy hJ 0 (by decide) σ r2 r4 qr4) (cwV 1 hts gX6_homesAgree_X0_homeAlong rfl rfl rfl dmX0_homeAlong ⟨Nat.le_of_ble_eq_true rfl, Nat.le_of_ble_eq_true rfl⟩) hK hP hS (by decide) (LX0_obj ad cy 0 (by decide) _) rfl rfl rfl hl.1 (Nat.le_of_ble_eq_true rfl) ⟨Nat.zero_le _, Nat.zero_le _⟩ dX6_homesAgree_35 (fun H locs hP hS => ?_)
        refine lv_icmp_eq (tgt := 43) hx hb dX6_homesAgree_38 (by decide) (fun c5 => ?_) (fun c5 => ?_)
        · have hf := (if_pos c5).symm.trans hf
          obtain ⟨v6, ev6⟩ : ∃ y : Int32, y = x1 + 1 := ⟨_, rfl⟩
          have hf := nm_to hf ev6
          refine lv_iinc (v := v6) (lv' := [(1, .int v6), (2, .int r2), (0, .ref (ad 0))]) hx hb dX6_homesAgree_43 hl (k := 2) rfl (by rw [ev6]; rfl) (by decide) rfl (fun ls hl => ?_)
          refine lv_goto (tgt := 2) hx hb dX6_homesAgree_46 (by decide) ?_
          exact ih2 v6 hf H locs hP hS ls (lv_sub hl [2, 0] rfl)
        · have hf := (if_neg c5).symm.trans hf
          refine lv_iconst (v := 0) hx hb dX6_homesAgree_41 (by decide) ?_
          exact xt_zret hx hb hr rfl hP hS (Option.some.inj hf) rfl dX6_homesAgree_42 hlocks
  unfold fX6_homesAgree at hf
  obtain ⟨H, eH⟩ : ∃ H : Heap, H = s.heap := ⟨_, rfl⟩
  rw [← eH] at hP
  have hS : va_S (WA 93 ad) s.heap H [] := by rw [eH]; exact hS
  suffices K : W p l e rmX6_homesAgree s m args below meth c H [] 0 0 (MQ below (Qiw (dC, dI) 93 ad (layX ad cy) res σ) args s 0 0 (WA 93 ad)) (F0 m 0 ls []) by rw [eH] at K; exact K
  clear eH
  obtain ⟨locs, elocs⟩ : ∃ z : List Loc, z = [] := ⟨_, rfl⟩
  rw [← elocs] at hS ⊢
  refine lv_iconst (v := 0) hx hb dX6_homesAgree_0 (by decide) ?_
  refine lv_istore_n (lv' := [(1, .int 0), (0, .ref (ad 0))]) hx hb dX6_homesAgree_1 rfl hl (by decide) rfl (fun ls hl => ?_)
  exact loop2 1000 0 hf H locs hP hS ls (lv_sub hl [1, 0] rfl)
def fX6_stretchesFillTheRing_B32 (σ : St) (x1 : Int32) : Option Int32 :=
  if x1 = (360 : Int32) then (some (1 : Int32)) else (bd (fX1_openPiers 0 σ) fun r2 => if r2 = 0 then (some (1 : Int32)) else (some (0 : Int32)))
def fX6_stretchesFillTheRing_L4 (σ : St) (K4_32 : Int32 → Option Int32) : Nat → Int32 → Int32 → Option Int32
  | 0, _, _ => none
  | n4 + 1, x1, x2 => if (σ 33 4) ≤ x2 then (K4_32 x1) else (bd (fX0_stretchOf 0 σ x2) fun r5 => nm (x1 + r5) fun v6 => nm (x2 + 1) fun v7 => (fX6_stretchesFillTheRing_L4 σ K4_32 n4) v6 v7)
def fX6_stretchesFillTheRing (σ : St) : Option Int32 :=
  fX6_stretchesFillTheRing_L4 σ (fun y1 => fX6_stretchesFillTheRing_B32 σ y1) 1000 0 0
abbrev rmX6_stretchesFillTheRing : Room := { frames := 2, cells := 0, slots := 0, locals := 47 }
theorem dmX6_stretchesFillTheRing : yX6_stretchesFillTheRing.cls = RX6 ∧ yX6_stretchesFillTheRing.cls ≠ "java/lang/invoke/MethodHandle" ∧ yX6_stretchesFillTheRing.cls ≠ "java/lang/invoke/VarHandle" ∧ (parseMethodDescriptor yX6_stretchesFillTheRing.desc).map (fun d => d.parameters.length) = some 0 := by decide +kernel
theorem iX6_stretchesFillTheRing_X1 : ∀ w ∈ wsX10, w ∈ wsX6_stretchesFillTheRing := fun w h => List.mem_cons_of_mem _ (List.mem_append_left _ (List.mem_append_right _ (h)))
theorem iX6_stretchesFillTheRing_X6 : ∀ w ∈ wsX60, w ∈ wsX6_stretchesFillTheRing := fun w h => List.mem_cons_of_mem _ (List.mem_append_left _ (List.mem_append_left _ (List.mem_append_right _ (h))))
set_option maxHeartbeats 8000000 in
set_option maxRecDepth 100000 in
theorem mX6_stretchesFillTheRing (l : Launch) (dC : Nat → ClassId) (dI : Nat → Nat → Nat) (ad : Nat → Nat) (cy : Nat → ClassId) (hJ : WJ 93 ad) (σ : St) (res : Int32) (hf : fX6_stretchesFillTheRing σ = some res) : CMi l yX6_stretchesFillTheRing wsX6_stretchesFillTheRing rmX6_stretchesFillTheRing (dC, dI) (tysX cy) 93 ad (layX ad cy) [.ref (ad 0)] σ res σ := by
  refine Met.ofW (cc := cX6_stretchesFillTheRing) (maxL := 3) (ret := (some .boolean)) (by decide) rfl ?_
  intro p e s m args below meth c s₁ B hml hv
  obtain ⟨hargs, hP, hK⟩ := hv
  have hx := B.exec
  have hb := B.bytes
  have hr := B.returns
  have hts := atoms_spec (ws := wsX6_stretchesFillTheRing) B.pre
  have hown : s.vm.findClass RX6 = some m.cls := findClass_of_methodNamed B.named
  have hlocks := B.notSynchronized
  have w1 := hts (.fieldLink RX6 12 "PierRings" "harbour" "LPierRings$Harbour;") (List.mem_of_getElem? (i := 1) rfl)
  have w2 := hts (.fieldLink RX6 186 "PierRings$Harbour" "piers" "I") (List.mem_of_getElem? (i := 2) rfl)
  have w3 := hts (.fieldLink RX6 19 "PierRings" "circle" "LPierRings$Circle;") (List.mem_of_getElem? (i := 3) rfl)
  have hS : va_S (WA 93 ad) s.heap s.heap [] := va_S.rf
  have hfr : entryFrame m args 3 = F0 m 0 ((lg_sl [.ref (ad 0)] ++ List.replicate (3 - (lg_sl [.ref (ad 0)]).length) Slot.unset).toArray) [] := by rw [hargs]; exact lg_entry_eq _ _ _
  rw [hfr]
  have hl := lv_entry ([.ref (ad 0)]) (n := 3) (Nat.le_of_ble_eq_true rfl)
  generalize (lg_sl [.ref (ad 0)] ++ List.replicate (3 - (lg_sl [.ref (ad 0)]).length) Slot.unset).toArray = ls at hl ⊢
  have hl : lv_has ls 3 [(0, .ref (ad 0))] := hl
  clear hfr hargs B
  show W p l e rmX6_stretchesFillTheRing s m args below meth c s.heap [] 0 0 (MQ below (Qiw (dC, dI) 93 ad (layX ad cy) res σ) args s 0 0 (WA 93 ad)) (F0 m 0 ls [])
  have kB32 : ∀ (x1 : Int32), fX6_stretchesFillTheRing_B32 σ x1 = some res → ∀ (H : Heap) (locs : List Loc), va_P (dC, dI) vwCl (wd 93 ad (layX ad cy) σ) H → va_S (WA 93 ad) s.heap H locs → ∀ (ls : Array Slot), lv_has ls 3 [(0, .ref (ad 0)), (1, .int x1)] → W p l e rmX6_stretchesFillTheRing s m args below meth c H locs 0 0 (MQ below (Qiw (dC, dI) 93 ad (layX ad cy) res σ) args s 0 0 (WA 93 ad)) (F0 m 32 ls []) := by
    intro x1 hf H locs hP hS ls hl
    unfold fX6_stretchesFillTheRing_B32 at hf
    refine lv_iload_n hx hb dX6_stretchesFillTheRing_32 rfl (lv_at hl 1 rfl) ?_
    refine lv_sipush (v := 360) hx hb dX6_stretchesFillTheRing_33 (by decide) ?_
    refine lv_icmp_eq (tgt := 49) hx hb dX6_stretchesFillTheRing_36 (by decide) (fun c1 => ?_) (fun c1 => ?_)
    · have hf := (if_pos c1).symm.trans hf
      refine lv_iconst (v := 1) hx hb dX6_stretchesFillTheRing_49 (by decide) ?_
      refine lv_goto (tgt := 54) hx hb dX6_stretchesFillTheRing_50 (by decide) ?_
      exact xt_zret hx hb hr rfl hP hS (Option.some.inj hf) rfl dX6_stretchesFillTheRing_54 hlocks
    · have hf := (if_neg c1).symm.trans hf
      refine lv_aload_n hx hb dX6_stretchesFillTheRing_39 rfl (lv_at hl 0 rfl) ?_
      refine xt_get (ci := 6) (C := RX6) (T := TX6) (n := 12) (v := .ref (ad 33)) hx hb hts iX6_stretchesFillTheRing_X6 hown hK hP 0 (by decide) (LX6_obj ad cy _) rfl 0 (by decide) w1 rfl dX6_stretchesFillTheRing_40 ?_
      obtain ⟨r2, qr2, hf⟩ := bd_some hf
      refine xt_callVi (As := []) (rest := []) (C := RX1) (ci := 1) ⟨hx, hb, hml, hown, hts⟩ 33 (mX1_openPiers l dC dI ad cy hJ 0 (by decide) σ r2 qr2) (cwV 0 hts gX6_stretchesFillTheRing_X1_openPiers rfl rfl rfl dmX1_openPiers ⟨Nat.le_of_ble_eq_true rfl, Nat.le_of_ble_eq_true rfl⟩) hK hP hS (by decide) (LX1_obj ad cy 0 (by decide) _) rfl rfl rfl hl.1 (Nat.le_of_ble_eq_true rfl) ⟨Nat.zero_le _, Nat.zero_le _⟩ dX6_stretchesFillTheRing_43 (fun H locs hP hS => ?_)
      refine lv_if_ne (tgt := 53) hx hb dX6_stretchesFillTheRing_46 (by decide) (fun c3 => ?_) (fun c3 => ?_)
      · have hf := (if_neg c3).symm.trans hf
        refine lv_iconst (v := 0) hx hb dX6_stretchesFillTheRing_53 (by decide) ?_
        exact xt_zret hx hb hr rfl hP hS (Option.some.inj hf) rfl dX6_stretchesFillTheRing_54 hlocks
      · have hf := (if_pos c3).symm.trans hf
        refine lv_iconst (v := 1) hx hb dX6_stretchesFillTheRing_49 (by decide) ?_
        refine lv_goto (tgt := 54) hx hb dX6_stretchesFillTheRing_50 (by decide) ?_
        exact xt_zret hx hb hr rfl hP hS (Option.some.inj hf) rfl dX6_stretchesFillTheRing_54 hlocks
  have loop4 : ∀ (n4 : Nat) (x1 : Int32) (x2 : Int32), fX6_stretchesFillTheRing_L4 σ (fun y1 => fX6_stretchesFillTheRing_B32 σ y1) n4 x1 x2 = some res → ∀ (H : Heap) (locs : List Loc), va_P (dC, dI) vwCl (wd 93 ad (layX ad cy) σ) H → va_S (WA 93 ad) s.heap H locs → ∀ (ls : Array Slot), lv_has ls 3 [(0, .ref (ad 0)), (1, .int x1), (2, .int x2)] → W p l e rmX6_stretchesFillTheRing s m args below meth c H locs 0 0 (MQ below (Qiw (dC, dI) 93 ad (layX ad cy) res σ) args s 0 0 (WA 93 ad)) (F0 m 4 ls []) := by
    intro n4
    induction n4 with
    | zero => intro x1 x2 hf; simp [fX6_stretchesFillTheRing_L4] at hf
    | succ n4 ih4 =>
      intro x1 x2 hf H locs hP hS ls hl
      rw [fX6_stretchesFillTheRing_L4] at hf
      refine lv_iload_n hx hb dX6_stretchesFillTheRing_4 rfl (lv_at hl 2 rfl) ?_
      refine lv_aload_n hx hb dX6_stretchesFillTheRing_5 rfl (lv_at hl 0 rfl) ?_
      refine xt_get (ci := 6) (C := RX6) (T := TX6) (n := 12) (v := .ref (ad 33)) hx hb hts iX6_stretchesFillTheRing_X6 hown hK hP 0 (by decide) (LX6_obj ad cy _) rfl 0 (by decide) w1 rfl dX6_stretchesFillTheRing_6 ?_
      refine xt_get (ci := 1) (C := RX1) (T := TX1) (n := 8) (v := .int (σ 33 4)) hx hb hts iX6_stretchesFillTheRing_X1 hown hK hP 33 (by decide) (LX1_obj ad cy 0 (by decide) _) rfl 4 (by decide) w2 rfl dX6_stretchesFillTheRing_9 ?_
      refine lv_icmp_ge (tgt := 32) hx hb dX6_stretchesFillTheRing_12 (by decide) (fun c4 => ?_) (fun c4 => ?_)
      · have hf := (if_pos c4).symm.trans hf
        exact kB32 x1 hf H locs hP hS ls (lv_sub hl [0, 1] rfl)
      · have hf := (if_neg c4).symm.trans hf
        refine lv_iload_n hx hb dX6_stretchesFillTheRing_15 rfl (lv_at hl 1 rfl) ?_
        refine lv_aload_n hx hb dX6_stretchesFillTheRing_16 rfl (lv_at hl 0 rfl) ?_
        refine xt_get (ci := 6) (C := RX6) (T := TX6) (n := 12) (v := .ref (ad 15)) hx hb hts iX6_stretchesFillTheRing_X6 hown hK hP 0 (by decide) (LX6_obj ad cy _) rfl 1 (by decide) w3 rfl dX6_stretchesFillTheRing_17 ?_
        refine lv_iload_n hx hb dX6_stretchesFillTheRing_20 rfl (lv_at hl 2 rfl) ?_
        obtain ⟨r5, qr5, hf⟩ := bd_some hf
        refine xt_callVi (As := [.int x2]) (rest := [.int x1]) (C := RX0) (ci := 0) ⟨hx, hb, hml, hown, hts⟩ 15 (mX0_stretchOf l dC dI ad cy hJ 0 (by decide) σ x2 r5 qr5) (cwV 1 hts gX6_stretchesFillTheRing_X0_stretchOf rfl rfl rfl dmX0_stretchOf ⟨Nat.le_of_ble_eq_true rfl, Nat.le_of_ble_eq_true rfl⟩) hK hP hS (by decide) (LX0_obj ad cy 0 (by decide) _) rfl rfl rfl hl.1 (Nat.le_of_ble_eq_true rfl) ⟨Nat.zero_le _, Nat.zero_le _⟩ dX6_stretchesFillTheRing_21 (fun H locs hP hS => ?_)
        refine lv_iadd hx hb dX6_stretchesFillTheRing_24 ?_
        refine lv_topi (fun v6 ev6 => ?_)
        have hf := nm_to hf ev6
        refine lv_istore_n (lv' := [(1, .int v6), (0, .ref (ad 0)), (2, .int x2)]) hx hb dX6_stretchesFillTheRing_25 rfl hl (by decide) rfl (fun ls hl => ?_)
        obtain ⟨v7, ev7⟩ : ∃ y : Int32, y = x2 + 1 := ⟨_, rfl⟩
        have hf := nm_to hf ev7
        refine lv_iinc (v := v7) (lv' := [(2, .int v7), (1, .int v6), (0, .ref (ad 0))]) hx hb dX6_stretchesFillTheRing_26 hl (k := 2) rfl (by rw [ev7]; rfl) (by decide) rfl (fun ls hl => ?_)
        refine lv_goto (tgt := 4) hx hb dX6_stretchesFillTheRing_29 (by decide) ?_
        exact ih4 v6 v7 hf H locs hP hS ls (lv_sub hl [2, 1, 0] rfl)
  unfold fX6_stretchesFillTheRing at hf
  obtain ⟨H, eH⟩ : ∃ H : Heap, H = s.heap := ⟨_, rfl⟩
  rw [← eH] at hP
  have hS : va_S (WA 93 ad) s.heap H [] := by rw [eH]; exact hS
  suffices K : W p l e rmX6_stretchesFillTheRing s m args below meth c H [] 0 0 (MQ below (Qiw (dC, dI) 93 ad (layX ad cy) res σ) args s 0 0 (WA 93 ad)) (F0 m 0 ls []) by rw [eH] at K; exact K
  clear eH
  obtain ⟨locs, elocs⟩ : ∃ z : List Loc, z = [] := ⟨_, rfl⟩
  rw [← elocs] at hS ⊢
  refine lv_iconst (v := 0) hx hb dX6_stretchesFillTheRing_0 (by decide) ?_
  refine lv_istore_n (lv' := [(1, .int 0), (0, .ref (ad 0))]) hx hb dX6_stretchesFillTheRing_1 rfl hl (by decide) rfl (fun ls hl => ?_)
  refine lv_iconst (v := 0) hx hb dX6_stretchesFillTheRing_2 (by decide) ?_
  refine lv_istore_n (lv' := [(2, .int 0), (1, .int 0), (0, .ref (ad 0))]) hx hb dX6_stretchesFillTheRing_3 rfl hl (by decide) rfl (fun ls hl => ?_)
  exact loop4 1000 0 0 hf H locs hP hS ls (lv_sub hl [2, 1, 0] rfl)
def fX6_nothingExceedsItsRoom_B41 (σ : St) : Option Int32 :=
  some (1 : Int32)
def fX6_nothingExceedsItsRoom_L2 (σ : St) (K2_41 : Option Int32) : Nat → Int32 → Option Int32
  | 0, _ => none
  | n2 + 1, x1 => if (σ 33 4) ≤ x1 then (K2_41) else (gd (okI x1 8) <| bd (fX1_roomOf 0 σ x1) fun r3 => if (σ 14 x1.toNatClampNeg) ≤ r3 then (nm (x1 + 1) fun v5 => (fX6_nothingExceedsItsRoom_L2 σ K2_41 n2) v5) else (some (0 : Int32)))
def fX6_nothingExceedsItsRoom (σ : St) : Option Int32 :=
  fX6_nothingExceedsItsRoom_L2 σ (fX6_nothingExceedsItsRoom_B41 σ) 1000 0
abbrev rmX6_nothingExceedsItsRoom : Room := { frames := 1, cells := 0, slots := 0, locals := 21 }
theorem dmX6_nothingExceedsItsRoom : yX6_nothingExceedsItsRoom.cls = RX6 ∧ yX6_nothingExceedsItsRoom.cls ≠ "java/lang/invoke/MethodHandle" ∧ yX6_nothingExceedsItsRoom.cls ≠ "java/lang/invoke/VarHandle" ∧ (parseMethodDescriptor yX6_nothingExceedsItsRoom.desc).map (fun d => d.parameters.length) = some 0 := by decide +kernel
theorem iX6_nothingExceedsItsRoom_X1 : ∀ w ∈ wsX10, w ∈ wsX6_nothingExceedsItsRoom := fun w h => List.mem_cons_of_mem _ (List.mem_append_left _ (List.mem_append_right _ (h)))
theorem iX6_nothingExceedsItsRoom_X4 : ∀ w ∈ wsX40, w ∈ wsX6_nothingExceedsItsRoom := fun w h => List.mem_cons_of_mem _ (List.mem_append_right _ (h))
theorem iX6_nothingExceedsItsRoom_X6 : ∀ w ∈ wsX60, w ∈ wsX6_nothingExceedsItsRoom := fun w h => List.mem_cons_of_mem _ (List.mem_append_left _ (List.mem_append_left _ (List.mem_append_right _ (h))))
set_option maxHeartbeats 8000000 in
set_option maxRecDepth 100000 in
theorem mX6_nothingExceedsItsRoom (l : Launch) (dC : Nat → ClassId) (dI : Nat → Nat → Nat) (ad : Nat → Nat) (cy : Nat → ClassId) (hJ : WJ 93 ad) (σ : St) (res : Int32) (hf : fX6_nothingExceedsItsRoom σ = some res) : CMi l yX6_nothingExceedsItsRoom wsX6_nothingExceedsItsRoom rmX6_nothingExceedsItsRoom (dC, dI) (tysX cy) 93 ad (layX ad cy) [.ref (ad 0)] σ res σ := by
  refine Met.ofW (cc := cX6_nothingExceedsItsRoom) (maxL := 2) (ret := (some .boolean)) (by decide) rfl ?_
  intro p e s m args below meth c s₁ B hml hv
  obtain ⟨hargs, hP, hK⟩ := hv
  have hx := B.exec
  have hb := B.bytes
  have hr := B.returns
  have hts := atoms_spec (ws := wsX6_nothingExceedsItsRoom) B.pre
  have hown : s.vm.findClass RX6 = some m.cls := findClass_of_methodNamed B.named
  have hlocks := B.notSynchronized
  have w1 := hts (.fieldLink RX6 12 "PierRings" "harbour" "LPierRings$Harbour;") (List.mem_of_getElem? (i := 1) rfl)
  have w2 := hts (.fieldLink RX6 186 "PierRings$Harbour" "piers" "I") (List.mem_of_getElem? (i := 2) rfl)
  have w3 := hts (.fieldLink RX6 26 "PierRings" "moorings" "LPierRings$Moorings;") (List.mem_of_getElem? (i := 3) rfl)
  have w4 := hts (.fieldLink RX6 120 "PierRings$Moorings" "lyingTons" "[I") (List.mem_of_getElem? (i := 4) rfl)
  have hS : va_S (WA 93 ad) s.heap s.heap [] := va_S.rf
  have hfr : entryFrame m args 2 = F0 m 0 ((lg_sl [.ref (ad 0)] ++ List.replicate (2 - (lg_sl [.ref (ad 0)]).length) Slot.unset).toArray) [] := by rw [hargs]; exact lg_entry_eq _ _ _
  rw [hfr]
  have hl := lv_entry ([.ref (ad 0)]) (n := 2) (Nat.le_of_ble_eq_true rfl)
  generalize (lg_sl [.ref (ad 0)] ++ List.replicate (2 - (lg_sl [.ref (ad 0)]).length) Slot.unset).toArray = ls at hl ⊢
  have hl : lv_has ls 2 [(0, .ref (ad 0))] := hl
  clear hfr hargs B
  show W p l e rmX6_nothingExceedsItsRoom s m args below meth c s.heap [] 0 0 (MQ below (Qiw (dC, dI) 93 ad (layX ad cy) res σ) args s 0 0 (WA 93 ad)) (F0 m 0 ls [])
  have kB41 : fX6_nothingExceedsItsRoom_B41 σ = some res → ∀ (H : Heap) (locs : List Loc), va_P (dC, dI) vwCl (wd 93 ad (layX ad cy) σ) H → va_S (WA 93 ad) s.heap H locs → ∀ (ls : Array Slot), lv_has ls 2 [] → W p l e rmX6_nothingExceedsItsRoom s m args below meth c H locs 0 0 (MQ below (Qiw (dC, dI) 93 ad (layX ad cy) res σ) args s 0 0 (WA 93 ad)) (F0 m 41 ls []) := by
    intro  hf H locs hP hS ls hl
    unfold fX6_nothingExceedsItsRoom_B41 at hf
    refine lv_iconst (v := 1) hx hb dX6_nothingExceedsItsRoom_41 (by decide) ?_
    exact xt_zret hx hb hr rfl hP hS (Option.some.inj hf) rfl dX6_nothingExceedsItsRoom_42 hlocks
  have loop2 : ∀ (n2 : Nat) (x1 : Int32), fX6_nothingExceedsItsRoom_L2 σ (fX6_nothingExceedsItsRoom_B41 σ) n2 x1 = some res → ∀ (H : Heap) (locs : List Loc), va_P (dC, dI) vwCl (wd 93 ad (layX ad cy) σ) H → va_S (WA 93 ad) s.heap H locs → ∀ (ls : Array Slot), lv_has ls 2 [(0, .ref (ad 0)), (1, .int x1)] → W p l e rmX6_nothingExceedsItsRoom s m args below meth c H locs 0 0 (MQ below (Qiw (dC, dI) 93 ad (layX ad cy) res σ) args s 0 0 (WA 93 ad)) (F0 m 2 ls []) := by
    intro n2
    induction n2 with
    | zero => intro x1 hf; simp [fX6_nothingExceedsItsRoom_L2] at hf
    | succ n2 ih2 =>
      intro x1 hf H locs hP hS ls hl
      rw [fX6_nothingExceedsItsRoom_L2] at hf
      refine lv_iload_n hx hb dX6_nothingExceedsItsRoom_2 rfl (lv_at hl 1 rfl) ?_
      refine lv_aload_n hx hb dX6_nothingExceedsItsRoom_3 rfl (lv_at hl 0 rfl) ?_
      refine xt_get (ci := 6) (C := RX6) (T := TX6) (n := 12) (v := .ref (ad 33)) hx hb hts iX6_nothingExceedsItsRoom_X6 hown hK hP 0 (by decide) (LX6_obj ad cy _) rfl 0 (by decide) w1 rfl dX6_nothingExceedsItsRoom_4 ?_
      refine xt_get (ci := 1) (C := RX1) (T := TX1) (n := 8) (v := .int (σ 33 4)) hx hb hts iX6_nothingExceedsItsRoom_X1 hown hK hP 33 (by decide) (LX1_obj ad cy 0 (by decide) _) rfl 4 (by decide) w2 rfl dX6_nothingExceedsItsRoom_7 ?_
      refine lv_icmp_ge (tgt := 41) hx hb dX6_nothingExceedsItsRoom_10 (by decide) (fun c1 => ?_) (fun c1 => ?_)
      · have hf := (if_pos c1).symm.trans hf
        exact kB41 hf H locs hP hS ls (lv_sub hl [] rfl)
      · have hf := (if_neg c1).symm.trans hf
        refine lv_aload_n hx hb dX6_nothingExceedsItsRoom_13 rfl (lv_at hl 0 rfl) ?_
        refine xt_get (ci := 6) (C := RX6) (T := TX6) (n := 12) (v := .ref (ad 7)) hx hb hts iX6_nothingExceedsItsRoom_X6 hown hK hP 0 (by decide) (LX6_obj ad cy _) rfl 2 (by decide) w3 rfl dX6_nothingExceedsItsRoom_14 ?_
        refine xt_get (ci := 4) (C := RX4) (T := TX4) (n := 9) (v := .ref (ad 14)) hx hb hts iX6_nothingExceedsItsRoom_X4 hown hK hP 7 (by decide) (LX4_obj ad cy _) rfl 6 (by decide) w4 rfl dX6_nothingExceedsItsRoom_17 ?_
        refine lv_iload_n hx hb dX6_nothingExceedsItsRoom_20 rfl (lv_at hl 1 rfl) ?_
        obtain ⟨g2, hf⟩ := gd_some hf
        refine xt_iald hx hb hK hP 14 (by decide) 0 (LX4_lyingTons ad cy _) rfl g2 dX6_nothingExceedsItsRoom_21 ?_
        refine lv_aload_n hx hb dX6_nothingExceedsItsRoom_22 rfl (lv_at hl 0 rfl) ?_
        refine xt_get (ci := 6) (C := RX6) (T := TX6) (n := 12) (v := .ref (ad 33)) hx hb hts iX6_nothingExceedsItsRoom_X6 hown hK hP 0 (by decide) (LX6_obj ad cy _) rfl 0 (by decide) w1 rfl dX6_nothingExceedsItsRoom_23 ?_
        refine lv_iload_n hx hb dX6_nothingExceedsItsRoom_26 rfl (lv_at hl 1 rfl) ?_
        obtain ⟨r3, qr3, hf⟩ := bd_some hf
        refine xt_callVi (As := [.int x1]) (rest := [.int (σ 14 x1.toNatClampNeg)]) (C := RX1) (ci := 1) ⟨hx, hb, hml, hown, hts⟩ 33 (mX1_roomOf l dC dI ad cy hJ 0 (by decide) σ x1 r3 qr3) (cwV 1 hts gX6_nothingExceedsItsRoom_X1_roomOf rfl rfl rfl dmX1_roomOf ⟨Nat.le_of_ble_eq_true rfl, Nat.le_of_ble_eq_true rfl⟩) hK hP hS (by decide) (LX1_obj ad cy 0 (by decide) _) rfl rfl rfl hl.1 (Nat.le_of_ble_eq_true rfl) ⟨Nat.zero_le _, Nat.zero_le _⟩ dX6_nothingExceedsItsRoom_27 (fun H locs hP hS => ?_)
        refine lv_icmp_le (tgt := 35) hx hb dX6_nothingExceedsItsRoom_30 (by decide) (fun c4 => ?_) (fun c4 => ?_)
        · have hf := (if_pos c4).symm.trans hf
          obtain ⟨v5, ev5⟩ : ∃ y : Int32, y = x1 + 1 := ⟨_, rfl⟩
          have hf := nm_to hf ev5
          refine lv_iinc (v := v5) (lv' := [(1, .int v5), (0, .ref (ad 0))]) hx hb dX6_nothingExceedsItsRoom_35 hl (k := 1) rfl (by rw [ev5]; rfl) (by decide) rfl (fun ls hl => ?_)
          refine lv_goto (tgt := 2) hx hb dX6_nothingExceedsItsRoom_38 (by decide) ?_
          exact ih2 v5 hf H locs hP hS ls (lv_sub hl [1, 0] rfl)
        · have hf := (if_neg c4).symm.trans hf
          refine lv_iconst (v := 0) hx hb dX6_nothingExceedsItsRoom_33 (by decide) ?_
          exact xt_zret hx hb hr rfl hP hS (Option.some.inj hf) rfl dX6_nothingExceedsItsRoom_34 hlocks
  unfold fX6_nothingExceedsItsRoom at hf
  obtain ⟨H, eH⟩ : ∃ H : Heap, H = s.heap := ⟨_, rfl⟩
  rw [← eH] at hP
  have hS : va_S (WA 93 ad) s.heap H [] := by rw [eH]; exact hS
  suffices K : W p l e rmX6_nothingExceedsItsRoom s m args below meth c H [] 0 0 (MQ below (Qiw (dC, dI) 93 ad (layX ad cy) res σ) args s 0 0 (WA 93 ad)) (F0 m 0 ls []) by rw [eH] at K; exact K
  clear eH
  obtain ⟨locs, elocs⟩ : ∃ z : List Loc, z = [] := ⟨_, rfl⟩
  rw [← elocs] at hS ⊢
  refine lv_iconst (v := 0) hx hb dX6_nothingExceedsItsRoom_0 (by decide) ?_
  refine lv_istore_n (lv' := [(1, .int 0), (0, .ref (ad 0))]) hx hb dX6_nothingExceedsItsRoom_1 rfl hl (by decide) rfl (fun ls hl => ?_)
  exact loop2 1000 0 hf H locs hP hS ls (lv_sub hl [1, 0] rfl)
def fX6_supposeClosed (σ : St) (a1 : Int32) : Option St :=
  bd (fX1_takeFrom 1 0 σ) fun r1 => gd (okI a1 8) <| nm (su r1 40 a1.toNatClampNeg (vp_nar .boolean 0)) fun σ3 => bd (fX0_build 1 1 σ3) fun r4 => some r4
abbrev rmX6_supposeClosed : Room := { frames := 3, cells := 0, slots := 0, locals := 112 }
theorem dmX6_supposeClosed : yX6_supposeClosed.cls = RX6 ∧ yX6_supposeClosed.cls ≠ "java/lang/invoke/MethodHandle" ∧ yX6_supposeClosed.cls ≠ "java/lang/invoke/VarHandle" ∧ (parseMethodDescriptor yX6_supposeClosed.desc).map (fun d => d.parameters.length) = some 1 := by decide +kernel
theorem iX6_supposeClosed_X1 : ∀ w ∈ wsX10, w ∈ wsX6_supposeClosed := fun w h => List.mem_cons_of_mem _ (List.mem_append_left _ (List.mem_append_right _ (h)))
theorem iX6_supposeClosed_X6 : ∀ w ∈ wsX60, w ∈ wsX6_supposeClosed := fun w h => List.mem_cons_of_mem _ (List.mem_append_left _ (List.mem_append_left _ (List.mem_append_right _ (h))))
set_option maxHeartbeats 8000000 in
set_option maxRecDepth 100000 in
theorem mX6_supposeClosed (l : Launch) (dC : Nat → ClassId) (dI : Nat → Nat → Nat) (ad : Nat → Nat) (cy : Nat → ClassId) (hJ : WJ 93 ad) (σ : St) (a1 : Int32) (res : St) (hf : fX6_supposeClosed σ a1 = some res) : CMv l yX6_supposeClosed wsX6_supposeClosed rmX6_supposeClosed (dC, dI) (tysX cy) 93 ad (layX ad cy) [.ref (ad 0), .int a1] σ res := by
  refine Met.ofW (cc := cX6_supposeClosed) (maxL := 2) (ret := none) (by decide) rfl ?_
  intro p e s m args below meth c s₁ B hml hv
  obtain ⟨hargs, hP, hK⟩ := hv
  have hx := B.exec
  have hb := B.bytes
  have hr := B.returns
  have hts := atoms_spec (ws := wsX6_supposeClosed) B.pre
  have hown : s.vm.findClass RX6 = some m.cls := findClass_of_methodNamed B.named
  have hlocks := B.notSynchronized
  have w1 := hts (.fieldLink RX6 30 "PierRings" "wouldBe" "LPierRings$Harbour;") (List.mem_of_getElem? (i := 1) rfl)
  have w2 := hts (.fieldLink RX6 12 "PierRings" "harbour" "LPierRings$Harbour;") (List.mem_of_getElem? (i := 2) rfl)
  have w3 := hts (.fieldLink RX6 101 "PierRings$Harbour" "opened" "[Z") (List.mem_of_getElem? (i := 3) rfl)
  have w4 := hts (.fieldLink RX6 33 "PierRings" "circleThen" "LPierRings$Circle;") (List.mem_of_getElem? (i := 4) rfl)
  have hS : va_S (WA 93 ad) s.heap s.heap [] := va_S.rf
  have hfr : entryFrame m args 2 = F0 m 0 ((lg_sl [.ref (ad 0), .int a1] ++ List.replicate (2 - (lg_sl [.ref (ad 0), .int a1]).length) Slot.unset).toArray) [] := by rw [hargs]; exact lg_entry_eq _ _ _
  rw [hfr]
  have hl := lv_entry ([.ref (ad 0), .int a1]) (n := 2) (Nat.le_of_ble_eq_true rfl)
  generalize (lg_sl [.ref (ad 0), .int a1] ++ List.replicate (2 - (lg_sl [.ref (ad 0), .int a1]).length) Slot.unset).toArray = ls at hl ⊢
  have hl : lv_has ls 2 [(0, .ref (ad 0)), (1, .int a1)] := hl
  clear hfr hargs B
  show W p l e rmX6_supposeClosed s m args below meth c s.heap [] 0 0 (MQ below (Qvw (dC, dI) 93 ad (layX ad cy) res) args s 0 0 (WA 93 ad)) (F0 m 0 ls [])
  unfold fX6_supposeClosed at hf
  obtain ⟨H, eH⟩ : ∃ H : Heap, H = s.heap := ⟨_, rfl⟩
  rw [← eH] at hP
  have hS : va_S (WA 93 ad) s.heap H [] := by rw [eH]; exact hS
  suffices K : W p l e rmX6_supposeClosed s m args below meth c H [] 0 0 (MQ below (Qvw (dC, dI) 93 ad (layX ad cy) res) args s 0 0 (WA 93 ad)) (F0 m 0 ls []) by rw [eH] at K; exact K
  clear eH
  obtain ⟨locs, elocs⟩ : ∃ z : List Loc, z = [] := ⟨_, rfl⟩
  rw [← elocs] at hS ⊢
  refine lv_aload_n hx hb dX6_supposeClosed_0 rfl (lv_at hl 0 rfl) ?_
  refine xt_get (ci := 6) (C := RX6) (T := TX6) (n := 12) (v := .ref (ad 38)) hx hb hts iX6_supposeClosed_X6 hown hK hP 0 (by decide) (LX6_obj ad cy _) rfl 3 (by decide) w1 rfl dX6_supposeClosed_1 ?_
  refine lv_aload_n hx hb dX6_supposeClosed_4 rfl (lv_at hl 0 rfl) ?_
  refine xt_get (ci := 6) (C := RX6) (T := TX6) (n := 12) (v := .ref (ad 33)) hx hb hts iX6_supposeClosed_X6 hown hK hP 0 (by decide) (LX6_obj ad cy _) rfl 0 (by decide) w2 rfl dX6_supposeClosed_5 ?_
  obtain ⟨r1, qr1, hf⟩ := bd_some hf
  refine xt_callVv (As := [.ref (ad 33)]) (rest := []) (C := RX1) (ci := 1) ⟨hx, hb, hml, hown, hts⟩ 38 (mX1_takeFrom l dC dI ad cy hJ 1 (by decide) 0 (by decide) σ r1 qr1) (cwV 1 hts gX6_supposeClosed_X1_takeFrom rfl rfl rfl dmX1_takeFrom ⟨Nat.le_of_ble_eq_true rfl, Nat.le_of_ble_eq_true rfl⟩) hK hP hS (by decide) (LX1_obj ad cy 1 (by decide) _) rfl rfl rfl hl.1 (Nat.le_of_ble_eq_true rfl) ⟨Nat.zero_le _, Nat.zero_le _⟩ dX6_supposeClosed_8 (fun H locs hP hS => ?_)
  refine lv_aload_n hx hb dX6_supposeClosed_11 rfl (lv_at hl 0 rfl) ?_
  refine xt_get (ci := 6) (C := RX6) (T := TX6) (n := 12) (v := .ref (ad 38)) hx hb hts iX6_supposeClosed_X6 hown hK hP 0 (by decide) (LX6_obj ad cy _) rfl 3 (by decide) w1 rfl dX6_supposeClosed_12 ?_
  refine xt_get (ci := 1) (C := RX1) (T := TX1) (n := 8) (v := .ref (ad 40)) hx hb hts iX6_supposeClosed_X1 hown hK hP 38 (by decide) (LX1_obj ad cy 1 (by decide) _) rfl 1 (by decide) w3 rfl dX6_supposeClosed_15 ?_
  refine lv_iload_n hx hb dX6_supposeClosed_18 rfl (lv_at hl 1 rfl) ?_
  refine lv_iconst (v := 0) hx hb dX6_supposeClosed_19 (by decide) ?_
  obtain ⟨g2, hf⟩ := gd_some hf
  refine xt_zast hx hb hK hP hJ hS 40 (by decide) 1 (LX1_opened ad cy 1 (by decide)) rfl g2 dX6_supposeClosed_20 (fun H locs hP hS => ?_)
  obtain ⟨σ3, eσ3⟩ : ∃ z : St, z = su r1 40 a1.toNatClampNeg (vp_nar .boolean 0) := ⟨_, rfl⟩
  rw [← eσ3] at hP
  have hf := nm_to hf eσ3
  refine lv_aload_n hx hb dX6_supposeClosed_21 rfl (lv_at hl 0 rfl) ?_
  refine xt_get (ci := 6) (C := RX6) (T := TX6) (n := 12) (v := .ref (ad 24)) hx hb hts iX6_supposeClosed_X6 hown hK hP 0 (by decide) (LX6_obj ad cy _) rfl 4 (by decide) w4 rfl dX6_supposeClosed_22 ?_
  refine lv_aload_n hx hb dX6_supposeClosed_25 rfl (lv_at hl 0 rfl) ?_
  refine xt_get (ci := 6) (C := RX6) (T := TX6) (n := 12) (v := .ref (ad 38)) hx hb hts iX6_supposeClosed_X6 hown hK hP 0 (by decide) (LX6_obj ad cy _) rfl 3 (by decide) w1 rfl dX6_supposeClosed_26 ?_
  obtain ⟨r4, qr4, hf⟩ := bd_some hf
  refine xt_callVv (As := [.ref (ad 38)]) (rest := []) (C := RX0) (ci := 0) ⟨hx, hb, hml, hown, hts⟩ 24 (mX0_build l dC dI ad cy hJ 1 (by decide) 1 (by decide) σ3 r4 qr4) (cwV 1 hts gX6_supposeClosed_X0_build rfl rfl rfl dmX0_build ⟨Nat.le_of_ble_eq_true rfl, Nat.le_of_ble_eq_true rfl⟩) hK hP hS (by decide) (LX0_obj ad cy 1 (by decide) _) rfl rfl rfl hl.1 (Nat.le_of_ble_eq_true rfl) ⟨Nat.zero_le _, Nat.zero_le _⟩ dX6_supposeClosed_29 (fun H locs hP hS => ?_)
  exact xt_vret hx hb hr hP hS (Option.some.inj hf) dX6_supposeClosed_32 hlocks
def fX6_closingStaysNear_B105 (σ : St) : Option (Int32 × St) :=
  some (1, σ)
def fX6_closingStaysNear_B79 (G16 : St → Int32 → Option (Int32 × St)) (K16_105 : St → Option (Int32 × St)) (σ : St) (x1 : Int32) (x2 : Int32) (x3 : Int32) (x4 : Int32) : Option (Int32 × St) :=
  if x4 = x1 then (nm (x3 + 1) fun v3 => G16 σ v3) else (some (0, σ))
def fX6_closingStaysNear_L16 (x1 : Int32) (x2 : Int32) (K16_105 : St → Option (Int32 × St)) : Nat → St → Int32 → Option (Int32 × St)
  | 0, _, _ => none
  | n16 + 1, σ, x3 => if (σ 33 5) ≤ x3 then (K16_105 σ) else (gd (okI x3 24) <| nm (σ 8 x3.toNatClampNeg) fun v6 => bd (fX1_pointOf 0 σ x3) fun r7 => bd (fX0_homeByTree 1 σ r7) fun r8 => if r8 = v6 then (nm (x3 + 1) fun v10 => (fX6_closingStaysNear_L16 x1 x2 K16_105 n16) σ v10) else (if r8 = (-15 : Int32) then (fX6_closingStaysNear_B79 (fX6_closingStaysNear_L16 x1 x2 K16_105 n16) K16_105 σ x1 x2 x3 v6) else (if ((x2 >>> (r8 &&& 31)) &&& 1) = (1 : Int32) then (fX6_closingStaysNear_B79 (fX6_closingStaysNear_L16 x1 x2 K16_105 n16) K16_105 σ x1 x2 x3 v6) else (if v6 = x1 then (some (0, σ)) else (some (0, σ))))))
def fX6_closingStaysNear (σ : St) (a1 : Int32) : Option (Int32 × St) :=
  bd (fX0_neighboursOf 0 σ a1) fun r15 => bd (fX6_supposeClosed σ a1) fun r16 => fX6_closingStaysNear_L16 a1 r15 (fun σ => fX6_closingStaysNear_B105 σ) 1000 r16 0
abbrev rmX6_closingStaysNear : Room := { frames := 4, cells := 0, slots := 0, locals := 133 }
theorem dmX6_closingStaysNear : yX6_closingStaysNear.cls = RX6 ∧ yX6_closingStaysNear.cls ≠ "java/lang/invoke/MethodHandle" ∧ yX6_closingStaysNear.cls ≠ "java/lang/invoke/VarHandle" ∧ (parseMethodDescriptor yX6_closingStaysNear.desc).map (fun d => d.parameters.length) = some 1 := by decide +kernel
theorem iX6_closingStaysNear_X1 : ∀ w ∈ wsX10, w ∈ wsX6_closingStaysNear := fun w h => List.mem_cons_of_mem _ (List.mem_append_left _ (List.mem_append_left _ (List.mem_append_right _ (h))))
theorem iX6_closingStaysNear_X4 : ∀ w ∈ wsX40, w ∈ wsX6_closingStaysNear := fun w h => List.mem_cons_of_mem _ (List.mem_append_left _ (List.mem_append_right _ (h)))
theorem iX6_closingStaysNear_X6 : ∀ w ∈ wsX60, w ∈ wsX6_closingStaysNear := fun w h => List.mem_cons_of_mem _ (List.mem_append_left _ (List.mem_append_left _ (List.mem_append_left _ (List.mem_append_right _ (h)))))
set_option maxHeartbeats 8000000 in
set_option maxRecDepth 100000 in
theorem mX6_closingStaysNear (l : Launch) (dC : Nat → ClassId) (dI : Nat → Nat → Nat) (ad : Nat → Nat) (cy : Nat → ClassId) (hJ : WJ 93 ad) (σ : St) (a1 : Int32) (res : (Int32 × St)) (hf : fX6_closingStaysNear σ a1 = some res) : CMi l yX6_closingStaysNear wsX6_closingStaysNear rmX6_closingStaysNear (dC, dI) (tysX cy) 93 ad (layX ad cy) [.ref (ad 0), .int a1] σ res.1 res.2 := by
  refine Met.ofW (cc := cX6_closingStaysNear) (maxL := 7) (ret := (some .boolean)) (by decide) rfl ?_
  intro p e s m args below meth c s₁ B hml hv
  obtain ⟨hargs, hP, hK⟩ := hv
  have hx := B.exec
  have hb := B.bytes
  have hr := B.returns
  have hts := atoms_spec (ws := wsX6_closingStaysNear) B.pre
  have hown : s.vm.findClass RX6 = some m.cls := findClass_of_methodNamed B.named
  have hlocks := B.notSynchronized
  have w1 := hts (.fieldLink RX6 19 "PierRings" "circle" "LPierRings$Circle;") (List.mem_of_getElem? (i := 1) rfl)
  have w2 := hts (.fieldLink RX6 12 "PierRings" "harbour" "LPierRings$Harbour;") (List.mem_of_getElem? (i := 2) rfl)
  have w3 := hts (.fieldLink RX6 252 "PierRings$Harbour" "barges" "I") (List.mem_of_getElem? (i := 3) rfl)
  have w4 := hts (.fieldLink RX6 26 "PierRings" "moorings" "LPierRings$Moorings;") (List.mem_of_getElem? (i := 4) rfl)
  have w5 := hts (.fieldLink RX6 345 "PierRings$Moorings" "homes" "[I") (List.mem_of_getElem? (i := 5) rfl)
  have w6 := hts (.fieldLink RX6 33 "PierRings" "circleThen" "LPierRings$Circle;") (List.mem_of_getElem? (i := 6) rfl)
  have hS : va_S (WA 93 ad) s.heap s.heap [] := va_S.rf
  have hfr : entryFrame m args 7 = F0 m 0 ((lg_sl [.ref (ad 0), .int a1] ++ List.replicate (7 - (lg_sl [.ref (ad 0), .int a1]).length) Slot.unset).toArray) [] := by rw [hargs]; exact lg_entry_eq _ _ _
  rw [hfr]
  have hl := lv_entry ([.ref (ad 0), .int a1]) (n := 7) (Nat.le_of_ble_eq_true rfl)
  generalize (lg_sl [.ref (ad 0), .int a1] ++ List.replicate (7 - (lg_sl [.ref (ad 0), .int a1]).length) Slot.unset).toArray = ls at hl ⊢
  have hl : lv_has ls 7 [(0, .ref (ad 0)), (1, .int a1)] := hl
  clear hfr hargs B
  show W p l e rmX6_closingStaysNear s m args below meth c s.heap [] 0 0 (MQ below (Qiw (dC, dI) 93 ad (layX ad cy) res.1 res.2) args s 0 0 (WA 93 ad)) (F0 m 0 ls [])
  have kB105 : ∀ (σ : St), fX6_closingStaysNear_B105 σ = some res → ∀ (H : Heap) (locs : List Loc), va_P (dC, dI) vwCl (wd 93 ad (layX ad cy) σ) H → va_S (WA 93 ad) s.heap H locs → ∀ (ls : Array Slot), lv_has ls 7 [] → W p l e rmX6_closingStaysNear s m args below meth c H locs 0 0 (MQ below (Qiw (dC, dI) 93 ad (layX ad cy) res.1 res.2) args s 0 0 (WA 93 ad)) (F0 m 105 ls []) := by
    intro σ hf H locs hP hS ls hl
    unfold fX6_closingStaysNear_B105 at hf
    refine lv_iconst (v := 1) hx hb dX6_closingStaysNear_105 (by decide) ?_
    exact xt_zret hx hb hr rfl hP hS (rs_1 hf) (rs_2 hf) dX6_closingStaysNear_106 hlocks
  have loop16 : ∀ (x1 : Int32) (x2 : Int32) (n16 : Nat) (σ : St) (x3 : Int32), fX6_closingStaysNear_L16 x1 x2 (fun σ => fX6_closingStaysNear_B105 σ) n16 σ x3 = some res → ∀ (H : Heap) (locs : List Loc), va_P (dC, dI) vwCl (wd 93 ad (layX ad cy) σ) H → va_S (WA 93 ad) s.heap H locs → ∀ (ls : Array Slot), lv_has ls 7 [(0, .ref (ad 0)), (1, .int x1), (2, .int x2), (3, .int x3)] → W p l e rmX6_closingStaysNear s m args below meth c H locs 0 0 (MQ below (Qiw (dC, dI) 93 ad (layX ad cy) res.1 res.2) args s 0 0 (WA 93 ad)) (F0 m 16 ls []) := by
    intro x1 x2 n16
    induction n16 with
    | zero => intro σ x3 hf; simp [fX6_closingStaysNear_L16] at hf
    | succ n16 ih16 =>
      intro σ x3 hf H locs hP hS ls hl
      rw [fX6_closingStaysNear_L16] at hf
      have kB79 : ∀ (σ : St) (x3 : Int32) (x4 : Int32), fX6_closingStaysNear_B79 (fX6_closingStaysNear_L16 x1 x2 (fun σ => fX6_closingStaysNear_B105 σ) n16) (fun σ => fX6_closingStaysNear_B105 σ) σ x1 x2 x3 x4 = some res → ∀ (H : Heap) (locs : List Loc), va_P (dC, dI) vwCl (wd 93 ad (layX ad cy) σ) H → va_S (WA 93 ad) s.heap H locs → ∀ (ls : Array Slot), lv_has ls 7 [(0, .ref (ad 0)), (1, .int x1), (2, .int x2), (3, .int x3), (4, .int x4)] → W p l e rmX6_closingStaysNear s m args below meth c H locs 0 0 (MQ below (Qiw (dC, dI) 93 ad (layX ad cy) res.1 res.2) args s 0 0 (WA 93 ad)) (F0 m 79 ls []) := by
        intro σ x3 x4 hf H locs hP hS ls hl
        unfold fX6_closingStaysNear_B79 at hf
        refine lv_iconst (v := 1) hx hb dX6_closingStaysNear_79 (by decide) ?_
        refine lv_goto (tgt := 84) hx hb dX6_closingStaysNear_80 (by decide) ?_
        refine lv_istore (lv' := [(6, .int 1), (0, .ref (ad 0)), (1, .int x1), (2, .int x2), (3, .int x3), (4, .int x4)]) hx hb dX6_closingStaysNear_84 hl (by decide) rfl (fun ls hl => ?_)
        refine lv_iload hx hb dX6_closingStaysNear_86 (lv_at hl 5 rfl) ?_
        refine lv_iload_n hx hb dX6_closingStaysNear_88 rfl (lv_at hl 2 rfl) ?_
        refine lv_icmp_ne (tgt := 97) hx hb dX6_closingStaysNear_89 (by decide) (fun c1 => ?_) (fun c1 => ?_)
        · have hf := (if_neg c1).symm.trans hf
          refine lv_iconst (v := 0) hx hb dX6_closingStaysNear_97 (by decide) ?_
          exact xt_zret hx hb hr rfl hP hS (rs_1 hf) (rs_2 hf) dX6_closingStaysNear_98 hlocks
        · have hf := (if_pos c1).symm.trans hf
          refine lv_iload hx hb dX6_closingStaysNear_92 (lv_at hl 0 rfl) ?_
          refine lv_if_ne (tgt := 99) hx hb dX6_closingStaysNear_94 (by decide) (fun _ => ?_) (fun c2 => absurd c2 (by decide))
          obtain ⟨v3, ev3⟩ : ∃ y : Int32, y = x3 + 1 := ⟨_, rfl⟩
          have hf := nm_to hf ev3
          refine lv_iinc (v := v3) (lv' := [(3, .int v3), (6, .int 1), (0, .ref (ad 0)), (1, .int x1), (2, .int x2), (4, .int x4)]) hx hb dX6_closingStaysNear_99 hl (k := 4) rfl (by rw [ev3]; rfl) (by decide) rfl (fun ls hl => ?_)
          refine lv_goto (tgt := 16) hx hb dX6_closingStaysNear_102 (by decide) ?_
          exact ih16 σ v3 hf H locs hP hS ls (lv_sub hl [2, 3, 4, 0] rfl)
      refine lv_iload_n hx hb dX6_closingStaysNear_16 rfl (lv_at hl 3 rfl) ?_
      refine lv_aload_n hx hb dX6_closingStaysNear_17 rfl (lv_at hl 0 rfl) ?_
      refine xt_get (ci := 6) (C := RX6) (T := TX6) (n := 12) (v := .ref (ad 33)) hx hb hts iX6_closingStaysNear_X6 hown hK hP 0 (by decide) (LX6_obj ad cy _) rfl 0 (by decide) w2 rfl dX6_closingStaysNear_18 ?_
      refine xt_get (ci := 1) (C := RX1) (T := TX1) (n := 8) (v := .int (σ 33 5)) hx hb hts iX6_closingStaysNear_X1 hown hK hP 33 (by decide) (LX1_obj ad cy 0 (by decide) _) rfl 5 (by decide) w3 rfl dX6_closingStaysNear_21 ?_
      refine lv_icmp_ge (tgt := 105) hx hb dX6_closingStaysNear_24 (by decide) (fun c4 => ?_) (fun c4 => ?_)
      · have hf := (if_pos c4).symm.trans hf
        exact kB105 σ hf H locs hP hS ls (lv_sub hl [] rfl)
      · have hf := (if_neg c4).symm.trans hf
        refine lv_aload_n hx hb dX6_closingStaysNear_27 rfl (lv_at hl 0 rfl) ?_
        refine xt_get (ci := 6) (C := RX6) (T := TX6) (n := 12) (v := .ref (ad 7)) hx hb hts iX6_closingStaysNear_X6 hown hK hP 0 (by decide) (LX6_obj ad cy _) rfl 2 (by decide) w4 rfl dX6_closingStaysNear_28 ?_
        refine xt_get (ci := 4) (C := RX4) (T := TX4) (n := 9) (v := .ref (ad 8)) hx hb hts iX6_closingStaysNear_X4 hown hK hP 7 (by decide) (LX4_obj ad cy _) rfl 0 (by decide) w5 rfl dX6_closingStaysNear_31 ?_
        refine lv_iload_n hx hb dX6_closingStaysNear_34 rfl (lv_at hl 3 rfl) ?_
        obtain ⟨g5, hf⟩ := gd_some hf
        refine xt_iald hx hb hK hP 8 (by decide) 0 (LX4_homes ad cy _) rfl g5 dX6_closingStaysNear_35 ?_
        refine lv_topi (fun v6 ev6 => ?_)
        have hf := nm_to hf ev6
        refine lv_istore (lv' := [(4, .int v6), (0, .ref (ad 0)), (1, .int x1), (2, .int x2), (3, .int x3)]) hx hb dX6_closingStaysNear_36 hl (by decide) rfl (fun ls hl => ?_)
        refine lv_aload_n hx hb dX6_closingStaysNear_38 rfl (lv_at hl 1 rfl) ?_
        refine xt_get (ci := 6) (C := RX6) (T := TX6) (n := 12) (v := .ref (ad 24)) hx hb hts iX6_closingStaysNear_X6 hown hK hP 0 (by decide) (LX6_obj ad cy _) rfl 4 (by decide) w6 rfl dX6_closingStaysNear_39 ?_
        refine lv_aload_n hx hb dX6_closingStaysNear_42 rfl (lv_at hl 1 rfl) ?_
        refine xt_get (ci := 6) (C := RX6) (T := TX6) (n := 12) (v := .ref (ad 33)) hx hb hts iX6_closingStaysNear_X6 hown hK hP 0 (by decide) (LX6_obj ad cy _) rfl 0 (by decide) w2 rfl dX6_closingStaysNear_43 ?_
        refine lv_iload_n hx hb dX6_closingStaysNear_46 rfl (lv_at hl 4 rfl) ?_
        obtain ⟨r7, qr7, hf⟩ := bd_some hf
        refine xt_callVi (As := [.int x3]) (rest := [.ref (ad 24)]) (C := RX1) (ci := 1) ⟨hx, hb, hml, hown, hts⟩ 33 (mX1_pointOf l dC dI ad cy hJ 0 (by decide) σ x3 r7 qr7) (cwV 1 hts gX6_closingStaysNear_X1_pointOf rfl rfl rfl dmX1_pointOf ⟨Nat.le_of_ble_eq_true rfl, Nat.le_of_ble_eq_true rfl⟩) hK hP hS (by decide) (LX1_obj ad cy 0 (by decide) _) rfl rfl rfl hl.1 (Nat.le_of_ble_eq_true rfl) ⟨Nat.zero_le _, Nat.zero_le _⟩ dX6_closingStaysNear_47 (fun H locs hP hS => ?_)
        obtain ⟨r8, qr8, hf⟩ := bd_some hf
        refine xt_callVi (As := [.int r7]) (rest := []) (C := RX0) (ci := 0) ⟨hx, hb, hml, hown, hts⟩ 24 (mX0_homeByTree l dC dI ad cy hJ 1 (by decide) σ r7 r8 qr8) (cwV 1 hts gX6_closingStaysNear_X0_homeByTree rfl rfl rfl dmX0_homeByTree ⟨Nat.le_of_ble_eq_true rfl, Nat.le_of_ble_eq_true rfl⟩) hK hP hS (by decide) (LX0_obj ad cy 1 (by decide) _) rfl rfl rfl hl.1 (Nat.le_of_ble_eq_true rfl) ⟨Nat.zero_le _, Nat.zero_le _⟩ dX6_closingStaysNear_50 (fun H locs hP hS => ?_)
        refine lv_istore (lv' := [(5, .int r8), (4, .int v6), (0, .ref (ad 0)), (1, .int x1), (2, .int x2), (3, .int x3)]) hx hb dX6_closingStaysNear_53 hl (by decide) rfl (fun ls hl => ?_)
        refine lv_iload hx hb dX6_closingStaysNear_55 (lv_at hl 0 rfl) ?_
        refine lv_iload hx hb dX6_closingStaysNear_57 (lv_at hl 1 rfl) ?_
        refine lv_icmp_eq (tgt := 99) hx hb dX6_closingStaysNear_59 (by decide) (fun c9 => ?_) (fun c9 => ?_)
        · have hf := (if_pos c9).symm.trans hf
          obtain ⟨v10, ev10⟩ : ∃ y : Int32, y = x3 + 1 := ⟨_, rfl⟩
          have hf := nm_to hf ev10
          refine lv_iinc (v := v10) (lv' := [(3, .int v10), (5, .int r8), (4, .int v6), (0, .ref (ad 0)), (1, .int x1), (2, .int x2)]) hx hb dX6_closingStaysNear_99 hl (k := 5) rfl (by rw [ev10]; rfl) (by decide) rfl (fun ls hl => ?_)
          refine lv_goto (tgt := 16) hx hb dX6_closingStaysNear_102 (by decide) ?_
          exact ih16 σ v10 hf H locs hP hS ls (lv_sub hl [3, 4, 5, 0] rfl)
        · have hf := (if_neg c9).symm.trans hf
          refine lv_iload hx hb dX6_closingStaysNear_62 (lv_at hl 0 rfl) ?_
          refine lv_bipush (v := (-15)) hx hb dX6_closingStaysNear_64 (by decide) ?_
          refine lv_icmp_eq (tgt := 79) hx hb dX6_closingStaysNear_66 (by decide) (fun c11 => ?_) (fun c11 => ?_)
          · have hf := (if_pos c11).symm.trans hf
            exact kB79 σ x3 v6 hf H locs hP hS ls (lv_sub hl [2, 3, 4, 5, 1] rfl)
          · have hf := (if_neg c11).symm.trans hf
            refine lv_iload_n hx hb dX6_closingStaysNear_69 rfl (lv_at hl 4 rfl) ?_
            refine lv_iload hx hb dX6_closingStaysNear_70 (lv_at hl 0 rfl) ?_
            refine lv_ishr hx hb dX6_closingStaysNear_72 ?_
            refine lv_iconst (v := 1) hx hb dX6_closingStaysNear_73 (by decide) ?_
            refine lv_iand hx hb dX6_closingStaysNear_74 ?_
            refine lv_iconst (v := 1) hx hb dX6_closingStaysNear_75 (by decide) ?_
            refine lv_icmp_ne (tgt := 83) hx hb dX6_closingStaysNear_76 (by decide) (fun c12 => ?_) (fun c12 => ?_)
            · have hf := (if_neg c12).symm.trans hf
              refine lv_iconst (v := 0) hx hb dX6_closingStaysNear_83 (by decide) ?_
              refine lv_istore (lv' := [(6, .int 0), (5, .int r8), (4, .int v6), (0, .ref (ad 0)), (1, .int x1), (2, .int x2), (3, .int x3)]) hx hb dX6_closingStaysNear_84 hl (by decide) rfl (fun ls hl => ?_)
              refine lv_iload hx hb dX6_closingStaysNear_86 (lv_at hl 2 rfl) ?_
              refine lv_iload_n hx hb dX6_closingStaysNear_88 rfl (lv_at hl 4 rfl) ?_
              refine lv_icmp_ne (tgt := 97) hx hb dX6_closingStaysNear_89 (by decide) (fun c13 => ?_) (fun c13 => ?_)
              · have hf := (if_neg c13).symm.trans hf
                refine lv_iconst (v := 0) hx hb dX6_closingStaysNear_97 (by decide) ?_
                exact xt_zret hx hb hr rfl hP hS (rs_1 hf) (rs_2 hf) dX6_closingStaysNear_98 hlocks
              · have hf := (if_pos c13).symm.trans hf
                refine lv_iload hx hb dX6_closingStaysNear_92 (lv_at hl 0 rfl) ?_
                refine lv_if_ne (tgt := 99) hx hb dX6_closingStaysNear_94 (by decide) (fun c14 => absurd c14 (by decide)) (fun _ => ?_)
                refine lv_iconst (v := 0) hx hb dX6_closingStaysNear_97 (by decide) ?_
                exact xt_zret hx hb hr rfl hP hS (rs_1 hf) (rs_2 hf) dX6_closingStaysNear_98 hlocks
            · have hf := (if_pos c12).symm.trans hf
              exact kB79 σ x3 v6 hf H locs hP hS ls (lv_sub hl [2, 3, 4, 5, 1] rfl)
  unfold fX6_closingStaysNear at hf
  obtain ⟨H, eH⟩ : ∃ H : Heap, H = s.heap := ⟨_, rfl⟩
  rw [← eH] at hP
  have hS : va_S (WA 93 ad) s.heap H [] := by rw [eH]; exact hS
  suffices K : W p l e rmX6_closingStaysNear s m args below meth c H [] 0 0 (MQ below (Qiw (dC, dI) 93 ad (layX ad cy) res.1 res.2) args s 0 0 (WA 93 ad)) (F0 m 0 ls []) by rw [eH] at K; exact K
  clear eH
  obtain ⟨locs, elocs⟩ : ∃ z : List Loc, z = [] := ⟨_, rfl⟩
  rw [← elocs] at hS ⊢
  refine lv_aload_n hx hb dX6_closingStaysNear_0 rfl (lv_at hl 0 rfl) ?_
  refine xt_get (ci := 6) (C := RX6) (T := TX6) (n := 12) (v := .ref (ad 15)) hx hb hts iX6_closingStaysNear_X6 hown hK hP 0 (by decide) (LX6_obj ad cy _) rfl 1 (by decide) w1 rfl dX6_closingStaysNear_1 ?_
  refine lv_iload_n hx hb dX6_closingStaysNear_4 rfl (lv_at hl 1 rfl) ?_
  obtain ⟨r15, qr15, hf⟩ := bd_some hf
  refine xt_callVi (As := [.int a1]) (rest := []) (C := RX0) (ci := 0) ⟨hx, hb, hml, hown, hts⟩ 15 (mX0_neighboursOf l dC dI ad cy hJ 0 (by decide) σ a1 r15 qr15) (cwV 1 hts gX6_closingStaysNear_X0_neighboursOf rfl rfl rfl dmX0_neighboursOf ⟨Nat.le_of_ble_eq_true rfl, Nat.le_of_ble_eq_true rfl⟩) hK hP hS (by decide) (LX0_obj ad cy 0 (by decide) _) rfl rfl rfl hl.1 (Nat.le_of_ble_eq_true rfl) ⟨Nat.zero_le _, Nat.zero_le _⟩ dX6_closingStaysNear_5 (fun H locs hP hS => ?_)
  refine lv_istore_n (lv' := [(2, .int r15), (0, .ref (ad 0)), (1, .int a1)]) hx hb dX6_closingStaysNear_8 rfl hl (by decide) rfl (fun ls hl => ?_)
  refine lv_aload_n hx hb dX6_closingStaysNear_9 rfl (lv_at hl 1 rfl) ?_
  refine lv_iload_n hx hb dX6_closingStaysNear_10 rfl (lv_at hl 2 rfl) ?_
  obtain ⟨r16, qr16, hf⟩ := bd_some hf
  refine xt_callVv (As := [.int a1]) (rest := []) (C := RX6) (ci := 6) ⟨hx, hb, hml, hown, hts⟩ 0 (mX6_supposeClosed l dC dI ad cy hJ σ a1 r16 qr16) (cwV 1 hts gX6_closingStaysNear_X6_supposeClosed rfl rfl rfl dmX6_supposeClosed ⟨Nat.le_of_ble_eq_true rfl, Nat.le_of_ble_eq_true rfl⟩) hK hP hS (by decide) (LX6_obj ad cy _) rfl rfl rfl hl.1 (Nat.le_of_ble_eq_true rfl) ⟨Nat.zero_le _, Nat.zero_le _⟩ dX6_closingStaysNear_11 (fun H locs hP hS => ?_)
  refine lv_iconst (v := 0) hx hb dX6_closingStaysNear_14 (by decide) ?_
  refine lv_istore_n (lv' := [(3, .int 0), (2, .int r15), (0, .ref (ad 0)), (1, .int a1)]) hx hb dX6_closingStaysNear_15 rfl hl (by decide) rfl (fun ls hl => ?_)
  exact loop16 a1 r15 1000 r16 0 hf H locs hP hS ls (lv_sub hl [2, 3, 1, 0] rfl)
def fX6_closingsStayNear_B41 (σ : St) : Option (Int32 × St) :=
  some (1, σ)
def fX6_closingsStayNear_L2 (K2_41 : St → Option (Int32 × St)) : Nat → St → Int32 → Option (Int32 × St)
  | 0, _, _ => none
  | n2 + 1, σ, x1 => if (σ 33 4) ≤ x1 then (K2_41 σ) else (gd (okI x1 8) <| if (σ 35 x1.toNatClampNeg) = 0 then (nm (x1 + 1) fun v4 => (fX6_closingsStayNear_L2 K2_41 n2) σ v4) else (bd (fX6_closingStaysNear σ x1) fun r5 => if r5.1 = 0 then (some (0, r5.2)) else (nm (x1 + 1) fun v7 => (fX6_closingsStayNear_L2 K2_41 n2) r5.2 v7)))
def fX6_closingsStayNear (σ : St) : Option (Int32 × St) :=
  fX6_closingsStayNear_L2 (fun σ => fX6_closingsStayNear_B41 σ) 1000 σ 0
abbrev rmX6_closingsStayNear : Room := { frames := 5, cells := 0, slots := 0, locals := 159 }
theorem dmX6_closingsStayNear : yX6_closingsStayNear.cls = RX6 ∧ yX6_closingsStayNear.cls ≠ "java/lang/invoke/MethodHandle" ∧ yX6_closingsStayNear.cls ≠ "java/lang/invoke/VarHandle" ∧ (parseMethodDescriptor yX6_closingsStayNear.desc).map (fun d => d.parameters.length) = some 0 := by decide +kernel
theorem iX6_closingsStayNear_X1 : ∀ w ∈ wsX10, w ∈ wsX6_closingsStayNear := fun w h => List.mem_cons_of_mem _ (List.mem_append_left _ (List.mem_append_left _ (List.mem_append_right _ (h))))
theorem iX6_closingsStayNear_X6 : ∀ w ∈ wsX60, w ∈ wsX6_closingsStayNear := fun w h => List.mem_cons_of_mem _ (List.mem_append_left _ (List.mem_append_left _ (List.mem_append_left _ (List.mem_append_right _ (h)))))
set_option maxHeartbeats 8000000 in
set_option maxRecDepth 100000 in
theorem mX6_closingsStayNear (l : Launch) (dC : Nat → ClassId) (dI : Nat → Nat → Nat) (ad : Nat → Nat) (cy : Nat → ClassId) (hJ : WJ 93 ad) (σ : St) (res : (Int32 × St)) (hf : fX6_closingsStayNear σ = some res) : CMi l yX6_closingsStayNear wsX6_closingsStayNear rmX6_closingsStayNear (dC, dI) (tysX cy) 93 ad (layX ad cy) [.ref (ad 0)] σ res.1 res.2 := by
  refine Met.ofW (cc := cX6_closingsStayNear) (maxL := 2) (ret := (some .boolean)) (by decide) rfl ?_
  intro p e s m args below meth c s₁ B hml hv
  obtain ⟨hargs, hP, hK⟩ := hv
  have hx := B.exec
  have hb := B.bytes
  have hr := B.returns
  have hts := atoms_spec (ws := wsX6_closingsStayNear) B.pre
  have hown : s.vm.findClass RX6 = some m.cls := findClass_of_methodNamed B.named
  have hlocks := B.notSynchronized
  have w1 := hts (.fieldLink RX6 12 "PierRings" "harbour" "LPierRings$Harbour;") (List.mem_of_getElem? (i := 1) rfl)
  have w2 := hts (.fieldLink RX6 186 "PierRings$Harbour" "piers" "I") (List.mem_of_getElem? (i := 2) rfl)
  have w3 := hts (.fieldLink RX6 101 "PierRings$Harbour" "opened" "[Z") (List.mem_of_getElem? (i := 3) rfl)
  have hS : va_S (WA 93 ad) s.heap s.heap [] := va_S.rf
  have hfr : entryFrame m args 2 = F0 m 0 ((lg_sl [.ref (ad 0)] ++ List.replicate (2 - (lg_sl [.ref (ad 0)]).length) Slot.unset).toArray) [] := by rw [hargs]; exact lg_entry_eq _ _ _
  rw [hfr]
  have hl := lv_entry ([.ref (ad 0)]) (n := 2) (Nat.le_of_ble_eq_true rfl)
  generalize (lg_sl [.ref (ad 0)] ++ List.replicate (2 - (lg_sl [.ref (ad 0)]).length) Slot.unset).toArray = ls at hl ⊢
  have hl : lv_has ls 2 [(0, .ref (ad 0))] := hl
  clear hfr hargs B
  show W p l e rmX6_closingsStayNear s m args below meth c s.heap [] 0 0 (MQ below (Qiw (dC, dI) 93 ad (layX ad cy) res.1 res.2) args s 0 0 (WA 93 ad)) (F0 m 0 ls [])
  have kB41 : ∀ (σ : St), fX6_closingsStayNear_B41 σ = some res → ∀ (H : Heap) (locs : List Loc), va_P (dC, dI) vwCl (wd 93 ad (layX ad cy) σ) H → va_S (WA 93 ad) s.heap H locs → ∀ (ls : Array Slot), lv_has ls 2 [] → W p l e rmX6_closingsStayNear s m args below meth c H locs 0 0 (MQ below (Qiw (dC, dI) 93 ad (layX ad cy) res.1 res.2) args s 0 0 (WA 93 ad)) (F0 m 41 ls []) := by
    intro σ hf H locs hP hS ls hl
    unfold fX6_closingsStayNear_B41 at hf
    refine lv_iconst (v := 1) hx hb dX6_closingsStayNear_41 (by decide) ?_
    exact xt_zret hx hb hr rfl hP hS (rs_1 hf) (rs_2 hf) dX6_closingsStayNear_42 hlocks
  have loop2 : ∀ (n2 : Nat) (σ : St) (x1 : Int32), fX6_closingsStayNear_L2 (fun σ => fX6_closingsStayNear_B41 σ) n2 σ x1 = some res → ∀ (H : Heap) (locs : List Loc), va_P (dC, dI) vwCl (wd 93 ad (layX ad cy) σ) H → va_S (WA 93 ad) s.heap H locs → ∀ (ls : Array Slot), lv_has ls 2 [(0, .ref (ad 0)), (1, .int x1)] → W p l e rmX6_closingsStayNear s m args below meth c H locs 0 0 (MQ below (Qiw (dC, dI) 93 ad (layX ad cy) res.1 res.2) args s 0 0 (WA 93 ad)) (F0 m 2 ls []) := by
    intro n2
    induction n2 with
    | zero => intro σ x1 hf; simp [fX6_closingsStayNear_L2] at hf
    | succ n2 ih2 =>
      intro σ x1 hf H locs hP hS ls hl
      rw [fX6_closingsStayNear_L2] at hf
      refine lv_iload_n hx hb dX6_closingsStayNear_2 rfl (lv_at hl 1 rfl) ?_
      refine lv_aload_n hx hb dX6_closingsStayNear_3 rfl (lv_at hl 0 rfl) ?_
      refine xt_get (ci := 6) (C := RX6) (T := TX6) (n := 12) (v := .ref (ad 33)) hx hb hts iX6_closingsStayNear_X6 hown hK hP 0 (by decide) (LX6_obj ad cy _) rfl 0 (by decide) w1 rfl dX6_closingsStayNear_4 ?_
      refine xt_get (ci := 1) (C := RX1) (T := TX1) (n := 8) (v := .int (σ 33 4)) hx hb hts iX6_closingsStayNear_X1 hown hK hP 33 (by decide) (LX1_obj ad cy 0 (by decide) _) rfl 4 (by decide) w2 rfl dX6_closingsStayNear_7 ?_
      refine lv_icmp_ge (tgt := 41) hx hb dX6_closingsStayNear_10 (by decide) (fun c1 => ?_) (fun c1 => ?_)
      · have hf := (if_pos c1).symm.trans hf
        exact kB41 σ hf H locs hP hS ls (lv_sub hl [] rfl)
      · have hf := (if_neg c1).symm.trans hf
        refine lv_aload_n hx hb dX6_closingsStayNear_13 rfl (lv_at hl 0 rfl) ?_
        refine xt_get (ci := 6) (C := RX6) (T := TX6) (n := 12) (v := .ref (ad 33)) hx hb hts iX6_closingsStayNear_X6 hown hK hP 0 (by decide) (LX6_obj ad cy _) rfl 0 (by decide) w1 rfl dX6_closingsStayNear_14 ?_
        refine xt_get (ci := 1) (C := RX1) (T := TX1) (n := 8) (v := .ref (ad 35)) hx hb hts iX6_closingsStayNear_X1 hown hK hP 33 (by decide) (LX1_obj ad cy 0 (by decide) _) rfl 1 (by decide) w3 rfl dX6_closingsStayNear_17 ?_
        refine lv_iload_n hx hb dX6_closingsStayNear_20 rfl (lv_at hl 1 rfl) ?_
        obtain ⟨g2, hf⟩ := gd_some hf
        refine xt_zald hx hb hK hP 35 (by decide) 1 (LX1_opened ad cy 0 (by decide) _) rfl g2 dX6_closingsStayNear_21 ?_
        refine lv_if_eq (tgt := 35) hx hb dX6_closingsStayNear_22 (by decide) (fun c3 => ?_) (fun c3 => ?_)
        · have hf := (if_pos c3).symm.trans hf
          obtain ⟨v4, ev4⟩ : ∃ y : Int32, y = x1 + 1 := ⟨_, rfl⟩
          have hf := nm_to hf ev4
          refine lv_iinc (v := v4) (lv' := [(1, .int v4), (0, .ref (ad 0))]) hx hb dX6_closingsStayNear_35 hl (k := 1) rfl (by rw [ev4]; rfl) (by decide) rfl (fun ls hl => ?_)
          refine lv_goto (tgt := 2) hx hb dX6_closingsStayNear_38 (by decide) ?_
          exact ih2 σ v4 hf H locs hP hS ls (lv_sub hl [1, 0] rfl)
        · have hf := (if_neg c3).symm.trans hf
          refine lv_aload_n hx hb dX6_closingsStayNear_25 rfl (lv_at hl 0 rfl) ?_
          refine lv_iload_n hx hb dX6_closingsStayNear_26 rfl (lv_at hl 1 rfl) ?_
          obtain ⟨r5, qr5, hf⟩ := bd_some hf
          refine xt_callVi (As := [.int x1]) (rest := []) (C := RX6) (ci := 6) ⟨hx, hb, hml, hown, hts⟩ 0 (mX6_closingStaysNear l dC dI ad cy hJ σ x1 r5 qr5) (cwV 1 hts gX6_closingsStayNear_X6_closingStaysNear rfl rfl rfl dmX6_closingStaysNear ⟨Nat.le_of_ble_eq_true rfl, Nat.le_of_ble_eq_true rfl⟩) hK hP hS (by decide) (LX6_obj ad cy _) rfl rfl rfl hl.1 (Nat.le_of_ble_eq_true rfl) ⟨Nat.zero_le _, Nat.zero_le _⟩ dX6_closingsStayNear_27 (fun H locs hP hS => ?_)
          refine lv_if_ne (tgt := 35) hx hb dX6_closingsStayNear_30 (by decide) (fun c6 => ?_) (fun c6 => ?_)
          · have hf := (if_neg c6).symm.trans hf
            obtain ⟨v7, ev7⟩ : ∃ y : Int32, y = x1 + 1 := ⟨_, rfl⟩
            have hf := nm_to hf ev7
            refine lv_iinc (v := v7) (lv' := [(1, .int v7), (0, .ref (ad 0))]) hx hb dX6_closingsStayNear_35 hl (k := 1) rfl (by rw [ev7]; rfl) (by decide) rfl (fun ls hl => ?_)
            refine lv_goto (tgt := 2) hx hb dX6_closingsStayNear_38 (by decide) ?_
            exact ih2 r5.2 v7 hf H locs hP hS ls (lv_sub hl [1, 0] rfl)
          · have hf := (if_pos c6).symm.trans hf
            refine lv_iconst (v := 0) hx hb dX6_closingsStayNear_33 (by decide) ?_
            exact xt_zret hx hb hr rfl hP hS (rs_1 hf) (rs_2 hf) dX6_closingsStayNear_34 hlocks
  unfold fX6_closingsStayNear at hf
  obtain ⟨H, eH⟩ : ∃ H : Heap, H = s.heap := ⟨_, rfl⟩
  rw [← eH] at hP
  have hS : va_S (WA 93 ad) s.heap H [] := by rw [eH]; exact hS
  suffices K : W p l e rmX6_closingsStayNear s m args below meth c H [] 0 0 (MQ below (Qiw (dC, dI) 93 ad (layX ad cy) res.1 res.2) args s 0 0 (WA 93 ad)) (F0 m 0 ls []) by rw [eH] at K; exact K
  clear eH
  obtain ⟨locs, elocs⟩ : ∃ z : List Loc, z = [] := ⟨_, rfl⟩
  rw [← elocs] at hS ⊢
  refine lv_iconst (v := 0) hx hb dX6_closingsStayNear_0 (by decide) ?_
  refine lv_istore_n (lv' := [(1, .int 0), (0, .ref (ad 0))]) hx hb dX6_closingsStayNear_1 rfl hl (by decide) rfl (fun ls hl => ?_)
  exact loop2 1000 σ 0 hf H locs hP hS ls (lv_sub hl [1, 0] rfl)
def fX6_isBalanced (σ : St) : Option (Int32 × St) :=
  bd (fX6_homesAgree σ) fun r1 => if r1 = 0 then (some (0, σ)) else (bd (fX6_stretchesFillTheRing σ) fun r3 => if r3 = 0 then (some (0, σ)) else (bd (fX6_nothingExceedsItsRoom σ) fun r5 => if r5 = 0 then (some (0, σ)) else (bd (fX6_closingsStayNear σ) fun r7 => if r7.1 = 0 then (some (0, r7.2)) else (some (1, r7.2)))))
abbrev rmX6_isBalanced : Room := { frames := 6, cells := 0, slots := 0, locals := 180 }
theorem dmX6_isBalanced : yX6_isBalanced.cls = RX6 ∧ yX6_isBalanced.cls ≠ "java/lang/invoke/MethodHandle" ∧ yX6_isBalanced.cls ≠ "java/lang/invoke/VarHandle" ∧ (parseMethodDescriptor yX6_isBalanced.desc).map (fun d => d.parameters.length) = some 0 := by decide +kernel
set_option maxHeartbeats 8000000 in
set_option maxRecDepth 100000 in
theorem mX6_isBalanced (l : Launch) (dC : Nat → ClassId) (dI : Nat → Nat → Nat) (ad : Nat → Nat) (cy : Nat → ClassId) (hJ : WJ 93 ad) (σ : St) (res : (Int32 × St)) (hf : fX6_isBalanced σ = some res) : CMi l yX6_isBalanced wsX6_isBalanced rmX6_isBalanced (dC, dI) (tysX cy) 93 ad (layX ad cy) [.ref (ad 0)] σ res.1 res.2 := by
  refine Met.ofW (cc := cX6_isBalanced) (maxL := 1) (ret := (some .int)) (by decide) rfl ?_
  intro p e s m args below meth c s₁ B hml hv
  obtain ⟨hargs, hP, hK⟩ := hv
  have hx := B.exec
  have hb := B.bytes
  have hr := B.returns
  have hts := atoms_spec (ws := wsX6_isBalanced) B.pre
  have hown : s.vm.findClass RX6 = some m.cls := findClass_of_methodNamed B.named
  have hlocks := B.notSynchronized
  have hS : va_S (WA 93 ad) s.heap s.heap [] := va_S.rf
  have hfr : entryFrame m args 1 = F0 m 0 ((lg_sl [.ref (ad 0)] ++ List.replicate (1 - (lg_sl [.ref (ad 0)]).length) Slot.unset).toArray) [] := by rw [hargs]; exact lg_entry_eq _ _ _
  rw [hfr]
  have hl := lv_entry ([.ref (ad 0)]) (n := 1) (Nat.le_of_ble_eq_true rfl)
  generalize (lg_sl [.ref (ad 0)] ++ List.replicate (1 - (lg_sl [.ref (ad 0)]).length) Slot.unset).toArray = ls at hl ⊢
  have hl : lv_has ls 1 [(0, .ref (ad 0))] := hl
  clear hfr hargs B
  show W p l e rmX6_isBalanced s m args below meth c s.heap [] 0 0 (MQ below (Qiw (dC, dI) 93 ad (layX ad cy) res.1 res.2) args s 0 0 (WA 93 ad)) (F0 m 0 ls [])
  unfold fX6_isBalanced at hf
  obtain ⟨H, eH⟩ : ∃ H : Heap, H = s.heap := ⟨_, rfl⟩
  rw [← eH] at hP
  have hS : va_S (WA 93 ad) s.heap H [] := by rw [eH]; exact hS
  suffices K : W p l e rmX6_isBalanced s m args below meth c H [] 0 0 (MQ below (Qiw (dC, dI) 93 ad (layX ad cy) res.1 res.2) args s 0 0 (WA 93 ad)) (F0 m 0 ls []) by rw [eH] at K; exact K
  clear eH
  obtain ⟨locs, elocs⟩ : ∃ z : List Loc, z = [] := ⟨_, rfl⟩
  rw [← elocs] at hS ⊢
  refine lv_aload_n hx hb dX6_isBalanced_0 rfl (lv_at hl 0 rfl) ?_
  obtain ⟨r1, qr1, hf⟩ := bd_some hf
  refine xt_callVi (As := []) (rest := []) (C := RX6) (ci := 6) ⟨hx, hb, hml, hown, hts⟩ 0 (mX6_homesAgree l dC dI ad cy hJ σ r1 qr1) (cwV 0 hts gX6_isBalanced_X6_homesAgree rfl rfl rfl dmX6_homesAgree ⟨Nat.le_of_ble_eq_true rfl, Nat.le_of_ble_eq_true rfl⟩) hK hP hS (by decide) (LX6_obj ad cy _) rfl rfl rfl hl.1 (Nat.le_of_ble_eq_true rfl) ⟨Nat.zero_le _, Nat.zero_le _⟩ dX6_isBalanced_1 (fun H locs hP hS => ?_)
  refine lv_if_eq (tgt := 32) hx hb dX6_isBalanced_4 (by decide) (fun c2 => ?_) (fun c2 => ?_)
  · have hf := (if_pos c2).symm.trans hf
    refine lv_iconst (v := 0) hx hb dX6_isBalanced_32 (by decide) ?_
    exact xt_iret hx hb hr hP hS (rs_1 hf) (rs_2 hf) dX6_isBalanced_33 hlocks
  · have hf := (if_neg c2).symm.trans hf
    refine lv_aload_n hx hb dX6_isBalanced_7 rfl (lv_at hl 0 rfl) ?_
    obtain ⟨r3, qr3, hf⟩ := bd_some hf
    refine xt_callVi (As := []) (rest := []) (C := RX6) (ci := 6) ⟨hx, hb, hml, hown, hts⟩ 0 (mX6_stretchesFillTheRing l dC dI ad cy hJ σ r3 qr3) (cwV 0 hts gX6_isBalanced_X6_stretchesFillTheRing rfl rfl rfl dmX6_stretchesFillTheRing ⟨Nat.le_of_ble_eq_true rfl, Nat.le_of_ble_eq_true rfl⟩) hK hP hS (by decide) (LX6_obj ad cy _) rfl rfl rfl hl.1 (Nat.le_of_ble_eq_true rfl) ⟨Nat.zero_le _, Nat.zero_le _⟩ dX6_isBalanced_8 (fun H locs hP hS => ?_)
    refine lv_if_eq (tgt := 32) hx hb dX6_isBalanced_11 (by decide) (fun c4 => ?_) (fun c4 => ?_)
    · have hf := (if_pos c4).symm.trans hf
      refine lv_iconst (v := 0) hx hb dX6_isBalanced_32 (by decide) ?_
      exact xt_iret hx hb hr hP hS (rs_1 hf) (rs_2 hf) dX6_isBalanced_33 hlocks
    · have hf := (if_neg c4).symm.trans hf
      refine lv_aload_n hx hb dX6_isBalanced_14 rfl (lv_at hl 0 rfl) ?_
      obtain ⟨r5, qr5, hf⟩ := bd_some hf
      refine xt_callVi (As := []) (rest := []) (C := RX6) (ci := 6) ⟨hx, hb, hml, hown, hts⟩ 0 (mX6_nothingExceedsItsRoom l dC dI ad cy hJ σ r5 qr5) (cwV 0 hts gX6_isBalanced_X6_nothingExceedsItsRoom rfl rfl rfl dmX6_nothingExceedsItsRoom ⟨Nat.le_of_ble_eq_true rfl, Nat.le_of_ble_eq_true rfl⟩) hK hP hS (by decide) (LX6_obj ad cy _) rfl rfl rfl hl.1 (Nat.le_of_ble_eq_true rfl) ⟨Nat.zero_le _, Nat.zero_le _⟩ dX6_isBalanced_15 (fun H locs hP hS => ?_)
      refine lv_if_eq (tgt := 32) hx hb dX6_isBalanced_18 (by decide) (fun c6 => ?_) (fun c6 => ?_)
      · have hf := (if_pos c6).symm.trans hf
        refine lv_iconst (v := 0) hx hb dX6_isBalanced_32 (by decide) ?_
        exact xt_iret hx hb hr hP hS (rs_1 hf) (rs_2 hf) dX6_isBalanced_33 hlocks
      · have hf := (if_neg c6).symm.trans hf
        refine lv_aload_n hx hb dX6_isBalanced_21 rfl (lv_at hl 0 rfl) ?_
        obtain ⟨r7, qr7, hf⟩ := bd_some hf
        refine xt_callVi (As := []) (rest := []) (C := RX6) (ci := 6) ⟨hx, hb, hml, hown, hts⟩ 0 (mX6_closingsStayNear l dC dI ad cy hJ σ r7 qr7) (cwV 0 hts gX6_isBalanced_X6_closingsStayNear rfl rfl rfl dmX6_closingsStayNear ⟨Nat.le_of_ble_eq_true rfl, Nat.le_of_ble_eq_true rfl⟩) hK hP hS (by decide) (LX6_obj ad cy _) rfl rfl rfl hl.1 (Nat.le_of_ble_eq_true rfl) ⟨Nat.zero_le _, Nat.zero_le _⟩ dX6_isBalanced_22 (fun H locs hP hS => ?_)
        refine lv_if_eq (tgt := 32) hx hb dX6_isBalanced_25 (by decide) (fun c8 => ?_) (fun c8 => ?_)
        · have hf := (if_pos c8).symm.trans hf
          refine lv_iconst (v := 0) hx hb dX6_isBalanced_32 (by decide) ?_
          exact xt_iret hx hb hr hP hS (rs_1 hf) (rs_2 hf) dX6_isBalanced_33 hlocks
        · have hf := (if_neg c8).symm.trans hf
          refine lv_iconst (v := 1) hx hb dX6_isBalanced_28 (by decide) ?_
          refine lv_goto (tgt := 33) hx hb dX6_isBalanced_29 (by decide) ?_
          exact xt_iret hx hb hr hP hS (rs_1 hf) (rs_2 hf) dX6_isBalanced_33 hlocks
