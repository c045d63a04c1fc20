def fX7_writesNumber : Nat → St → Int32 → Option St
  | 0, _, _ => none
  | n + 1, σ, a1 =>  if a1 ≤ (9 : Int32) then (bd (fX7_writes σ (48 + (jrem a1 10))) fun r2 => some r2) else (bd (fX7_writesNumber n σ (a1 / 10)) fun r3 => bd (fX7_writes r3 (48 + (jrem a1 10))) fun r4 => some r4)
abbrev rmW (n : Nat) : Room := { frames := n + 1, cells := 0, slots := 0, locals := 21 * (n + 1) }
theorem dmX7_writesNumber : yX7_writesNumber.cls = RX7 ∧ yX7_writesNumber.cls ≠ "java/lang/invoke/MethodHandle" ∧ yX7_writesNumber.cls ≠ "java/lang/invoke/VarHandle" ∧ (parseMethodDescriptor yX7_writesNumber.desc).map (fun d => d.parameters.length) = some 1 := by decide +kernel
set_option maxHeartbeats 8000000 in
set_option maxRecDepth 100000 in
theorem mX7_writesNumber (n : Nat) (l : Launch) (dC : Nat → ClassId) (dI : Nat → Nat → Nat) (ad : Nat → Nat) (cy : Nat → ClassId) (hJ : WJ 16 ad) : ∀ (σ : St) (a1 : Int32) (res : St) (hf : fX7_writesNumber n σ a1 = some res), CMv l yX7_writesNumber wsX7_writesNumber (rmW n) (dC, dI) (tysX cy) 16 ad (layM ad cy) [.ref (ad 0), .int a1] σ res := by
  induction n with
  | zero => intro σ a1 res hf; cases hf
  | succ n ih =>
  intro σ a1 res hf
  refine Met.ofW (cc := cX7_writesNumber) (maxL := 2) (ret := none) (by decide) rfl ?_
  intro p e s m args below meth c s₁ B hml hv
  obtain ⟨hargs, hP, hK⟩ := hv
  have hx := B.exec
  have hb := B.bytes
  have hr := B.returns
  have hts := atoms_spec (ws := wsX7_writesNumber) B.pre
  have hown : s.vm.findClass RX7 = some m.cls := findClass_of_methodNamed B.named
  have hlocks := B.notSynchronized
  have hS : va_S (WA 16 ad) s.heap s.heap [] := va_S.rf
  have hfr : entryFrame m args 2 = F0 m 0 ((lg_sl [.ref (ad 0), .int a1] ++ List.replicate (2 - (lg_sl [.ref (ad 0), .int a1]).length) Slot.unset).toArray) [] := by rw [hargs]; exact lg_entry_eq _ _ _
  rw [hfr]
  have hl := lv_entry ([.ref (ad 0), .int a1]) (n := 2) (Nat.le_of_ble_eq_true rfl)
  generalize (lg_sl [.ref (ad 0), .int a1] ++ List.replicate (2 - (lg_sl [.ref (ad 0), .int a1]).length) Slot.unset).toArray = ls at hl ⊢
  have hl : lv_has ls 2 [(0, .ref (ad 0)), (1, .int a1)] := hl
  clear hfr hargs B
  show W p l e (rmW (n + 1)) s m args below meth c s.heap [] 0 0 (MQ below (Qvw (dC, dI) 16 ad (layM ad cy) res) args s 0 0 (WA 16 ad)) (F0 m 0 ls [])
  rw [fX7_writesNumber] at hf
  obtain ⟨H, eH⟩ : ∃ H : Heap, H = s.heap := ⟨_, rfl⟩
  rw [← eH] at hP
  have hS : va_S (WA 16 ad) s.heap H [] := by rw [eH]; exact hS
  suffices K : W p l e (rmW (n + 1)) s m args below meth c H [] 0 0 (MQ below (Qvw (dC, dI) 16 ad (layM ad cy) res) args s 0 0 (WA 16 ad)) (F0 m 0 ls []) by rw [eH] at K; exact K
  clear eH
  obtain ⟨locs, elocs⟩ : ∃ z : List Loc, z = [] := ⟨_, rfl⟩
  rw [← elocs] at hS ⊢
  refine lv_iload_n hx hb dX7_writesNumber_0 rfl (lv_at hl 1 rfl) ?_
  refine lv_bipush (v := 9) hx hb dX7_writesNumber_1 (by decide) ?_
  refine lv_icmp_le (tgt := 14) hx hb dX7_writesNumber_3 (by decide) (fun c1 => ?_) (fun c1 => ?_)
  · have hf := (if_pos c1).symm.trans hf
    refine lv_aload_n hx hb dX7_writesNumber_14 rfl (lv_at hl 0 rfl) ?_
    refine lv_bipush (v := 48) hx hb dX7_writesNumber_15 (by decide) ?_
    refine lv_iload_n hx hb dX7_writesNumber_17 rfl (lv_at hl 1 rfl) ?_
    refine lv_bipush (v := 10) hx hb dX7_writesNumber_18 (by decide) ?_
    refine xt_irem hx hb dX7_writesNumber_20 (by decide) ?_
    refine lv_iadd hx hb dX7_writesNumber_21 ?_
    obtain ⟨r2, qr2, hf⟩ := bd_some hf
    refine xt_callVv (As := [.int (48 + (jrem a1 10))]) (rest := []) (C := RX7) (ci := 7) ⟨hx, hb, hml, hown, hts⟩ 0 (mX7_writes l dC dI ad cy hJ σ (48 + (jrem a1 10)) r2 qr2) (cwV 1 hts gX7_writesNumber_X7_writes rfl rfl rfl dmX7_writes ⟨by show 0 + 1 ≤ n + 1 + 1; omega, by show 8 + (2 + 11) + 0 ≤ 21 * (n + 1 + 1); omega⟩) hK hP hS (by decide) (LX7_obj ad cy _) rfl rfl rfl hl.1 (Nat.le_of_ble_eq_true rfl) ⟨Nat.zero_le _, Nat.zero_le _⟩ dX7_writesNumber_22 (fun H locs hP hS => ?_)
    exact xt_vret hx hb hr hP hS (Option.some.inj hf) dX7_writesNumber_25 hlocks
  · have hf := (if_neg c1).symm.trans hf
    refine lv_aload_n hx hb dX7_writesNumber_6 rfl (lv_at hl 0 rfl) ?_
    refine lv_iload_n hx hb dX7_writesNumber_7 rfl (lv_at hl 1 rfl) ?_
    refine lv_bipush (v := 10) hx hb dX7_writesNumber_8 (by decide) ?_
    refine lv_idiv hx hb dX7_writesNumber_10 (by decide) ?_
    obtain ⟨r3, qr3, hf⟩ := bd_some hf
    refine xt_callVv (As := [.int (a1 / 10)]) (rest := []) (C := RX7) (ci := 7) ⟨hx, hb, hml, hown, hts⟩ 0 (ih σ (a1 / 10) r3 qr3) (cwV 1 hts gX7_writesNumber_X7_writesNumber rfl rfl rfl dmX7_writesNumber ⟨by show n + 1 + 1 ≤ n + 1 + 1; omega, by show 8 + (2 + 11) + 21 * (n + 1) ≤ 21 * (n + 1 + 1); omega⟩) hK hP hS (by decide) (LX7_obj ad cy _) rfl rfl rfl hl.1 (Nat.le_of_ble_eq_true rfl) ⟨Nat.zero_le _, Nat.zero_le _⟩ dX7_writesNumber_11 (fun H locs hP hS => ?_)
    refine lv_aload_n hx hb dX7_writesNumber_14 rfl (lv_at hl 0 rfl) ?_
    refine lv_bipush (v := 48) hx hb dX7_writesNumber_15 (by decide) ?_
    refine lv_iload_n hx hb dX7_writesNumber_17 rfl (lv_at hl 1 rfl) ?_
    refine lv_bipush (v := 10) hx hb dX7_writesNumber_18 (by decide) ?_
    refine xt_irem hx hb dX7_writesNumber_20 (by decide) ?_
    refine lv_iadd hx hb dX7_writesNumber_21 ?_
    obtain ⟨r4, qr4, hf⟩ := bd_some hf
    refine xt_callVv (As := [.int (48 + (jrem a1 10))]) (rest := []) (C := RX7) (ci := 7) ⟨hx, hb, hml, hown, hts⟩ 0 (mX7_writes l dC dI ad cy hJ r3 (48 + (jrem a1 10)) r4 qr4) (cwV 1 hts gX7_writesNumber_X7_writes rfl rfl rfl dmX7_writes ⟨by show 0 + 1 ≤ n + 1 + 1; omega, by show 8 + (2 + 11) + 0 ≤ 21 * (n + 1 + 1); omega⟩) hK hP hS (by decide) (LX7_obj ad cy _) rfl rfl rfl hl.1 (Nat.le_of_ble_eq_true rfl) ⟨Nat.zero_le _, Nat.zero_le _⟩ dX7_writesNumber_22 (fun H locs hP hS => ?_)
    exact xt_vret hx hb hr hP hS (Option.some.inj hf) dX7_writesNumber_25 hlocks
def fX7_tell_B111 (σ : St) : Option (Int32 × St) :=
  some ((σ 0 24), σ)
def fX7_tell_L65 (x1 : Int32) (K65_111 : St → Option (Int32 × St)) : Nat → St → Int32 → Int32 → Option (Int32 × St)
  | 0, _, _, _ => none
  | n65 + 1, σ, x2, x3 => if (σ 1 (1 : Int32).toNatClampNeg) ≤ x3 then (K65_111 σ) else (gd (okI x3 24) <| if (σ 5 x3.toNatClampNeg) = x1 then (if x2 = 0 then (bd (fX7_writes σ 44) fun r7 => bd (fX7_writesNumber 5 r7 x3) fun r8 => nm (x3 + 1) fun v9 => (fX7_tell_L65 x1 K65_111 n65) r8 0 v9) else (bd (fX7_writesNumber 5 σ x3) fun r5 => nm (x3 + 1) fun v6 => (fX7_tell_L65 x1 K65_111 n65) r5 0 v6)) else (nm (x3 + 1) fun v10 => (fX7_tell_L65 x1 K65_111 n65) σ x2 v10))
def fX7_tell_B55 (σ : St) (x1 : Int32) : Option (Int32 × St) :=
  bd (fX7_writes σ 58) fun r11 => fX7_tell_L65 x1 (fun σ => fX7_tell_B111 σ) 1000 r11 1 0
def fX7_tell (σ : St) (a1 : Int32) : Option (Int32 × St) :=
  bd (fX7_isPier σ a1) fun r12 => if r12 = 0 then (some ((-11), σ)) else (bd (fX7_lays σ) fun r14 => nm (su r14 0 24 0) fun σ15 => bd (fX7_writesNumber 5 σ15 a1) fun r16 => bd (fX7_writes r16 42) fun r17 => bd (fX7_p r17 a1 0) fun r18 => bd (fX7_writesNumber 5 r17 r18) fun r19 => bd (fX7_isOpen r19 a1) fun r20 => if r20 = 0 then (bd (fX7_writes r19 120) fun r22 => fX7_tell_B55 r22 a1) else (fX7_tell_B55 r19 a1))
abbrev rmX7_tell : Room := { frames := 7, cells := 0, slots := 0, locals := 147 }
theorem dmX7_tell : yX7_tell.cls = RX7 ∧ yX7_tell.cls ≠ "java/lang/invoke/MethodHandle" ∧ yX7_tell.cls ≠ "java/lang/invoke/VarHandle" ∧ (parseMethodDescriptor yX7_tell.desc).map (fun d => d.parameters.length) = some 1 := by decide +kernel
theorem iX7_tell_X7 : ∀ w ∈ wsX70, w ∈ wsX7_tell := fun w h => List.mem_cons_of_mem _ (List.mem_append_right _ (h))
set_option maxHeartbeats 8000000 in
set_option maxRecDepth 100000 in
theorem mX7_tell (l : Launch) (dC : Nat → ClassId) (dI : Nat → Nat → Nat) (ad : Nat → Nat) (cy : Nat → ClassId) (hJ : WJ 16 ad) (σ : St) (a1 : Int32) (res : (Int32 × St)) (hf : fX7_tell σ a1 = some res) : CMi l yX7_tell wsX7_tell rmX7_tell (dC, dI) (tysX cy) 16 ad (layM ad cy) [.ref (ad 0), .int a1] σ res.1 res.2 := by
  refine Met.ofW (cc := cX7_tell) (maxL := 4) (ret := (some .int)) (by decide) rfl ?_
  intro p e s m args below meth c s₁ B hml hv
  obtain ⟨hargs, hP, hK⟩ := hv
  have hx := B.exec
  have hb := B.bytes
  have hr := B.returns
  have hts := atoms_spec (ws := wsX7_tell) B.pre
  have hown : s.vm.findClass RX7 = some m.cls := findClass_of_methodNamed B.named
  have hlocks := B.notSynchronized
  have w1 := hts (.fieldLink RX7 234 "PierRingsModel" "lineSize" "I") (List.mem_of_getElem? (i := 1) rfl)
  have w2 := hts (.fieldLink RX7 9 "PierRingsModel" "all" "[I") (List.mem_of_getElem? (i := 2) rfl)
  have w3 := hts (.fieldLink RX7 22 "PierRingsModel" "lies" "[I") (List.mem_of_getElem? (i := 3) rfl)
  have hS : va_S (WA 16 ad) s.heap s.heap [] := va_S.rf
  have hfr : entryFrame m args 4 = F0 m 0 ((lg_sl [.ref (ad 0), .int a1] ++ List.replicate (4 - (lg_sl [.ref (ad 0), .int a1]).length) Slot.unset).toArray) [] := by rw [hargs]; exact lg_entry_eq _ _ _
  rw [hfr]
  have hl := lv_entry ([.ref (ad 0), .int a1]) (n := 4) (Nat.le_of_ble_eq_true rfl)
  generalize (lg_sl [.ref (ad 0), .int a1] ++ List.replicate (4 - (lg_sl [.ref (ad 0), .int a1]).length) Slot.unset).toArray = ls at hl ⊢
  have hl : lv_has ls 4 [(0, .ref (ad 0)), (1, .int a1)] := hl
  clear hfr hargs B
  show W p l e rmX7_tell s m args below meth c s.heap [] 0 0 (MQ below (Qiw (dC, dI) 16 ad (layM ad cy) res.1 res.2) args s 0 0 (WA 16 ad)) (F0 m 0 ls [])
  have kB111 : ∀ (σ : St), fX7_tell_B111 σ = some res → ∀ (H : Heap) (locs : List Loc), va_P (dC, dI) vwCl (wd 16 ad (layM ad cy) σ) H → va_S (WA 16 ad) s.heap H locs → ∀ (ls : Array Slot), lv_has ls 4 [(0, .ref (ad 0))] → W p l e rmX7_tell s m args below meth c H locs 0 0 (MQ below (Qiw (dC, dI) 16 ad (layM ad cy) res.1 res.2) args s 0 0 (WA 16 ad)) (F0 m 111 ls []) := by
    intro σ hf H locs hP hS ls hl
    unfold fX7_tell_B111 at hf
    refine lv_aload_n hx hb dX7_tell_111 rfl (lv_at hl 0 rfl) ?_
    refine xt_get (ci := 7) (C := RX7) (T := TX7) (n := 25) (v := .int (σ 0 24)) hx hb hts iX7_tell_X7 hown hK hP 0 (by decide) (LX7_obj ad cy _) rfl 24 (by decide) w1 rfl dX7_tell_112 ?_
    exact xt_iret hx hb hr hP hS (rs_1 hf) (rs_2 hf) dX7_tell_115 hlocks
  have loop65 : ∀ (x1 : Int32) (n65 : Nat) (σ : St) (x2 : Int32) (x3 : Int32), fX7_tell_L65 x1 (fun σ => fX7_tell_B111 σ) n65 σ x2 x3 = some res → ∀ (H : Heap) (locs : List Loc), va_P (dC, dI) vwCl (wd 16 ad (layM ad cy) σ) H → va_S (WA 16 ad) s.heap H locs → ∀ (ls : Array Slot), lv_has ls 4 [(0, .ref (ad 0)), (1, .int x1), (2, .int x2), (3, .int x3)] → W p l e rmX7_tell s m args below meth c H locs 0 0 (MQ below (Qiw (dC, dI) 16 ad (layM ad cy) res.1 res.2) args s 0 0 (WA 16 ad)) (F0 m 65 ls []) := by
    intro x1 n65
    induction n65 with
    | zero => intro σ x2 x3 hf; simp [fX7_tell_L65] at hf
    | succ n65 ih65 =>
      intro σ x2 x3 hf H locs hP hS ls hl
      rw [fX7_tell_L65] at hf
      refine lv_iload_n hx hb dX7_tell_65 rfl (lv_at hl 3 rfl) ?_
      refine lv_aload_n hx hb dX7_tell_66 rfl (lv_at hl 0 rfl) ?_
      refine xt_get (ci := 7) (C := RX7) (T := TX7) (n := 25) (v := .ref (ad 1)) hx hb hts iX7_tell_X7 hown hK hP 0 (by decide) (LX7_obj ad cy _) rfl 0 (by decide) w2 rfl dX7_tell_67 ?_
      refine lv_iconst (v := 1) hx hb dX7_tell_70 (by decide) ?_
      refine xt_iald hx hb hK hP 1 (by decide) 0 (LX7_all ad cy _) rfl (by decide) dX7_tell_71 ?_
      refine lv_icmp_ge (tgt := 111) hx hb dX7_tell_72 (by decide) (fun c1 => ?_) (fun c1 => ?_)
      · have hf := (if_pos c1).symm.trans hf
        exact kB111 σ hf H locs hP hS ls (lv_sub hl [0] rfl)
      · have hf := (if_neg c1).symm.trans hf
        refine lv_aload_n hx hb dX7_tell_75 rfl (lv_at hl 0 rfl) ?_
        refine xt_get (ci := 7) (C := RX7) (T := TX7) (n := 25) (v := .ref (ad 5)) hx hb hts iX7_tell_X7 hown hK hP 0 (by decide) (LX7_obj ad cy _) rfl 8 (by decide) w3 rfl dX7_tell_76 ?_
        refine lv_iload_n hx hb dX7_tell_79 rfl (lv_at hl 3 rfl) ?_
        obtain ⟨g2, hf⟩ := gd_some hf
        refine xt_iald hx hb hK hP 5 (by decide) 0 (LX7_lies ad cy _) rfl g2 dX7_tell_80 ?_
        refine lv_iload_n hx hb dX7_tell_81 rfl (lv_at hl 1 rfl) ?_
        refine lv_icmp_eq (tgt := 88) hx hb dX7_tell_82 (by decide) (fun c3 => ?_) (fun c3 => ?_)
        · have hf := (if_pos c3).symm.trans hf
          refine lv_iload_n hx hb dX7_tell_88 rfl (lv_at hl 2 rfl) ?_
          refine lv_if_ne (tgt := 98) hx hb dX7_tell_89 (by decide) (fun c4 => ?_) (fun c4 => ?_)
          · have hf := (if_neg c4).symm.trans hf
            refine lv_iconst (v := 0) hx hb dX7_tell_98 (by decide) ?_
            refine lv_istore_n (lv' := [(2, .int 0), (0, .ref (ad 0)), (1, .int x1), (3, .int x3)]) hx hb dX7_tell_99 rfl hl (by decide) rfl (fun ls hl => ?_)
            refine lv_aload_n hx hb dX7_tell_100 rfl (lv_at hl 1 rfl) ?_
            refine lv_iload_n hx hb dX7_tell_101 rfl (lv_at hl 3 rfl) ?_
            obtain ⟨r5, qr5, hf⟩ := bd_some hf
            refine xt_callVv (As := [.int x3]) (rest := []) (C := RX7) (ci := 7) ⟨hx, hb, hml, hown, hts⟩ 0 (mX7_writesNumber 5 l dC dI ad cy hJ σ x3 r5 qr5) (cwV 1 hts gX7_tell_X7_writesNumber rfl rfl rfl dmX7_writesNumber ⟨Nat.le_of_ble_eq_true rfl, Nat.le_of_ble_eq_true rfl⟩) hK hP hS (by decide) (LX7_obj ad cy _) rfl rfl rfl hl.1 (Nat.le_of_ble_eq_true rfl) ⟨Nat.zero_le _, Nat.zero_le _⟩ dX7_tell_102 (fun H locs hP hS => ?_)
            obtain ⟨v6, ev6⟩ : ∃ y : Int32, y = x3 + 1 := ⟨_, rfl⟩
            have hf := nm_to hf ev6
            refine lv_iinc (v := v6) (lv' := [(3, .int v6), (2, .int 0), (0, .ref (ad 0)), (1, .int x1)]) hx hb dX7_tell_105 hl (k := 3) rfl (by rw [ev6]; rfl) (by decide) rfl (fun ls hl => ?_)
            refine lv_goto (tgt := 65) hx hb dX7_tell_108 (by decide) ?_
            exact ih65 r5 0 v6 hf H locs hP hS ls (lv_sub hl [2, 3, 1, 0] rfl)
          · have hf := (if_pos c4).symm.trans hf
            refine lv_aload_n hx hb dX7_tell_92 rfl (lv_at hl 0 rfl) ?_
            refine lv_bipush (v := 44) hx hb dX7_tell_93 (by decide) ?_
            obtain ⟨r7, qr7, hf⟩ := bd_some hf
            refine xt_callVv (As := [.int 44]) (rest := []) (C := RX7) (ci := 7) ⟨hx, hb, hml, hown, hts⟩ 0 (mX7_writes l dC dI ad cy hJ σ 44 r7 qr7) (cwV 1 hts gX7_tell_X7_writes rfl rfl rfl dmX7_writes ⟨Nat.le_of_ble_eq_true rfl, Nat.le_of_ble_eq_true rfl⟩) hK hP hS (by decide) (LX7_obj ad cy _) rfl rfl rfl hl.1 (Nat.le_of_ble_eq_true rfl) ⟨Nat.zero_le _, Nat.zero_le _⟩ dX7_tell_95 (fun H locs hP hS => ?_)
            refine lv_iconst (v := 0) hx hb dX7_tell_98 (by decide) ?_
            refine lv_istore_n (lv' := [(2, .int 0), (0, .ref (ad 0)), (1, .int x1), (3, .int x3)]) hx hb dX7_tell_99 rfl hl (by decide) rfl (fun ls hl => ?_)
            refine lv_aload_n hx hb dX7_tell_100 rfl (lv_at hl 1 rfl) ?_
            refine lv_iload_n hx hb dX7_tell_101 rfl (lv_at hl 3 rfl) ?_
            obtain ⟨r8, qr8, hf⟩ := bd_some hf
            refine xt_callVv (As := [.int x3]) (rest := []) (C := RX7) (ci := 7) ⟨hx, hb, hml, hown, hts⟩ 0 (mX7_writesNumber 5 l dC dI ad cy hJ r7 x3 r8 qr8) (cwV 1 hts gX7_tell_X7_writesNumber rfl rfl rfl dmX7_writesNumber ⟨Nat.le_of_ble_eq_true rfl, Nat.le_of_ble_eq_true rfl⟩) hK hP hS (by decide) (LX7_obj ad cy _) rfl rfl rfl hl.1 (Nat.le_of_ble_eq_true rfl) ⟨Nat.zero_le _, Nat.zero_le _⟩ dX7_tell_102 (fun H locs hP hS => ?_)
            obtain ⟨v9, ev9⟩ : ∃ y : Int32, y = x3 + 1 := ⟨_, rfl⟩
            have hf := nm_to hf ev9
            refine lv_iinc (v := v9) (lv' := [(3, .int v9), (2, .int 0), (0, .ref (ad 0)), (1, .int x1)]) hx hb dX7_tell_105 hl (k := 3) rfl (by rw [ev9]; rfl) (by decide) rfl (fun ls hl => ?_)
            refine lv_goto (tgt := 65) hx hb dX7_tell_108 (by decide) ?_
            exact ih65 r8 0 v9 hf H locs hP hS ls (lv_sub hl [2, 3, 1, 0] rfl)
        · have hf := (if_neg c3).symm.trans hf
          refine lv_goto (tgt := 105) hx hb dX7_tell_85 (by decide) ?_
          obtain ⟨v10, ev10⟩ : ∃ y : Int32, y = x3 + 1 := ⟨_, rfl⟩
          have hf := nm_to hf ev10
          refine lv_iinc (v := v10) (lv' := [(3, .int v10), (0, .ref (ad 0)), (1, .int x1), (2, .int x2)]) hx hb dX7_tell_105 hl (k := 3) rfl (by rw [ev10]; rfl) (by decide) rfl (fun ls hl => ?_)
          refine lv_goto (tgt := 65) hx hb dX7_tell_108 (by decide) ?_
          exact ih65 σ x2 v10 hf H locs hP hS ls (lv_sub hl [1, 2, 3, 0] rfl)
  have kB55 : ∀ (σ : St) (x1 : Int32), fX7_tell_B55 σ x1 = some res → ∀ (H : Heap) (locs : List Loc), va_P (dC, dI) vwCl (wd 16 ad (layM ad cy) σ) H → va_S (WA 16 ad) s.heap H locs → ∀ (ls : Array Slot), lv_has ls 4 [(0, .ref (ad 0)), (1, .int x1)] → W p l e rmX7_tell s m args below meth c H locs 0 0 (MQ below (Qiw (dC, dI) 16 ad (layM ad cy) res.1 res.2) args s 0 0 (WA 16 ad)) (F0 m 55 ls []) := by
    intro σ x1 hf H locs hP hS ls hl
    unfold fX7_tell_B55 at hf
    refine lv_aload_n hx hb dX7_tell_55 rfl (lv_at hl 0 rfl) ?_
    refine lv_bipush (v := 58) hx hb dX7_tell_56 (by decide) ?_
    obtain ⟨r11, qr11, hf⟩ := bd_some hf
    refine xt_callVv (As := [.int 58]) (rest := []) (C := RX7) (ci := 7) ⟨hx, hb, hml, hown, hts⟩ 0 (mX7_writes l dC dI ad cy hJ σ 58 r11 qr11) (cwV 1 hts gX7_tell_X7_writes rfl rfl rfl dmX7_writes ⟨Nat.le_of_ble_eq_true rfl, Nat.le_of_ble_eq_true rfl⟩) hK hP hS (by decide) (LX7_obj ad cy _) rfl rfl rfl hl.1 (Nat.le_of_ble_eq_true rfl) ⟨Nat.zero_le _, Nat.zero_le _⟩ dX7_tell_58 (fun H locs hP hS => ?_)
    refine lv_iconst (v := 1) hx hb dX7_tell_61 (by decide) ?_
    refine lv_istore_n (lv' := [(2, .int 1), (0, .ref (ad 0)), (1, .int x1)]) hx hb dX7_tell_62 rfl hl (by decide) rfl (fun ls hl => ?_)
    refine lv_iconst (v := 0) hx hb dX7_tell_63 (by decide) ?_
    refine lv_istore_n (lv' := [(3, .int 0), (2, .int 1), (0, .ref (ad 0)), (1, .int x1)]) hx hb dX7_tell_64 rfl hl (by decide) rfl (fun ls hl => ?_)
    exact loop65 x1 1000 r11 1 0 hf H locs hP hS ls (lv_sub hl [2, 3, 1, 0] rfl)
  unfold fX7_tell at hf
  obtain ⟨H, eH⟩ : ∃ H : Heap, H = s.heap := ⟨_, rfl⟩
  rw [← eH] at hP
  have hS : va_S (WA 16 ad) s.heap H [] := by rw [eH]; exact hS
  suffices K : W p l e rmX7_tell s m args below meth c H [] 0 0 (MQ below (Qiw (dC, dI) 16 ad (layM ad cy) res.1 res.2) args s 0 0 (WA 16 ad)) (F0 m 0 ls []) by rw [eH] at K; exact K
  clear eH
  obtain ⟨locs, elocs⟩ : ∃ z : List Loc, z = [] := ⟨_, rfl⟩
  rw [← elocs] at hS ⊢
  refine lv_aload_n hx hb dX7_tell_0 rfl (lv_at hl 0 rfl) ?_
  refine lv_iload_n hx hb dX7_tell_1 rfl (lv_at hl 1 rfl) ?_
  obtain ⟨r12, qr12, hf⟩ := bd_some hf
  refine xt_callVi (As := [.int a1]) (rest := []) (C := RX7) (ci := 7) ⟨hx, hb, hml, hown, hts⟩ 0 (mX7_isPier l dC dI ad cy hJ σ a1 r12 qr12) (cwV 1 hts gX7_tell_X7_isPier rfl rfl rfl dmX7_isPier ⟨Nat.le_of_ble_eq_true rfl, Nat.le_of_ble_eq_true rfl⟩) hK hP hS (by decide) (LX7_obj ad cy _) rfl rfl rfl hl.1 (Nat.le_of_ble_eq_true rfl) ⟨Nat.zero_le _, Nat.zero_le _⟩ dX7_tell_2 (fun H locs hP hS => ?_)
  refine lv_if_ne (tgt := 11) hx hb dX7_tell_5 (by decide) (fun c13 => ?_) (fun c13 => ?_)
  · have hf := (if_neg c13).symm.trans hf
    refine lv_aload_n hx hb dX7_tell_11 rfl (lv_at hl 0 rfl) ?_
    obtain ⟨r14, qr14, hf⟩ := bd_some hf
    refine xt_callVv (As := []) (rest := []) (C := RX7) (ci := 7) ⟨hx, hb, hml, hown, hts⟩ 0 (mX7_lays l dC dI ad cy hJ σ r14 qr14) (cwV 0 hts gX7_tell_X7_lays rfl rfl rfl dmX7_lays ⟨Nat.le_of_ble_eq_true rfl, Nat.le_of_ble_eq_true rfl⟩) hK hP hS (by decide) (LX7_obj ad cy _) rfl rfl rfl hl.1 (Nat.le_of_ble_eq_true rfl) ⟨Nat.zero_le _, Nat.zero_le _⟩ dX7_tell_12 (fun H locs hP hS => ?_)
    refine lv_aload_n hx hb dX7_tell_15 rfl (lv_at hl 0 rfl) ?_
    refine lv_iconst (v := 0) hx hb dX7_tell_16 (by decide) ?_
    refine xt_put (ci := 7) (C := RX7) (T := TX7) (n := 25) hx hb hts iX7_tell_X7 tyX7 tyX7_ok nmX7 hown hK hP hJ hS 0 (by decide) (LX7_obj ad cy _) rfl 24 (by decide) w1 rfl (v := 0) rfl rfl (Nat.le_of_ble_eq_true rfl) (LX7_obj ad cy _) dX7_tell_17 (fun H locs hP hS => ?_)
    obtain ⟨σ15, eσ15⟩ : ∃ z : St, z = su r14 0 24 0 := ⟨_, rfl⟩
    rw [← eσ15] at hP
    have hf := nm_to hf eσ15
    refine lv_aload_n hx hb dX7_tell_20 rfl (lv_at hl 0 rfl) ?_
    refine lv_iload_n hx hb dX7_tell_21 rfl (lv_at hl 1 rfl) ?_
    obtain ⟨r16, qr16, hf⟩ := bd_some hf
    refine xt_callVv (As := [.int a1]) (rest := []) (C := RX7) (ci := 7) ⟨hx, hb, hml, hown, hts⟩ 0 (mX7_writesNumber 5 l dC dI ad cy hJ σ15 a1 r16 qr16) (cwV 1 hts gX7_tell_X7_writesNumber rfl rfl rfl dmX7_writesNumber ⟨Nat.le_of_ble_eq_true rfl, Nat.le_of_ble_eq_true rfl⟩) hK hP hS (by decide) (LX7_obj ad cy _) rfl rfl rfl hl.1 (Nat.le_of_ble_eq_true rfl) ⟨Nat.zero_le _, Nat.zero_le _⟩ dX7_tell_22 (fun H locs hP hS => ?_)
    refine lv_aload_n hx hb dX7_tell_25 rfl (lv_at hl 0 rfl) ?_
    refine lv_bipush (v := 42) hx hb dX7_tell_26 (by decide) ?_
    obtain ⟨r17, qr17, hf⟩ := bd_some hf
    refine xt_callVv (As := [.int 42]) (rest := []) (C := RX7) (ci := 7) ⟨hx, hb, hml, hown, hts⟩ 0 (mX7_writes l dC dI ad cy hJ r16 42 r17 qr17) (cwV 1 hts gX7_tell_X7_writes rfl rfl rfl dmX7_writes ⟨Nat.le_of_ble_eq_true rfl, Nat.le_of_ble_eq_true rfl⟩) hK hP hS (by decide) (LX7_obj ad cy _) rfl rfl rfl hl.1 (Nat.le_of_ble_eq_true rfl) ⟨Nat.zero_le _, Nat.zero_le _⟩ dX7_tell_28 (fun H locs hP hS => ?_)
    refine lv_aload_n hx hb dX7_tell_31 rfl (lv_at hl 0 rfl) ?_
    refine lv_aload_n hx hb dX7_tell_32 rfl (lv_at hl 0 rfl) ?_
    refine lv_iload_n hx hb dX7_tell_33 rfl (lv_at hl 1 rfl) ?_
    refine lv_iconst (v := 0) hx hb dX7_tell_34 (by decide) ?_
    obtain ⟨r18, qr18, hf⟩ := bd_some hf
    refine xt_callVi (As := [.int a1, .int 0]) (rest := [.ref (ad 0)]) (C := RX7) (ci := 7) ⟨hx, hb, hml, hown, hts⟩ 0 (mX7_p l dC dI ad cy hJ r17 a1 0 r18 qr18) (cwV 2 hts gX7_tell_X7_p rfl rfl rfl dmX7_p ⟨Nat.le_of_ble_eq_true rfl, Nat.le_of_ble_eq_true rfl⟩) hK hP hS (by decide) (LX7_obj ad cy _) rfl rfl rfl hl.1 (Nat.le_of_ble_eq_true rfl) ⟨Nat.zero_le _, Nat.zero_le _⟩ dX7_tell_35 (fun H locs hP hS => ?_)
    obtain ⟨r19, qr19, hf⟩ := bd_some hf
    refine xt_callVv (As := [.int r18]) (rest := []) (C := RX7) (ci := 7) ⟨hx, hb, hml, hown, hts⟩ 0 (mX7_writesNumber 5 l dC dI ad cy hJ r17 r18 r19 qr19) (cwV 1 hts gX7_tell_X7_writesNumber rfl rfl rfl dmX7_writesNumber ⟨Nat.le_of_ble_eq_true rfl, Nat.le_of_ble_eq_true rfl⟩) hK hP hS (by decide) (LX7_obj ad cy _) rfl rfl rfl hl.1 (Nat.le_of_ble_eq_true rfl) ⟨Nat.zero_le _, Nat.zero_le _⟩ dX7_tell_38 (fun H locs hP hS => ?_)
    refine lv_aload_n hx hb dX7_tell_41 rfl (lv_at hl 0 rfl) ?_
    refine lv_iload_n hx hb dX7_tell_42 rfl (lv_at hl 1 rfl) ?_
    obtain ⟨r20, qr20, hf⟩ := bd_some hf
    refine xt_callVi (As := [.int a1]) (rest := []) (C := RX7) (ci := 7) ⟨hx, hb, hml, hown, hts⟩ 0 (mX7_isOpen l dC dI ad cy hJ r19 a1 r20 qr20) (cwV 1 hts gX7_tell_X7_isOpen rfl rfl rfl dmX7_isOpen ⟨Nat.le_of_ble_eq_true rfl, Nat.le_of_ble_eq_true rfl⟩) hK hP hS (by decide) (LX7_obj ad cy _) rfl rfl rfl hl.1 (Nat.le_of_ble_eq_true rfl) ⟨Nat.zero_le _, Nat.zero_le _⟩ dX7_tell_43 (fun H locs hP hS => ?_)
    refine lv_if_ne (tgt := 55) hx hb dX7_tell_46 (by decide) (fun c21 => ?_) (fun c21 => ?_)
    · have hf := (if_neg c21).symm.trans hf
      exact kB55 r19 a1 hf H locs hP hS ls (lv_sub hl [0, 1] rfl)
    · have hf := (if_pos c21).symm.trans hf
      refine lv_aload_n hx hb dX7_tell_49 rfl (lv_at hl 0 rfl) ?_
      refine lv_bipush (v := 120) hx hb dX7_tell_50 (by decide) ?_
      obtain ⟨r22, qr22, hf⟩ := bd_some hf
      refine xt_callVv (As := [.int 120]) (rest := []) (C := RX7) (ci := 7) ⟨hx, hb, hml, hown, hts⟩ 0 (mX7_writes l dC dI ad cy hJ r19 120 r22 qr22) (cwV 1 hts gX7_tell_X7_writes rfl rfl rfl dmX7_writes ⟨Nat.le_of_ble_eq_true rfl, Nat.le_of_ble_eq_true rfl⟩) hK hP hS (by decide) (LX7_obj ad cy _) rfl rfl rfl hl.1 (Nat.le_of_ble_eq_true rfl) ⟨Nat.zero_le _, Nat.zero_le _⟩ dX7_tell_52 (fun H locs hP hS => ?_)
      exact kB55 r22 a1 hf H locs hP hS ls (lv_sub hl [0, 1] rfl)
  · have hf := (if_pos c13).symm.trans hf
    refine lv_bipush (v := (-11)) hx hb dX7_tell_8 (by decide) ?_
    exact xt_iret hx hb hr hP hS (rs_1 hf) (rs_2 hf) dX7_tell_10 hlocks
def fX7_tellBarge (σ : St) (a1 : Int32) : Option (Int32 × St) :=
  bd (fX7_isBarge σ a1) fun r1 => if r1 = 0 then (some ((-11), σ)) else (bd (fX7_lays σ) fun r3 => nm (su r3 0 24 0) fun σ4 => bd (fX7_writesNumber 5 σ4 a1) fun r5 => bd (fX7_writes r5 61) fun r6 => bd (fX7_b r6 a1 0) fun r7 => bd (fX7_writesNumber 5 r6 r7) fun r8 => bd (fX7_writes r8 64) fun r9 => bd (fX7_b r9 a1 0) fun r10 => bd (fX7_placeOf r9 r10) fun r11 => bd (fX7_writesNumber 5 r9 r11) fun r12 => bd (fX7_writes r12 43) fun r13 => bd (fX7_b r13 a1 1) fun r14 => bd (fX7_writesNumber 5 r13 r14) fun r15 => bd (fX7_writes r15 62) fun r16 => gd (okI a1 24) <| if (r16 5 a1.toNatClampNeg) = (-1 : Int32) then (bd (fX7_writes r16 45) fun r21 => some ((r21 0 24), r21)) else (gd (okI a1 24) <| bd (fX7_writesNumber 5 r16 (r16 5 a1.toNatClampNeg)) fun r20 => some ((r20 0 24), r20)))
abbrev rmX7_tellBarge : Room := { frames := 7, cells := 0, slots := 0, locals := 147 }
theorem dmX7_tellBarge : yX7_tellBarge.cls = RX7 ∧ yX7_tellBarge.cls ≠ "java/lang/invoke/MethodHandle" ∧ yX7_tellBarge.cls ≠ "java/lang/invoke/VarHandle" ∧ (parseMethodDescriptor yX7_tellBarge.desc).map (fun d => d.parameters.length) = some 1 := by decide +kernel
theorem iX7_tellBarge_X7 : ∀ w ∈ wsX70, w ∈ wsX7_tellBarge := fun w h => List.mem_cons_of_mem _ (List.mem_append_right _ (h))
set_option maxHeartbeats 8000000 in
set_option maxRecDepth 100000 in
theorem mX7_tellBarge (l : Launch) (dC : Nat → ClassId) (dI : Nat → Nat → Nat) (ad : Nat → Nat) (cy : Nat → ClassId) (hJ : WJ 16 ad) (σ : St) (a1 : Int32) (res : (Int32 × St)) (hf : fX7_tellBarge σ a1 = some res) : CMi l yX7_tellBarge wsX7_tellBarge rmX7_tellBarge (dC, dI) (tysX cy) 16 ad (layM ad cy) [.ref (ad 0), .int a1] σ res.1 res.2 := by
  refine Met.ofW (cc := cX7_tellBarge) (maxL := 2) (ret := (some .int)) (by decide) rfl ?_
  intro p e s m args below meth c s₁ B hml hv
  obtain ⟨hargs, hP, hK⟩ := hv
  have hx := B.exec
  have hb := B.bytes
  have hr := B.returns
  have hts := atoms_spec (ws := wsX7_tellBarge) B.pre
  have hown : s.vm.findClass RX7 = some m.cls := findClass_of_methodNamed B.named
  have hlocks := B.notSynchronized
  have w1 := hts (.fieldLink RX7 234 "PierRingsModel" "lineSize" "I") (List.mem_of_getElem? (i := 1) rfl)
  have w2 := hts (.fieldLink RX7 22 "PierRingsModel" "lies" "[I") (List.mem_of_getElem? (i := 2) rfl)
  have hS : va_S (WA 16 ad) s.heap s.heap [] := va_S.rf
  have hfr : entryFrame m args 2 = F0 m 0 ((lg_sl [.ref (ad 0), .int a1] ++ List.replicate (2 - (lg_sl [.ref (ad 0), .int a1]).length) Slot.unset).toArray) [] := by rw [hargs]; exact lg_entry_eq _ _ _
  rw [hfr]
  have hl := lv_entry ([.ref (ad 0), .int a1]) (n := 2) (Nat.le_of_ble_eq_true rfl)
  generalize (lg_sl [.ref (ad 0), .int a1] ++ List.replicate (2 - (lg_sl [.ref (ad 0), .int a1]).length) Slot.unset).toArray = ls at hl ⊢
  have hl : lv_has ls 2 [(0, .ref (ad 0)), (1, .int a1)] := hl
  clear hfr hargs B
  show W p l e rmX7_tellBarge s m args below meth c s.heap [] 0 0 (MQ below (Qiw (dC, dI) 16 ad (layM ad cy) res.1 res.2) args s 0 0 (WA 16 ad)) (F0 m 0 ls [])
  unfold fX7_tellBarge at hf
  obtain ⟨H, eH⟩ : ∃ H : Heap, H = s.heap := ⟨_, rfl⟩
  rw [← eH] at hP
  have hS : va_S (WA 16 ad) s.heap H [] := by rw [eH]; exact hS
  suffices K : W p l e rmX7_tellBarge s m args below meth c H [] 0 0 (MQ below (Qiw (dC, dI) 16 ad (layM ad cy) res.1 res.2) args s 0 0 (WA 16 ad)) (F0 m 0 ls []) by rw [eH] at K; exact K
  clear eH
  obtain ⟨locs, elocs⟩ : ∃ z : List Loc, z = [] := ⟨_, rfl⟩
  rw [← elocs] at hS ⊢
  refine lv_aload_n hx hb dX7_tellBarge_0 rfl (lv_at hl 0 rfl) ?_
  refine lv_iload_n hx hb dX7_tellBarge_1 rfl (lv_at hl 1 rfl) ?_
  obtain ⟨r1, qr1, hf⟩ := bd_some hf
  refine xt_callVi (As := [.int a1]) (rest := []) (C := RX7) (ci := 7) ⟨hx, hb, hml, hown, hts⟩ 0 (mX7_isBarge l dC dI ad cy hJ σ a1 r1 qr1) (cwV 1 hts gX7_tellBarge_X7_isBarge rfl rfl rfl dmX7_isBarge ⟨Nat.le_of_ble_eq_true rfl, Nat.le_of_ble_eq_true rfl⟩) hK hP hS (by decide) (LX7_obj ad cy _) rfl rfl rfl hl.1 (Nat.le_of_ble_eq_true rfl) ⟨Nat.zero_le _, Nat.zero_le _⟩ dX7_tellBarge_2 (fun H locs hP hS => ?_)
  refine lv_if_ne (tgt := 11) hx hb dX7_tellBarge_5 (by decide) (fun c2 => ?_) (fun c2 => ?_)
  · have hf := (if_neg c2).symm.trans hf
    refine lv_aload_n hx hb dX7_tellBarge_11 rfl (lv_at hl 0 rfl) ?_
    obtain ⟨r3, qr3, hf⟩ := bd_some hf
    refine xt_callVv (As := []) (rest := []) (C := RX7) (ci := 7) ⟨hx, hb, hml, hown, hts⟩ 0 (mX7_lays l dC dI ad cy hJ σ r3 qr3) (cwV 0 hts gX7_tellBarge_X7_lays rfl rfl rfl dmX7_lays ⟨Nat.le_of_ble_eq_true rfl, Nat.le_of_ble_eq_true rfl⟩) hK hP hS (by decide) (LX7_obj ad cy _) rfl rfl rfl hl.1 (Nat.le_of_ble_eq_true rfl) ⟨Nat.zero_le _, Nat.zero_le _⟩ dX7_tellBarge_12 (fun H locs hP hS => ?_)
    refine lv_aload_n hx hb dX7_tellBarge_15 rfl (lv_at hl 0 rfl) ?_
    refine lv_iconst (v := 0) hx hb dX7_tellBarge_16 (by decide) ?_
    refine xt_put (ci := 7) (C := RX7) (T := TX7) (n := 25) hx hb hts iX7_tellBarge_X7 tyX7 tyX7_ok nmX7 hown hK hP hJ hS 0 (by decide) (LX7_obj ad cy _) rfl 24 (by decide) w1 rfl (v := 0) rfl rfl (Nat.le_of_ble_eq_true rfl) (LX7_obj ad cy _) dX7_tellBarge_17 (fun H locs hP hS => ?_)
    obtain ⟨σ4, eσ4⟩ : ∃ z : St, z = su r3 0 24 0 := ⟨_, rfl⟩
    rw [← eσ4] at hP
    have hf := nm_to hf eσ4
    refine lv_aload_n hx hb dX7_tellBarge_20 rfl (lv_at hl 0 rfl) ?_
    refine lv_iload_n hx hb dX7_tellBarge_21 rfl (lv_at hl 1 rfl) ?_
    obtain ⟨r5, qr5, hf⟩ := bd_some hf
    refine xt_callVv (As := [.int a1]) (rest := []) (C := RX7) (ci := 7) ⟨hx, hb, hml, hown, hts⟩ 0 (mX7_writesNumber 5 l dC dI ad cy hJ σ4 a1 r5 qr5) (cwV 1 hts gX7_tellBarge_X7_writesNumber rfl rfl rfl dmX7_writesNumber ⟨Nat.le_of_ble_eq_true rfl, Nat.le_of_ble_eq_true rfl⟩) hK hP hS (by decide) (LX7_obj ad cy _) rfl rfl rfl hl.1 (Nat.le_of_ble_eq_true rfl) ⟨Nat.zero_le _, Nat.zero_le _⟩ dX7_tellBarge_22 (fun H locs hP hS => ?_)
    refine lv_aload_n hx hb dX7_tellBarge_25 rfl (lv_at hl 0 rfl) ?_
    refine lv_bipush (v := 61) hx hb dX7_tellBarge_26 (by decide) ?_
    obtain ⟨r6, qr6, hf⟩ := bd_some hf
    refine xt_callVv (As := [.int 61]) (rest := []) (C := RX7) (ci := 7) ⟨hx, hb, hml, hown, hts⟩ 0 (mX7_writes l dC dI ad cy hJ r5 61 r6 qr6) (cwV 1 hts gX7_tellBarge_X7_writes rfl rfl rfl dmX7_writes ⟨Nat.le_of_ble_eq_true rfl, Nat.le_of_ble_eq_true rfl⟩) hK hP hS (by decide) (LX7_obj ad cy _) rfl rfl rfl hl.1 (Nat.le_of_ble_eq_true rfl) ⟨Nat.zero_le _, Nat.zero_le _⟩ dX7_tellBarge_28 (fun H locs hP hS => ?_)
    refine lv_aload_n hx hb dX7_tellBarge_31 rfl (lv_at hl 0 rfl) ?_
    refine lv_aload_n hx hb dX7_tellBarge_32 rfl (lv_at hl 0 rfl) ?_
    refine lv_iload_n hx hb dX7_tellBarge_33 rfl (lv_at hl 1 rfl) ?_
    refine lv_iconst (v := 0) hx hb dX7_tellBarge_34 (by decide) ?_
    obtain ⟨r7, qr7, hf⟩ := bd_some hf
    refine xt_callVi (As := [.int a1, .int 0]) (rest := [.ref (ad 0)]) (C := RX7) (ci := 7) ⟨hx, hb, hml, hown, hts⟩ 0 (mX7_b l dC dI ad cy hJ r6 a1 0 r7 qr7) (cwV 2 hts gX7_tellBarge_X7_b rfl rfl rfl dmX7_b ⟨Nat.le_of_ble_eq_true rfl, Nat.le_of_ble_eq_true rfl⟩) hK hP hS (by decide) (LX7_obj ad cy _) rfl rfl rfl hl.1 (Nat.le_of_ble_eq_true rfl) ⟨Nat.zero_le _, Nat.zero_le _⟩ dX7_tellBarge_35 (fun H locs hP hS => ?_)
    obtain ⟨r8, qr8, hf⟩ := bd_some hf
    refine xt_callVv (As := [.int r7]) (rest := []) (C := RX7) (ci := 7) ⟨hx, hb, hml, hown, hts⟩ 0 (mX7_writesNumber 5 l dC dI ad cy hJ r6 r7 r8 qr8) (cwV 1 hts gX7_tellBarge_X7_writesNumber rfl rfl rfl dmX7_writesNumber ⟨Nat.le_of_ble_eq_true rfl, Nat.le_of_ble_eq_true rfl⟩) hK hP hS (by decide) (LX7_obj ad cy _) rfl rfl rfl hl.1 (Nat.le_of_ble_eq_true rfl) ⟨Nat.zero_le _, Nat.zero_le _⟩ dX7_tellBarge_38 (fun H locs hP hS => ?_)
    refine lv_aload_n hx hb dX7_tellBarge_41 rfl (lv_at hl 0 rfl) ?_
    refine lv_bipush (v := 64) hx hb dX7_tellBarge_42 (by decide) ?_
    obtain ⟨r9, qr9, hf⟩ := bd_some hf
    refine xt_callVv (As := [.int 64]) (rest := []) (C := RX7) (ci := 7) ⟨hx, hb, hml, hown, hts⟩ 0 (mX7_writes l dC dI ad cy hJ r8 64 r9 qr9) (cwV 1 hts gX7_tellBarge_X7_writes rfl rfl rfl dmX7_writes ⟨Nat.le_of_ble_eq_true rfl, Nat.le_of_ble_eq_true rfl⟩) hK hP hS (by decide) (LX7_obj ad cy _) rfl rfl rfl hl.1 (Nat.le_of_ble_eq_true rfl) ⟨Nat.zero_le _, Nat.zero_le _⟩ dX7_tellBarge_44 (fun H locs hP hS => ?_)
    refine lv_aload_n hx hb dX7_tellBarge_47 rfl (lv_at hl 0 rfl) ?_
    refine lv_aload_n hx hb dX7_tellBarge_48 rfl (lv_at hl 0 rfl) ?_
    refine lv_iload_n hx hb dX7_tellBarge_49 rfl (lv_at hl 1 rfl) ?_
    refine lv_iconst (v := 0) hx hb dX7_tellBarge_50 (by decide) ?_
    obtain ⟨r10, qr10, hf⟩ := bd_some hf
    refine xt_callVi (As := [.int a1, .int 0]) (rest := [.ref (ad 0)]) (C := RX7) (ci := 7) ⟨hx, hb, hml, hown, hts⟩ 0 (mX7_b l dC dI ad cy hJ r9 a1 0 r10 qr10) (cwV 2 hts gX7_tellBarge_X7_b rfl rfl rfl dmX7_b ⟨Nat.le_of_ble_eq_true rfl, Nat.le_of_ble_eq_true rfl⟩) hK hP hS (by decide) (LX7_obj ad cy _) rfl rfl rfl hl.1 (Nat.le_of_ble_eq_true rfl) ⟨Nat.zero_le _, Nat.zero_le _⟩ dX7_tellBarge_51 (fun H locs hP hS => ?_)
    obtain ⟨r11, qr11, hf⟩ := bd_some hf
    refine xt_callSi (As := [.int r10]) (rest := [.ref (ad 0)]) ⟨hx, hb, hml, hown, hts⟩ (mX7_placeOf l dC dI ad cy hJ r9 r10 r11 qr11) (va_cwS 1 hts gX7_tellBarge_X7_placeOf rfl rfl rfl dmX7_placeOf ⟨Nat.le_of_ble_eq_true rfl, Nat.le_of_ble_eq_true rfl⟩) hK hP hS rfl rfl hl.1 (Nat.le_of_ble_eq_true rfl) ⟨Nat.zero_le _, Nat.zero_le _⟩ dX7_tellBarge_54 (fun H locs hP hS => ?_)
    obtain ⟨r12, qr12, hf⟩ := bd_some hf
    refine xt_callVv (As := [.int r11]) (rest := []) (C := RX7) (ci := 7) ⟨hx, hb, hml, hown, hts⟩ 0 (mX7_writesNumber 5 l dC dI ad cy hJ r9 r11 r12 qr12) (cwV 1 hts gX7_tellBarge_X7_writesNumber rfl rfl rfl dmX7_writesNumber ⟨Nat.le_of_ble_eq_true rfl, Nat.le_of_ble_eq_true rfl⟩) hK hP hS (by decide) (LX7_obj ad cy _) rfl rfl rfl hl.1 (Nat.le_of_ble_eq_true rfl) ⟨Nat.zero_le _, Nat.zero_le _⟩ dX7_tellBarge_57 (fun H locs hP hS => ?_)
    refine lv_aload_n hx hb dX7_tellBarge_60 rfl (lv_at hl 0 rfl) ?_
    refine lv_bipush (v := 43) hx hb dX7_tellBarge_61 (by decide) ?_
    obtain ⟨r13, qr13, hf⟩ := bd_some hf
    refine xt_callVv (As := [.int 43]) (rest := []) (C := RX7) (ci := 7) ⟨hx, hb, hml, hown, hts⟩ 0 (mX7_writes l dC dI ad cy hJ r12 43 r13 qr13) (cwV 1 hts gX7_tellBarge_X7_writes rfl rfl rfl dmX7_writes ⟨Nat.le_of_ble_eq_true rfl, Nat.le_of_ble_eq_true rfl⟩) hK hP hS (by decide) (LX7_obj ad cy _) rfl rfl rfl hl.1 (Nat.le_of_ble_eq_true rfl) ⟨Nat.zero_le _, Nat.zero_le _⟩ dX7_tellBarge_63 (fun H locs hP hS => ?_)
    refine lv_aload_n hx hb dX7_tellBarge_66 rfl (lv_at hl 0 rfl) ?_
    refine lv_aload_n hx hb dX7_tellBarge_67 rfl (lv_at hl 0 rfl) ?_
    refine lv_iload_n hx hb dX7_tellBarge_68 rfl (lv_at hl 1 rfl) ?_
    refine lv_iconst (v := 1) hx hb dX7_tellBarge_69 (by decide) ?_
    obtain ⟨r14, qr14, hf⟩ := bd_some hf
    refine xt_callVi (As := [.int a1, .int 1]) (rest := [.ref (ad 0)]) (C := RX7) (ci := 7) ⟨hx, hb, hml, hown, hts⟩ 0 (mX7_b l dC dI ad cy hJ r13 a1 1 r14 qr14) (cwV 2 hts gX7_tellBarge_X7_b rfl rfl rfl dmX7_b ⟨Nat.le_of_ble_eq_true rfl, Nat.le_of_ble_eq_true rfl⟩) hK hP hS (by decide) (LX7_obj ad cy _) rfl rfl rfl hl.1 (Nat.le_of_ble_eq_true rfl) ⟨Nat.zero_le _, Nat.zero_le _⟩ dX7_tellBarge_70 (fun H locs hP hS => ?_)
    obtain ⟨r15, qr15, hf⟩ := bd_some hf
    refine xt_callVv (As := [.int r14]) (rest := []) (C := RX7) (ci := 7) ⟨hx, hb, hml, hown, hts⟩ 0 (mX7_writesNumber 5 l dC dI ad cy hJ r13 r14 r15 qr15) (cwV 1 hts gX7_tellBarge_X7_writesNumber rfl rfl rfl dmX7_writesNumber ⟨Nat.le_of_ble_eq_true rfl, Nat.le_of_ble_eq_true rfl⟩) hK hP hS (by decide) (LX7_obj ad cy _) rfl rfl rfl hl.1 (Nat.le_of_ble_eq_true rfl) ⟨Nat.zero_le _, Nat.zero_le _⟩ dX7_tellBarge_73 (fun H locs hP hS => ?_)
    refine lv_aload_n hx hb dX7_tellBarge_76 rfl (lv_at hl 0 rfl) ?_
    refine lv_bipush (v := 62) hx hb dX7_tellBarge_77 (by decide) ?_
    obtain ⟨r16, qr16, hf⟩ := bd_some hf
    refine xt_callVv (As := [.int 62]) (rest := []) (C := RX7) (ci := 7) ⟨hx, hb, hml, hown, hts⟩ 0 (mX7_writes l dC dI ad cy hJ r15 62 r16 qr16) (cwV 1 hts gX7_tellBarge_X7_writes rfl rfl rfl dmX7_writes ⟨Nat.le_of_ble_eq_true rfl, Nat.le_of_ble_eq_true rfl⟩) hK hP hS (by decide) (LX7_obj ad cy _) rfl rfl rfl hl.1 (Nat.le_of_ble_eq_true rfl) ⟨Nat.zero_le _, Nat.zero_le _⟩ dX7_tellBarge_79 (fun H locs hP hS => ?_)
    refine lv_aload_n hx hb dX7_tellBarge_82 rfl (lv_at hl 0 rfl) ?_
    refine xt_get (ci := 7) (C := RX7) (T := TX7) (n := 25) (v := .ref (ad 5)) hx hb hts iX7_tellBarge_X7 hown hK hP 0 (by decide) (LX7_obj ad cy _) rfl 8 (by decide) w2 rfl dX7_tellBarge_83 ?_
    refine lv_iload_n hx hb dX7_tellBarge_86 rfl (lv_at hl 1 rfl) ?_
    obtain ⟨g17, hf⟩ := gd_some hf
    refine xt_iald hx hb hK hP 5 (by decide) 0 (LX7_lies ad cy _) rfl g17 dX7_tellBarge_87 ?_
    refine lv_iconst (v := (-1)) hx hb dX7_tellBarge_88 (by decide) ?_
    refine lv_icmp_ne (tgt := 101) hx hb dX7_tellBarge_89 (by decide) (fun c18 => ?_) (fun c18 => ?_)
    · have hf := (if_neg c18).symm.trans hf
      refine lv_aload_n hx hb dX7_tellBarge_101 rfl (lv_at hl 0 rfl) ?_
      refine lv_aload_n hx hb dX7_tellBarge_102 rfl (lv_at hl 0 rfl) ?_
      refine xt_get (ci := 7) (C := RX7) (T := TX7) (n := 25) (v := .ref (ad 5)) hx hb hts iX7_tellBarge_X7 hown hK hP 0 (by decide) (LX7_obj ad cy _) rfl 8 (by decide) w2 rfl dX7_tellBarge_103 ?_
      refine lv_iload_n hx hb dX7_tellBarge_106 rfl (lv_at hl 1 rfl) ?_
      obtain ⟨g19, hf⟩ := gd_some hf
      refine xt_iald hx hb hK hP 5 (by decide) 0 (LX7_lies ad cy _) rfl g19 dX7_tellBarge_107 ?_
      obtain ⟨r20, qr20, hf⟩ := bd_some hf
      refine xt_callVv (As := [.int (r16 5 a1.toNatClampNeg)]) (rest := []) (C := RX7) (ci := 7) ⟨hx, hb, hml, hown, hts⟩ 0 (mX7_writesNumber 5 l dC dI ad cy hJ r16 (r16 5 a1.toNatClampNeg) r20 qr20) (cwV 1 hts gX7_tellBarge_X7_writesNumber rfl rfl rfl dmX7_writesNumber ⟨Nat.le_of_ble_eq_true rfl, Nat.le_of_ble_eq_true rfl⟩) hK hP hS (by decide) (LX7_obj ad cy _) rfl rfl rfl hl.1 (Nat.le_of_ble_eq_true rfl) ⟨Nat.zero_le _, Nat.zero_le _⟩ dX7_tellBarge_108 (fun H locs hP hS => ?_)
      refine lv_aload_n hx hb dX7_tellBarge_111 rfl (lv_at hl 0 rfl) ?_
      refine xt_get (ci := 7) (C := RX7) (T := TX7) (n := 25) (v := .int (r20 0 24)) hx hb hts iX7_tellBarge_X7 hown hK hP 0 (by decide) (LX7_obj ad cy _) rfl 24 (by decide) w1 rfl dX7_tellBarge_112 ?_
      exact xt_iret hx hb hr hP hS (rs_1 hf) (rs_2 hf) dX7_tellBarge_115 hlocks
    · have hf := (if_pos c18).symm.trans hf
      refine lv_aload_n hx hb dX7_tellBarge_92 rfl (lv_at hl 0 rfl) ?_
      refine lv_bipush (v := 45) hx hb dX7_tellBarge_93 (by decide) ?_
      obtain ⟨r21, qr21, hf⟩ := bd_some hf
      refine xt_callVv (As := [.int 45]) (rest := []) (C := RX7) (ci := 7) ⟨hx, hb, hml, hown, hts⟩ 0 (mX7_writes l dC dI ad cy hJ r16 45 r21 qr21) (cwV 1 hts gX7_tellBarge_X7_writes rfl rfl rfl dmX7_writes ⟨Nat.le_of_ble_eq_true rfl, Nat.le_of_ble_eq_true rfl⟩) hK hP hS (by decide) (LX7_obj ad cy _) rfl rfl rfl hl.1 (Nat.le_of_ble_eq_true rfl) ⟨Nat.zero_le _, Nat.zero_le _⟩ dX7_tellBarge_95 (fun H locs hP hS => ?_)
      refine lv_goto (tgt := 111) hx hb dX7_tellBarge_98 (by decide) ?_
      refine lv_aload_n hx hb dX7_tellBarge_111 rfl (lv_at hl 0 rfl) ?_
      refine xt_get (ci := 7) (C := RX7) (T := TX7) (n := 25) (v := .int (r21 0 24)) hx hb hts iX7_tellBarge_X7 hown hK hP 0 (by decide) (LX7_obj ad cy _) rfl 24 (by decide) w1 rfl dX7_tellBarge_112 ?_
      exact xt_iret hx hb hr hP hS (rs_1 hf) (rs_2 hf) dX7_tellBarge_115 hlocks
  · have hf := (if_pos c2).symm.trans hf
    refine lv_bipush (v := (-11)) hx hb dX7_tellBarge_8 (by decide) ?_
    exact xt_iret hx hb hr hP hS (rs_1 hf) (rs_2 hf) dX7_tellBarge_10 hlocks
