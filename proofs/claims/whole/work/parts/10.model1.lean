def fX7_in (σ : St) (a0 : Int32) (a1 : Int32) (a2 : Int32) : Option Int32 :=
  if a0 < a1 then (some (0 : Int32)) else (if a2 < a0 then (some (0 : Int32)) else (some (1 : Int32)))
abbrev rmX7_in : Room := { frames := 0, cells := 0, slots := 0, locals := 0 }
theorem dmX7_in : yX7_in.cls ≠ "java/lang/invoke/MethodHandle" ∧ yX7_in.cls ≠ "java/lang/invoke/VarHandle" ∧ (parseMethodDescriptor yX7_in.desc).map (fun d => d.parameters.length) = some 3 := by decide +kernel
set_option maxHeartbeats 8000000 in
set_option maxRecDepth 100000 in
theorem mX7_in (l : Launch) (dC : Nat → ClassId) (dI : Nat → Nat → Nat) (ad : Nat → Nat) (cy : Nat → ClassId) (hJ : WJ 16 ad) (σ : St) (a0 : Int32) (a1 : Int32) (a2 : Int32) (res : Int32) (hf : fX7_in σ a0 a1 a2 = some res) : CMi l yX7_in wsX7_in rmX7_in (dC, dI) (tysX cy) 16 ad (layM ad cy) [.int a0, .int a1, .int a2] σ res σ := by
  refine Met.ofW (cc := cX7_in) (maxL := 3) (ret := (some .boolean)) (by decide) rfl ?_
  intro p e s m args below meth c s₁ B hml hv
  obtain ⟨hargs, hP, hK⟩ := hv
  have hx := B.exec
  have hb := B.bytes
  have hr := B.returns
  have hts := atoms_spec (ws := wsX7_in) B.pre
  have hown : s.vm.findClass RX7 = some m.cls := findClass_of_methodNamed B.named
  have hlocks := B.notSynchronized
  have hS : va_S (WA 16 ad) s.heap s.heap [] := va_S.rf
  have hfr : entryFrame m args 3 = F0 m 0 ((lg_sl [.int a0, .int a1, .int a2] ++ List.replicate (3 - (lg_sl [.int a0, .int a1, .int a2]).length) Slot.unset).toArray) [] := by rw [hargs]; exact lg_entry_eq _ _ _
  rw [hfr]
  have hl := lv_entry ([.int a0, .int a1, .int a2]) (n := 3) (Nat.le_of_ble_eq_true rfl)
  generalize (lg_sl [.int a0, .int a1, .int a2] ++ List.replicate (3 - (lg_sl [.int a0, .int a1, .int a2]).length) Slot.unset).toArray = ls at hl ⊢
  have hl : lv_has ls 3 [(0, .int a0), (1, .int a1), (2, .int a2)] := hl
  clear hfr hargs B
  show W p l e rmX7_in s m args below meth c s.heap [] 0 0 (MQ below (Qiw (dC, dI) 16 ad (layM ad cy) res σ) args s 0 0 (WA 16 ad)) (F0 m 0 ls [])
  unfold fX7_in at hf
  obtain ⟨H, eH⟩ : ∃ H : Heap, H = s.heap := ⟨_, rfl⟩
  rw [← eH] at hP
  have hS : va_S (WA 16 ad) s.heap H [] := by rw [eH]; exact hS
  suffices K : W p l e rmX7_in s m args below meth c H [] 0 0 (MQ below (Qiw (dC, dI) 16 ad (layM ad cy) res σ) args s 0 0 (WA 16 ad)) (F0 m 0 ls []) by rw [eH] at K; exact K
  clear eH
  obtain ⟨locs, elocs⟩ : ∃ z : List Loc, z = [] := ⟨_, rfl⟩
  rw [← elocs] at hS ⊢
  refine lv_iload_n hx hb dX7_in_0 rfl (lv_at hl 0 rfl) ?_
  refine lv_iload_n hx hb dX7_in_1 rfl (lv_at hl 1 rfl) ?_
  refine lv_icmp_lt (tgt := 14) hx hb dX7_in_2 (by decide) (fun c1 => ?_) (fun c1 => ?_)
  · have hf := (if_pos c1).symm.trans hf
    refine lv_iconst (v := 0) hx hb dX7_in_14 (by decide) ?_
    exact xt_zret hx hb hr rfl hP hS (Option.some.inj hf) rfl dX7_in_15 hlocks
  · have hf := (if_neg c1).symm.trans hf
    refine lv_iload_n hx hb dX7_in_5 rfl (lv_at hl 0 rfl) ?_
    refine lv_iload_n hx hb dX7_in_6 rfl (lv_at hl 2 rfl) ?_
    refine lv_icmp_gt (tgt := 14) hx hb dX7_in_7 (by decide) (fun c2 => ?_) (fun c2 => ?_)
    · have hf := (if_pos c2).symm.trans hf
      refine lv_iconst (v := 0) hx hb dX7_in_14 (by decide) ?_
      exact xt_zret hx hb hr rfl hP hS (Option.some.inj hf) rfl dX7_in_15 hlocks
    · have hf := (if_neg c2).symm.trans hf
      refine lv_iconst (v := 1) hx hb dX7_in_10 (by decide) ?_
      refine lv_goto (tgt := 15) hx hb dX7_in_11 (by decide) ?_
      exact xt_zret hx hb hr rfl hP hS (Option.some.inj hf) rfl dX7_in_15 hlocks
def fX7_copies_B36 (σ : St) : Option St :=
  some σ
def fX7_copies_L2 (x1 : Int32) (x2 : Int32) (K2_36 : St → Option St) : Nat → St → Int32 → Option St
  | 0, _, _ => none
  | n2 + 1, σ, x3 => if (68 : Int32) ≤ x3 then (K2_36 σ) else (gd (okI ((68 * x1) + x3) 816) <| gd (okI ((68 * x2) + x3) 816) <| nm (su σ 1 ((68 * x2) + x3).toNatClampNeg (σ 1 ((68 * x1) + x3).toNatClampNeg)) fun σ4 => nm (x3 + 1) fun v5 => (fX7_copies_L2 x1 x2 K2_36 n2) σ4 v5)
def fX7_copies (σ : St) (a1 : Int32) (a2 : Int32) : Option St :=
  fX7_copies_L2 a1 a2 (fun σ => fX7_copies_B36 σ) 1000 σ 0
abbrev rmX7_copies : Room := { frames := 0, cells := 0, slots := 0, locals := 0 }
theorem dmX7_copies : yX7_copies.cls = RX7 ∧ yX7_copies.cls ≠ "java/lang/invoke/MethodHandle" ∧ yX7_copies.cls ≠ "java/lang/invoke/VarHandle" ∧ (parseMethodDescriptor yX7_copies.desc).map (fun d => d.parameters.length) = some 2 := by decide +kernel
theorem iX7_copies_X7 : ∀ w ∈ wsX70, w ∈ wsX7_copies := fun w h => List.mem_cons_of_mem _ (List.mem_append_right _ (h))
set_option maxHeartbeats 8000000 in
set_option maxRecDepth 100000 in
theorem mX7_copies (l : Launch) (dC : Nat → ClassId) (dI : Nat → Nat → Nat) (ad : Nat → Nat) (cy : Nat → ClassId) (hJ : WJ 16 ad) (σ : St) (a1 : Int32) (a2 : Int32) (res : St) (hf : fX7_copies σ a1 a2 = some res) : CMv l yX7_copies wsX7_copies rmX7_copies (dC, dI) (tysX cy) 16 ad (layM ad cy) [.ref (ad 0), .int a1, .int a2] σ res := by
  refine Met.ofW (cc := cX7_copies) (maxL := 4) (ret := none) (by decide) rfl ?_
  intro p e s m args below meth c s₁ B hml hv
  obtain ⟨hargs, hP, hK⟩ := hv
  have hx := B.exec
  have hb := B.bytes
  have hr := B.returns
  have hts := atoms_spec (ws := wsX7_copies) B.pre
  have hown : s.vm.findClass RX7 = some m.cls := findClass_of_methodNamed B.named
  have hlocks := B.notSynchronized
  have w1 := hts (.fieldLink RX7 9 "PierRingsModel" "all" "[I") (List.mem_of_getElem? (i := 1) rfl)
  have hS : va_S (WA 16 ad) s.heap s.heap [] := va_S.rf
  have hfr : entryFrame m args 4 = F0 m 0 ((lg_sl [.ref (ad 0), .int a1, .int a2] ++ List.replicate (4 - (lg_sl [.ref (ad 0), .int a1, .int a2]).length) Slot.unset).toArray) [] := by rw [hargs]; exact lg_entry_eq _ _ _
  rw [hfr]
  have hl := lv_entry ([.ref (ad 0), .int a1, .int a2]) (n := 4) (Nat.le_of_ble_eq_true rfl)
  generalize (lg_sl [.ref (ad 0), .int a1, .int a2] ++ List.replicate (4 - (lg_sl [.ref (ad 0), .int a1, .int a2]).length) Slot.unset).toArray = ls at hl ⊢
  have hl : lv_has ls 4 [(0, .ref (ad 0)), (1, .int a1), (2, .int a2)] := hl
  clear hfr hargs B
  show W p l e rmX7_copies s m args below meth c s.heap [] 0 0 (MQ below (Qvw (dC, dI) 16 ad (layM ad cy) res) args s 0 0 (WA 16 ad)) (F0 m 0 ls [])
  have kB36 : ∀ (σ : St), fX7_copies_B36 σ = some res → ∀ (H : Heap) (locs : List Loc), va_P (dC, dI) vwCl (wd 16 ad (layM ad cy) σ) H → va_S (WA 16 ad) s.heap H locs → ∀ (ls : Array Slot), lv_has ls 4 [] → W p l e rmX7_copies s m args below meth c H locs 0 0 (MQ below (Qvw (dC, dI) 16 ad (layM ad cy) res) args s 0 0 (WA 16 ad)) (F0 m 36 ls []) := by
    intro σ hf H locs hP hS ls hl
    unfold fX7_copies_B36 at hf
    exact xt_vret hx hb hr hP hS (Option.some.inj hf) dX7_copies_36 hlocks
  have loop2 : ∀ (x1 : Int32) (x2 : Int32) (n2 : Nat) (σ : St) (x3 : Int32), fX7_copies_L2 x1 x2 (fun σ => fX7_copies_B36 σ) n2 σ x3 = some res → ∀ (H : Heap) (locs : List Loc), va_P (dC, dI) vwCl (wd 16 ad (layM ad cy) σ) H → va_S (WA 16 ad) s.heap H locs → ∀ (ls : Array Slot), lv_has ls 4 [(0, .ref (ad 0)), (1, .int x1), (2, .int x2), (3, .int x3)] → W p l e rmX7_copies s m args below meth c H locs 0 0 (MQ below (Qvw (dC, dI) 16 ad (layM ad cy) res) args s 0 0 (WA 16 ad)) (F0 m 2 ls []) := by
    intro x1 x2 n2
    induction n2 with
    | zero => intro σ x3 hf; simp [fX7_copies_L2] at hf
    | succ n2 ih2 =>
      intro σ x3 hf H locs hP hS ls hl
      rw [fX7_copies_L2] at hf
      refine lv_iload_n hx hb dX7_copies_2 rfl (lv_at hl 3 rfl) ?_
      refine lv_bipush (v := 68) hx hb dX7_copies_3 (by decide) ?_
      refine lv_icmp_ge (tgt := 36) hx hb dX7_copies_5 (by decide) (fun c1 => ?_) (fun c1 => ?_)
      · have hf := (if_pos c1).symm.trans hf
        exact kB36 σ hf H locs hP hS ls (lv_sub hl [] rfl)
      · have hf := (if_neg c1).symm.trans hf
        refine lv_aload_n hx hb dX7_copies_8 rfl (lv_at hl 0 rfl) ?_
        refine xt_get (ci := 7) (C := RX7) (T := TX7) (n := 25) (v := .ref (ad 1)) hx hb hts iX7_copies_X7 hown hK hP 0 (by decide) (LX7_obj ad cy _) rfl 0 (by decide) w1 rfl dX7_copies_9 ?_
        refine lv_bipush (v := 68) hx hb dX7_copies_12 (by decide) ?_
        refine lv_iload_n hx hb dX7_copies_14 rfl (lv_at hl 2 rfl) ?_
        refine lv_imul hx hb dX7_copies_15 ?_
        refine lv_iload_n hx hb dX7_copies_16 rfl (lv_at hl 3 rfl) ?_
        refine lv_iadd hx hb dX7_copies_17 ?_
        refine lv_aload_n hx hb dX7_copies_18 rfl (lv_at hl 0 rfl) ?_
        refine xt_get (ci := 7) (C := RX7) (T := TX7) (n := 25) (v := .ref (ad 1)) hx hb hts iX7_copies_X7 hown hK hP 0 (by decide) (LX7_obj ad cy _) rfl 0 (by decide) w1 rfl dX7_copies_19 ?_
        refine lv_bipush (v := 68) hx hb dX7_copies_22 (by decide) ?_
        refine lv_iload_n hx hb dX7_copies_24 rfl (lv_at hl 1 rfl) ?_
        refine lv_imul hx hb dX7_copies_25 ?_
        refine lv_iload_n hx hb dX7_copies_26 rfl (lv_at hl 3 rfl) ?_
        refine lv_iadd hx hb dX7_copies_27 ?_
        obtain ⟨g2, hf⟩ := gd_some hf
        refine xt_iald hx hb hK hP 1 (by decide) 0 (LX7_all ad cy _) rfl g2 dX7_copies_28 ?_
        obtain ⟨g3, hf⟩ := gd_some hf
        refine xt_iast hx hb hK hP hJ hS 1 (by decide) 0 (LX7_all ad cy) rfl g3 dX7_copies_29 (fun H locs hP hS => ?_)
        obtain ⟨σ4, eσ4⟩ : ∃ z : St, z = su σ 1 ((68 * x2) + x3).toNatClampNeg (σ 1 ((68 * x1) + x3).toNatClampNeg) := ⟨_, rfl⟩
        rw [← eσ4] at hP
        have hf := nm_to hf eσ4
        obtain ⟨v5, ev5⟩ : ∃ y : Int32, y = x3 + 1 := ⟨_, rfl⟩
        have hf := nm_to hf ev5
        refine lv_iinc (v := v5) (lv' := [(3, .int v5), (0, .ref (ad 0)), (1, .int x1), (2, .int x2)]) hx hb dX7_copies_30 hl (k := 3) rfl (by rw [ev5]; rfl) (by decide) rfl (fun ls hl => ?_)
        refine lv_goto (tgt := 2) hx hb dX7_copies_33 (by decide) ?_
        exact ih2 σ4 v5 hf H locs hP hS ls (lv_sub hl [1, 2, 3, 0] rfl)
  unfold fX7_copies at hf
  obtain ⟨H, eH⟩ : ∃ H : Heap, H = s.heap := ⟨_, rfl⟩
  rw [← eH] at hP
  have hS : va_S (WA 16 ad) s.heap H [] := by rw [eH]; exact hS
  suffices K : W p l e rmX7_copies s m args below meth c H [] 0 0 (MQ below (Qvw (dC, dI) 16 ad (layM ad cy) res) args s 0 0 (WA 16 ad)) (F0 m 0 ls []) by rw [eH] at K; exact K
  clear eH
  obtain ⟨locs, elocs⟩ : ∃ z : List Loc, z = [] := ⟨_, rfl⟩
  rw [← elocs] at hS ⊢
  refine lv_iconst (v := 0) hx hb dX7_copies_0 (by decide) ?_
  refine lv_istore_n (lv' := [(3, .int 0), (0, .ref (ad 0)), (1, .int a1), (2, .int a2)]) hx hb dX7_copies_1 rfl hl (by decide) rfl (fun ls hl => ?_)
  exact loop2 a1 a2 1000 σ 0 hf H locs hP hS ls (lv_sub hl [1, 2, 3, 0] rfl)
def fX7_begins (σ : St) : Option St :=
  bd (fX7_copies σ 0 10) fun r1 => some r1
abbrev rmX7_begins : Room := { frames := 1, cells := 0, slots := 0, locals := 23 }
theorem dmX7_begins : yX7_begins.cls = RX7 ∧ yX7_begins.cls ≠ "java/lang/invoke/MethodHandle" ∧ yX7_begins.cls ≠ "java/lang/invoke/VarHandle" ∧ (parseMethodDescriptor yX7_begins.desc).map (fun d => d.parameters.length) = some 0 := by decide +kernel
set_option maxHeartbeats 8000000 in
set_option maxRecDepth 100000 in
theorem mX7_begins (l : Launch) (dC : Nat → ClassId) (dI : Nat → Nat → Nat) (ad : Nat → Nat) (cy : Nat → ClassId) (hJ : WJ 16 ad) (σ : St) (res : St) (hf : fX7_begins σ = some res) : CMv l yX7_begins wsX7_begins rmX7_begins (dC, dI) (tysX cy) 16 ad (layM ad cy) [.ref (ad 0)] σ res := by
  refine Met.ofW (cc := cX7_begins) (maxL := 1) (ret := none) (by decide) rfl ?_
  intro p e s m args below meth c s₁ B hml hv
  obtain ⟨hargs, hP, hK⟩ := hv
  have hx := B.exec
  have hb := B.bytes
  have hr := B.returns
  have hts := atoms_spec (ws := wsX7_begins) B.pre
  have hown : s.vm.findClass RX7 = some m.cls := findClass_of_methodNamed B.named
  have hlocks := B.notSynchronized
  have hS : va_S (WA 16 ad) s.heap s.heap [] := va_S.rf
  have hfr : entryFrame m args 1 = F0 m 0 ((lg_sl [.ref (ad 0)] ++ List.replicate (1 - (lg_sl [.ref (ad 0)]).length) Slot.unset).toArray) [] := by rw [hargs]; exact lg_entry_eq _ _ _
  rw [hfr]
  have hl := lv_entry ([.ref (ad 0)]) (n := 1) (Nat.le_of_ble_eq_true rfl)
  generalize (lg_sl [.ref (ad 0)] ++ List.replicate (1 - (lg_sl [.ref (ad 0)]).length) Slot.unset).toArray = ls at hl ⊢
  have hl : lv_has ls 1 [(0, .ref (ad 0))] := hl
  clear hfr hargs B
  show W p l e rmX7_begins s m args below meth c s.heap [] 0 0 (MQ below (Qvw (dC, dI) 16 ad (layM ad cy) res) args s 0 0 (WA 16 ad)) (F0 m 0 ls [])
  unfold fX7_begins at hf
  obtain ⟨H, eH⟩ : ∃ H : Heap, H = s.heap := ⟨_, rfl⟩
  rw [← eH] at hP
  have hS : va_S (WA 16 ad) s.heap H [] := by rw [eH]; exact hS
  suffices K : W p l e rmX7_begins s m args below meth c H [] 0 0 (MQ below (Qvw (dC, dI) 16 ad (layM ad cy) res) args s 0 0 (WA 16 ad)) (F0 m 0 ls []) by rw [eH] at K; exact K
  clear eH
  obtain ⟨locs, elocs⟩ : ∃ z : List Loc, z = [] := ⟨_, rfl⟩
  rw [← elocs] at hS ⊢
  refine lv_aload_n hx hb dX7_begins_0 rfl (lv_at hl 0 rfl) ?_
  refine lv_iconst (v := 0) hx hb dX7_begins_1 (by decide) ?_
  refine lv_bipush (v := 10) hx hb dX7_begins_2 (by decide) ?_
  obtain ⟨r1, qr1, hf⟩ := bd_some hf
  refine xt_callVv (As := [.int 0, .int 10]) (rest := []) (C := RX7) (ci := 7) ⟨hx, hb, hml, hown, hts⟩ 0 (mX7_copies l dC dI ad cy hJ σ 0 10 r1 qr1) (cwV 2 hts gX7_begins_X7_copies rfl rfl rfl dmX7_copies ⟨Nat.le_of_ble_eq_true rfl, Nat.le_of_ble_eq_true rfl⟩) hK hP hS (by decide) (LX7_obj ad cy _) rfl rfl rfl hl.1 (Nat.le_of_ble_eq_true rfl) ⟨Nat.zero_le _, Nat.zero_le _⟩ dX7_begins_4 (fun H locs hP hS => ?_)
  exact xt_vret hx hb hr hP hS (Option.some.inj hf) dX7_begins_7 hlocks
def fX7_ends_B61 (σ : St) (x1 : Int32) : Option (Int32 × St) :=
  nm (su σ 0 1 ((σ 0 1) + 1)) fun σ1 => bd (fX7_copies σ1 10 (σ1 0 1)) fun r2 => some (x1, r2)
def fX7_ends_B51 (σ : St) (x1 : Int32) : Option (Int32 × St) :=
  nm (su σ 0 1 ((σ 0 1) - 1)) fun σ3 => fX7_ends_B61 σ3 x1
def fX7_ends_L31 (K31_51 : St → Option (Int32 × St)) : Nat → St → Int32 → Option (Int32 × St)
  | 0, _, _ => none
  | n31 + 1, σ, x2 => if (8 : Int32) ≤ x2 then (K31_51 σ) else (bd (fX7_copies σ (x2 + 1) x2) fun r5 => nm (x2 + 1) fun v6 => (fX7_ends_L31 K31_51 n31) r5 v6)
def fX7_ends (σ : St) (a1 : Int32) : Option (Int32 × St) :=
  bd (fX7_in σ a1 (-15) (-11)) fun r7 => if r7 = 0 then (if (σ 0 1) = (8 : Int32) then (fX7_ends_L31 (fun σ => fX7_ends_B51 σ a1) 1000 σ 1) else (fX7_ends_B61 σ a1)) else (bd (fX7_copies σ 10 0) fun r10 => some (a1, r10))
abbrev rmX7_ends : Room := { frames := 1, cells := 0, slots := 0, locals := 23 }
theorem dmX7_ends : yX7_ends.cls = RX7 ∧ yX7_ends.cls ≠ "java/lang/invoke/MethodHandle" ∧ yX7_ends.cls ≠ "java/lang/invoke/VarHandle" ∧ (parseMethodDescriptor yX7_ends.desc).map (fun d => d.parameters.length) = some 1 := by decide +kernel
theorem iX7_ends_X7 : ∀ w ∈ wsX70, w ∈ wsX7_ends := fun w h => List.mem_cons_of_mem _ (List.mem_append_right _ (h))
set_option maxHeartbeats 8000000 in
set_option maxRecDepth 100000 in
theorem mX7_ends (l : Launch) (dC : Nat → ClassId) (dI : Nat → Nat → Nat) (ad : Nat → Nat) (cy : Nat → ClassId) (hJ : WJ 16 ad) (σ : St) (a1 : Int32) (res : (Int32 × St)) (hf : fX7_ends σ a1 = some res) : CMi l yX7_ends wsX7_ends rmX7_ends (dC, dI) (tysX cy) 16 ad (layM ad cy) [.ref (ad 0), .int a1] σ res.1 res.2 := by
  refine Met.ofW (cc := cX7_ends) (maxL := 3) (ret := (some .int)) (by decide) rfl ?_
  intro p e s m args below meth c s₁ B hml hv
  obtain ⟨hargs, hP, hK⟩ := hv
  have hx := B.exec
  have hb := B.bytes
  have hr := B.returns
  have hts := atoms_spec (ws := wsX7_ends) B.pre
  have hown : s.vm.findClass RX7 = some m.cls := findClass_of_methodNamed B.named
  have hlocks := B.notSynchronized
  have w1 := hts (.fieldLink RX7 63 "PierRingsModel" "changes" "I") (List.mem_of_getElem? (i := 1) rfl)
  have hS : va_S (WA 16 ad) s.heap s.heap [] := va_S.rf
  have hfr : entryFrame m args 3 = F0 m 0 ((lg_sl [.ref (ad 0), .int a1] ++ List.replicate (3 - (lg_sl [.ref (ad 0), .int a1]).length) Slot.unset).toArray) [] := by rw [hargs]; exact lg_entry_eq _ _ _
  rw [hfr]
  have hl := lv_entry ([.ref (ad 0), .int a1]) (n := 3) (Nat.le_of_ble_eq_true rfl)
  generalize (lg_sl [.ref (ad 0), .int a1] ++ List.replicate (3 - (lg_sl [.ref (ad 0), .int a1]).length) Slot.unset).toArray = ls at hl ⊢
  have hl : lv_has ls 3 [(0, .ref (ad 0)), (1, .int a1)] := hl
  clear hfr hargs B
  show W p l e rmX7_ends s m args below meth c s.heap [] 0 0 (MQ below (Qiw (dC, dI) 16 ad (layM ad cy) res.1 res.2) args s 0 0 (WA 16 ad)) (F0 m 0 ls [])
  have kB61 : ∀ (σ : St) (x1 : Int32), fX7_ends_B61 σ x1 = some res → ∀ (H : Heap) (locs : List Loc), va_P (dC, dI) vwCl (wd 16 ad (layM ad cy) σ) H → va_S (WA 16 ad) s.heap H locs → ∀ (ls : Array Slot), lv_has ls 3 [(0, .ref (ad 0)), (1, .int x1)] → W p l e rmX7_ends s m args below meth c H locs 0 0 (MQ below (Qiw (dC, dI) 16 ad (layM ad cy) res.1 res.2) args s 0 0 (WA 16 ad)) (F0 m 61 ls []) := by
    intro σ x1 hf H locs hP hS ls hl
    unfold fX7_ends_B61 at hf
    refine lv_aload_n hx hb dX7_ends_61 rfl (lv_at hl 0 rfl) ?_
    refine lv_dup hx hb dX7_ends_62 rfl ?_
    refine xt_get (ci := 7) (C := RX7) (T := TX7) (n := 25) (v := .int (σ 0 1)) hx hb hts iX7_ends_X7 hown hK hP 0 (by decide) (LX7_obj ad cy _) rfl 1 (by decide) w1 rfl dX7_ends_63 ?_
    refine lv_iconst (v := 1) hx hb dX7_ends_66 (by decide) ?_
    refine lv_iadd hx hb dX7_ends_67 ?_
    refine xt_put (ci := 7) (C := RX7) (T := TX7) (n := 25) hx hb hts iX7_ends_X7 tyX7 tyX7_ok nmX7 hown hK hP hJ hS 0 (by decide) (LX7_obj ad cy _) rfl 1 (by decide) w1 rfl (v := ((σ 0 1) + 1)) rfl rfl (Nat.le_of_ble_eq_true rfl) (LX7_obj ad cy _) dX7_ends_68 (fun H locs hP hS => ?_)
    obtain ⟨σ1, eσ1⟩ : ∃ z : St, z = su σ 0 1 ((σ 0 1) + 1) := ⟨_, rfl⟩
    rw [← eσ1] at hP
    have hf := nm_to hf eσ1
    refine lv_aload_n hx hb dX7_ends_71 rfl (lv_at hl 0 rfl) ?_
    refine lv_bipush (v := 10) hx hb dX7_ends_72 (by decide) ?_
    refine lv_aload_n hx hb dX7_ends_74 rfl (lv_at hl 0 rfl) ?_
    refine xt_get (ci := 7) (C := RX7) (T := TX7) (n := 25) (v := .int (σ1 0 1)) hx hb hts iX7_ends_X7 hown hK hP 0 (by decide) (LX7_obj ad cy _) rfl 1 (by decide) w1 rfl dX7_ends_75 ?_
    obtain ⟨r2, qr2, hf⟩ := bd_some hf
    refine xt_callVv (As := [.int 10, .int (σ1 0 1)]) (rest := []) (C := RX7) (ci := 7) ⟨hx, hb, hml, hown, hts⟩ 0 (mX7_copies l dC dI ad cy hJ σ1 10 (σ1 0 1) r2 qr2) (cwV 2 hts gX7_ends_X7_copies rfl rfl rfl dmX7_copies ⟨Nat.le_of_ble_eq_true rfl, Nat.le_of_ble_eq_true rfl⟩) hK hP hS (by decide) (LX7_obj ad cy _) rfl rfl rfl hl.1 (Nat.le_of_ble_eq_true rfl) ⟨Nat.zero_le _, Nat.zero_le _⟩ dX7_ends_78 (fun H locs hP hS => ?_)
    refine lv_iload_n hx hb dX7_ends_81 rfl (lv_at hl 1 rfl) ?_
    exact xt_iret hx hb hr hP hS (rs_1 hf) (rs_2 hf) dX7_ends_82 hlocks
  have kB51 : ∀ (σ : St) (x1 : Int32), fX7_ends_B51 σ x1 = some res → ∀ (H : Heap) (locs : List Loc), va_P (dC, dI) vwCl (wd 16 ad (layM ad cy) σ) H → va_S (WA 16 ad) s.heap H locs → ∀ (ls : Array Slot), lv_has ls 3 [(0, .ref (ad 0)), (1, .int x1)] → W p l e rmX7_ends s m args below meth c H locs 0 0 (MQ below (Qiw (dC, dI) 16 ad (layM ad cy) res.1 res.2) args s 0 0 (WA 16 ad)) (F0 m 51 ls []) := by
    intro σ x1 hf H locs hP hS ls hl
    unfold fX7_ends_B51 at hf
    refine lv_aload_n hx hb dX7_ends_51 rfl (lv_at hl 0 rfl) ?_
    refine lv_dup hx hb dX7_ends_52 rfl ?_
    refine xt_get (ci := 7) (C := RX7) (T := TX7) (n := 25) (v := .int (σ 0 1)) hx hb hts iX7_ends_X7 hown hK hP 0 (by decide) (LX7_obj ad cy _) rfl 1 (by decide) w1 rfl dX7_ends_53 ?_
    refine lv_iconst (v := 1) hx hb dX7_ends_56 (by decide) ?_
    refine lv_isub hx hb dX7_ends_57 ?_
    refine xt_put (ci := 7) (C := RX7) (T := TX7) (n := 25) hx hb hts iX7_ends_X7 tyX7 tyX7_ok nmX7 hown hK hP hJ hS 0 (by decide) (LX7_obj ad cy _) rfl 1 (by decide) w1 rfl (v := ((σ 0 1) - 1)) rfl rfl (Nat.le_of_ble_eq_true rfl) (LX7_obj ad cy _) dX7_ends_58 (fun H locs hP hS => ?_)
    obtain ⟨σ3, eσ3⟩ : ∃ z : St, z = su σ 0 1 ((σ 0 1) - 1) := ⟨_, rfl⟩
    rw [← eσ3] at hP
    have hf := nm_to hf eσ3
    exact kB61 σ3 x1 hf H locs hP hS ls (lv_sub hl [0, 1] rfl)
  have loop31 : ∀ (x1 : Int32) (n31 : Nat) (σ : St) (x2 : Int32), fX7_ends_L31 (fun σ => fX7_ends_B51 σ x1) n31 σ x2 = some res → ∀ (H : Heap) (locs : List Loc), va_P (dC, dI) vwCl (wd 16 ad (layM ad cy) σ) H → va_S (WA 16 ad) s.heap H locs → ∀ (ls : Array Slot), lv_has ls 3 [(0, .ref (ad 0)), (1, .int x1), (2, .int x2)] → W p l e rmX7_ends s m args below meth c H locs 0 0 (MQ below (Qiw (dC, dI) 16 ad (layM ad cy) res.1 res.2) args s 0 0 (WA 16 ad)) (F0 m 31 ls []) := by
    intro x1 n31
    induction n31 with
    | zero => intro σ x2 hf; simp [fX7_ends_L31] at hf
    | succ n31 ih31 =>
      intro σ x2 hf H locs hP hS ls hl
      rw [fX7_ends_L31] at hf
      refine lv_iload_n hx hb dX7_ends_31 rfl (lv_at hl 2 rfl) ?_
      refine lv_bipush (v := 8) hx hb dX7_ends_32 (by decide) ?_
      refine lv_icmp_ge (tgt := 51) hx hb dX7_ends_34 (by decide) (fun c4 => ?_) (fun c4 => ?_)
      · have hf := (if_pos c4).symm.trans hf
        exact kB51 σ x1 hf H locs hP hS ls (lv_sub hl [0, 1] rfl)
      · have hf := (if_neg c4).symm.trans hf
        refine lv_aload_n hx hb dX7_ends_37 rfl (lv_at hl 0 rfl) ?_
        refine lv_iload_n hx hb dX7_ends_38 rfl (lv_at hl 2 rfl) ?_
        refine lv_iconst (v := 1) hx hb dX7_ends_39 (by decide) ?_
        refine lv_iadd hx hb dX7_ends_40 ?_
        refine lv_iload_n hx hb dX7_ends_41 rfl (lv_at hl 2 rfl) ?_
        obtain ⟨r5, qr5, hf⟩ := bd_some hf
        refine xt_callVv (As := [.int (x2 + 1), .int x2]) (rest := []) (C := RX7) (ci := 7) ⟨hx, hb, hml, hown, hts⟩ 0 (mX7_copies l dC dI ad cy hJ σ (x2 + 1) x2 r5 qr5) (cwV 2 hts gX7_ends_X7_copies rfl rfl rfl dmX7_copies ⟨Nat.le_of_ble_eq_true rfl, Nat.le_of_ble_eq_true rfl⟩) hK hP hS (by decide) (LX7_obj ad cy _) rfl rfl rfl hl.1 (Nat.le_of_ble_eq_true rfl) ⟨Nat.zero_le _, Nat.zero_le _⟩ dX7_ends_42 (fun H locs hP hS => ?_)
        obtain ⟨v6, ev6⟩ : ∃ y : Int32, y = x2 + 1 := ⟨_, rfl⟩
        have hf := nm_to hf ev6
        refine lv_iinc (v := v6) (lv' := [(2, .int v6), (0, .ref (ad 0)), (1, .int x1)]) hx hb dX7_ends_45 hl (k := 2) rfl (by rw [ev6]; rfl) (by decide) rfl (fun ls hl => ?_)
        refine lv_goto (tgt := 31) hx hb dX7_ends_48 (by decide) ?_
        exact ih31 r5 v6 hf H locs hP hS ls (lv_sub hl [1, 2, 0] rfl)
  unfold fX7_ends at hf
  obtain ⟨H, eH⟩ : ∃ H : Heap, H = s.heap := ⟨_, rfl⟩
  rw [← eH] at hP
  have hS : va_S (WA 16 ad) s.heap H [] := by rw [eH]; exact hS
  suffices K : W p l e rmX7_ends s m args below meth c H [] 0 0 (MQ below (Qiw (dC, dI) 16 ad (layM ad cy) res.1 res.2) args s 0 0 (WA 16 ad)) (F0 m 0 ls []) by rw [eH] at K; exact K
  clear eH
  obtain ⟨locs, elocs⟩ : ∃ z : List Loc, z = [] := ⟨_, rfl⟩
  rw [← elocs] at hS ⊢
  refine lv_iload_n hx hb dX7_ends_0 rfl (lv_at hl 1 rfl) ?_
  refine lv_bipush (v := (-15)) hx hb dX7_ends_1 (by decide) ?_
  refine lv_bipush (v := (-11)) hx hb dX7_ends_3 (by decide) ?_
  obtain ⟨r7, qr7, hf⟩ := bd_some hf
  refine xt_callSi (As := [.int a1, .int (-15), .int (-11)]) (rest := []) ⟨hx, hb, hml, hown, hts⟩ (mX7_in l dC dI ad cy hJ σ a1 (-15) (-11) r7 qr7) (va_cwS 3 hts gX7_ends_X7_in rfl rfl rfl dmX7_in ⟨Nat.le_of_ble_eq_true rfl, Nat.le_of_ble_eq_true rfl⟩) hK hP hS rfl rfl hl.1 (Nat.le_of_ble_eq_true rfl) ⟨Nat.zero_le _, Nat.zero_le _⟩ dX7_ends_5 (fun H locs hP hS => ?_)
  refine lv_if_eq (tgt := 20) hx hb dX7_ends_8 (by decide) (fun c8 => ?_) (fun c8 => ?_)
  · have hf := (if_pos c8).symm.trans hf
    refine lv_aload_n hx hb dX7_ends_20 rfl (lv_at hl 0 rfl) ?_
    refine xt_get (ci := 7) (C := RX7) (T := TX7) (n := 25) (v := .int (σ 0 1)) hx hb hts iX7_ends_X7 hown hK hP 0 (by decide) (LX7_obj ad cy _) rfl 1 (by decide) w1 rfl dX7_ends_21 ?_
    refine lv_bipush (v := 8) hx hb dX7_ends_24 (by decide) ?_
    refine lv_icmp_ne (tgt := 61) hx hb dX7_ends_26 (by decide) (fun c9 => ?_) (fun c9 => ?_)
    · have hf := (if_neg c9).symm.trans hf
      exact kB61 σ a1 hf H locs hP hS ls (lv_sub hl [0, 1] rfl)
    · have hf := (if_pos c9).symm.trans hf
      refine lv_iconst (v := 1) hx hb dX7_ends_29 (by decide) ?_
      refine lv_istore_n (lv' := [(2, .int 1), (0, .ref (ad 0)), (1, .int a1)]) hx hb dX7_ends_30 rfl hl (by decide) rfl (fun ls hl => ?_)
      exact loop31 a1 1000 σ 1 hf H locs hP hS ls (lv_sub hl [1, 2, 0] rfl)
  · have hf := (if_neg c8).symm.trans hf
    refine lv_aload_n hx hb dX7_ends_11 rfl (lv_at hl 0 rfl) ?_
    refine lv_bipush (v := 10) hx hb dX7_ends_12 (by decide) ?_
    refine lv_iconst (v := 0) hx hb dX7_ends_14 (by decide) ?_
    obtain ⟨r10, qr10, hf⟩ := bd_some hf
    refine xt_callVv (As := [.int 10, .int 0]) (rest := []) (C := RX7) (ci := 7) ⟨hx, hb, hml, hown, hts⟩ 0 (mX7_copies l dC dI ad cy hJ σ 10 0 r10 qr10) (cwV 2 hts gX7_ends_X7_copies rfl rfl rfl dmX7_copies ⟨Nat.le_of_ble_eq_true rfl, Nat.le_of_ble_eq_true rfl⟩) hK hP hS (by decide) (LX7_obj ad cy _) rfl rfl rfl hl.1 (Nat.le_of_ble_eq_true rfl) ⟨Nat.zero_le _, Nat.zero_le _⟩ dX7_ends_15 (fun H locs hP hS => ?_)
    refine lv_iload_n hx hb dX7_ends_18 rfl (lv_at hl 1 rfl) ?_
    exact xt_iret hx hb hr hP hS (rs_1 hf) (rs_2 hf) dX7_ends_19 hlocks
def fX7_refuses (σ : St) (a1 : Int32) (a2 : Int32) : Option (Int32 × St) :=
  nm (su σ 0 3 a1) fun σ1 => nm (su σ1 0 4 a2) fun σ2 => some ((-14), σ2)
abbrev rmX7_refuses : Room := { frames := 0, cells := 0, slots := 0, locals := 0 }
theorem dmX7_refuses : yX7_refuses.cls = RX7 ∧ yX7_refuses.cls ≠ "java/lang/invoke/MethodHandle" ∧ yX7_refuses.cls ≠ "java/lang/invoke/VarHandle" ∧ (parseMethodDescriptor yX7_refuses.desc).map (fun d => d.parameters.length) = some 2 := by decide +kernel
theorem iX7_refuses_X7 : ∀ w ∈ wsX70, w ∈ wsX7_refuses := fun w h => List.mem_cons_of_mem _ (List.mem_append_right _ (h))
set_option maxHeartbeats 8000000 in
set_option maxRecDepth 100000 in
theorem mX7_refuses (l : Launch) (dC : Nat → ClassId) (dI : Nat → Nat → Nat) (ad : Nat → Nat) (cy : Nat → ClassId) (hJ : WJ 16 ad) (σ : St) (a1 : Int32) (a2 : Int32) (res : (Int32 × St)) (hf : fX7_refuses σ a1 a2 = some res) : CMi l yX7_refuses wsX7_refuses rmX7_refuses (dC, dI) (tysX cy) 16 ad (layM ad cy) [.ref (ad 0), .int a1, .int a2] σ res.1 res.2 := by
  refine Met.ofW (cc := cX7_refuses) (maxL := 3) (ret := (some .int)) (by decide) rfl ?_
  intro p e s m args below meth c s₁ B hml hv
  obtain ⟨hargs, hP, hK⟩ := hv
  have hx := B.exec
  have hb := B.bytes
  have hr := B.returns
  have hts := atoms_spec (ws := wsX7_refuses) B.pre
  have hown : s.vm.findClass RX7 = some m.cls := findClass_of_methodNamed B.named
  have hlocks := B.notSynchronized
  have w1 := hts (.fieldLink RX7 67 "PierRingsModel" "why" "I") (List.mem_of_getElem? (i := 1) rfl)
  have w2 := hts (.fieldLink RX7 70 "PierRingsModel" "detail" "I") (List.mem_of_getElem? (i := 2) rfl)
  have hS : va_S (WA 16 ad) s.heap s.heap [] := va_S.rf
  have hfr : entryFrame m args 3 = F0 m 0 ((lg_sl [.ref (ad 0), .int a1, .int a2] ++ List.replicate (3 - (lg_sl [.ref (ad 0), .int a1, .int a2]).length) Slot.unset).toArray) [] := by rw [hargs]; exact lg_entry_eq _ _ _
  rw [hfr]
  have hl := lv_entry ([.ref (ad 0), .int a1, .int a2]) (n := 3) (Nat.le_of_ble_eq_true rfl)
  generalize (lg_sl [.ref (ad 0), .int a1, .int a2] ++ List.replicate (3 - (lg_sl [.ref (ad 0), .int a1, .int a2]).length) Slot.unset).toArray = ls at hl ⊢
  have hl : lv_has ls 3 [(0, .ref (ad 0)), (1, .int a1), (2, .int a2)] := hl
  clear hfr hargs B
  show W p l e rmX7_refuses s m args below meth c s.heap [] 0 0 (MQ below (Qiw (dC, dI) 16 ad (layM ad cy) res.1 res.2) args s 0 0 (WA 16 ad)) (F0 m 0 ls [])
  unfold fX7_refuses at hf
  obtain ⟨H, eH⟩ : ∃ H : Heap, H = s.heap := ⟨_, rfl⟩
  rw [← eH] at hP
  have hS : va_S (WA 16 ad) s.heap H [] := by rw [eH]; exact hS
  suffices K : W p l e rmX7_refuses s m args below meth c H [] 0 0 (MQ below (Qiw (dC, dI) 16 ad (layM ad cy) res.1 res.2) args s 0 0 (WA 16 ad)) (F0 m 0 ls []) by rw [eH] at K; exact K
  clear eH
  obtain ⟨locs, elocs⟩ : ∃ z : List Loc, z = [] := ⟨_, rfl⟩
  rw [← elocs] at hS ⊢
  refine lv_aload_n hx hb dX7_refuses_0 rfl (lv_at hl 0 rfl) ?_
  refine lv_iload_n hx hb dX7_refuses_1 rfl (lv_at hl 1 rfl) ?_
  refine xt_put (ci := 7) (C := RX7) (T := TX7) (n := 25) hx hb hts iX7_refuses_X7 tyX7 tyX7_ok nmX7 hown hK hP hJ hS 0 (by decide) (LX7_obj ad cy _) rfl 3 (by decide) w1 rfl (v := a1) rfl rfl (Nat.le_of_ble_eq_true rfl) (LX7_obj ad cy _) dX7_refuses_2 (fun H locs hP hS => ?_)
  obtain ⟨σ1, eσ1⟩ : ∃ z : St, z = su σ 0 3 a1 := ⟨_, rfl⟩
  rw [← eσ1] at hP
  have hf := nm_to hf eσ1
  refine lv_aload_n hx hb dX7_refuses_5 rfl (lv_at hl 0 rfl) ?_
  refine lv_iload_n hx hb dX7_refuses_6 rfl (lv_at hl 2 rfl) ?_
  refine xt_put (ci := 7) (C := RX7) (T := TX7) (n := 25) hx hb hts iX7_refuses_X7 tyX7 tyX7_ok nmX7 hown hK hP hJ hS 0 (by decide) (LX7_obj ad cy _) rfl 4 (by decide) w2 rfl (v := a2) rfl rfl (Nat.le_of_ble_eq_true rfl) (LX7_obj ad cy _) dX7_refuses_7 (fun H locs hP hS => ?_)
  obtain ⟨σ2, eσ2⟩ : ∃ z : St, z = su σ1 0 4 a2 := ⟨_, rfl⟩
  rw [← eσ2] at hP
  have hf := nm_to hf eσ2
  refine lv_bipush (v := (-14)) hx hb dX7_refuses_10 (by decide) ?_
  exact xt_iret hx hb hr hP hS (rs_1 hf) (rs_2 hf) dX7_refuses_12 hlocks
def fX7_reason (σ : St) (a1 : Int32) : Option Int32 :=
  if (σ 0 3) = 0 then (some (-15 : Int32)) else (if a1 = 0 then (some (σ 0 3)) else (some (σ 0 4)))
abbrev rmX7_reason : Room := { frames := 0, cells := 0, slots := 0, locals := 0 }
theorem dmX7_reason : yX7_reason.cls = RX7 ∧ yX7_reason.cls ≠ "java/lang/invoke/MethodHandle" ∧ yX7_reason.cls ≠ "java/lang/invoke/VarHandle" ∧ (parseMethodDescriptor yX7_reason.desc).map (fun d => d.parameters.length) = some 1 := by decide +kernel
theorem iX7_reason_X7 : ∀ w ∈ wsX70, w ∈ wsX7_reason := fun w h => List.mem_cons_of_mem _ (List.mem_append_right _ (h))
set_option maxHeartbeats 8000000 in
set_option maxRecDepth 100000 in
theorem mX7_reason (l : Launch) (dC : Nat → ClassId) (dI : Nat → Nat → Nat) (ad : Nat → Nat) (cy : Nat → ClassId) (hJ : WJ 16 ad) (σ : St) (a1 : Int32) (res : Int32) (hf : fX7_reason σ a1 = some res) : CMi l yX7_reason wsX7_reason rmX7_reason (dC, dI) (tysX cy) 16 ad (layM ad cy) [.ref (ad 0), .int a1] σ res σ := by
  refine Met.ofW (cc := cX7_reason) (maxL := 2) (ret := (some .int)) (by decide) rfl ?_
  intro p e s m args below meth c s₁ B hml hv
  obtain ⟨hargs, hP, hK⟩ := hv
  have hx := B.exec
  have hb := B.bytes
  have hr := B.returns
  have hts := atoms_spec (ws := wsX7_reason) B.pre
  have hown : s.vm.findClass RX7 = some m.cls := findClass_of_methodNamed B.named
  have hlocks := B.notSynchronized
  have w1 := hts (.fieldLink RX7 67 "PierRingsModel" "why" "I") (List.mem_of_getElem? (i := 1) rfl)
  have w2 := hts (.fieldLink RX7 70 "PierRingsModel" "detail" "I") (List.mem_of_getElem? (i := 2) rfl)
  have hS : va_S (WA 16 ad) s.heap s.heap [] := va_S.rf
  have hfr : entryFrame m args 2 = F0 m 0 ((lg_sl [.ref (ad 0), .int a1] ++ List.replicate (2 - (lg_sl [.ref (ad 0), .int a1]).length) Slot.unset).toArray) [] := by rw [hargs]; exact lg_entry_eq _ _ _
  rw [hfr]
  have hl := lv_entry ([.ref (ad 0), .int a1]) (n := 2) (Nat.le_of_ble_eq_true rfl)
  generalize (lg_sl [.ref (ad 0), .int a1] ++ List.replicate (2 - (lg_sl [.ref (ad 0), .int a1]).length) Slot.unset).toArray = ls at hl ⊢
  have hl : lv_has ls 2 [(0, .ref (ad 0)), (1, .int a1)] := hl
  clear hfr hargs B
  show W p l e rmX7_reason s m args below meth c s.heap [] 0 0 (MQ below (Qiw (dC, dI) 16 ad (layM ad cy) res σ) args s 0 0 (WA 16 ad)) (F0 m 0 ls [])
  unfold fX7_reason at hf
  obtain ⟨H, eH⟩ : ∃ H : Heap, H = s.heap := ⟨_, rfl⟩
  rw [← eH] at hP
  have hS : va_S (WA 16 ad) s.heap H [] := by rw [eH]; exact hS
  suffices K : W p l e rmX7_reason s m args below meth c H [] 0 0 (MQ below (Qiw (dC, dI) 16 ad (layM ad cy) res σ) args s 0 0 (WA 16 ad)) (F0 m 0 ls []) by rw [eH] at K; exact K
  clear eH
  obtain ⟨locs, elocs⟩ : ∃ z : List Loc, z = [] := ⟨_, rfl⟩
  rw [← elocs] at hS ⊢
  refine lv_aload_n hx hb dX7_reason_0 rfl (lv_at hl 0 rfl) ?_
  refine xt_get (ci := 7) (C := RX7) (T := TX7) (n := 25) (v := .int (σ 0 3)) hx hb hts iX7_reason_X7 hown hK hP 0 (by decide) (LX7_obj ad cy _) rfl 3 (by decide) w1 rfl dX7_reason_1 ?_
  refine lv_if_ne (tgt := 12) hx hb dX7_reason_4 (by decide) (fun c1 => ?_) (fun c1 => ?_)
  · have hf := (if_neg c1).symm.trans hf
    refine lv_iload_n hx hb dX7_reason_12 rfl (lv_at hl 1 rfl) ?_
    refine lv_if_eq (tgt := 23) hx hb dX7_reason_13 (by decide) (fun c2 => ?_) (fun c2 => ?_)
    · have hf := (if_pos c2).symm.trans hf
      refine lv_aload_n hx hb dX7_reason_23 rfl (lv_at hl 0 rfl) ?_
      refine xt_get (ci := 7) (C := RX7) (T := TX7) (n := 25) (v := .int (σ 0 3)) hx hb hts iX7_reason_X7 hown hK hP 0 (by decide) (LX7_obj ad cy _) rfl 3 (by decide) w1 rfl dX7_reason_24 ?_
      exact xt_iret hx hb hr hP hS (Option.some.inj hf) rfl dX7_reason_27 hlocks
    · have hf := (if_neg c2).symm.trans hf
      refine lv_aload_n hx hb dX7_reason_16 rfl (lv_at hl 0 rfl) ?_
      refine xt_get (ci := 7) (C := RX7) (T := TX7) (n := 25) (v := .int (σ 0 4)) hx hb hts iX7_reason_X7 hown hK hP 0 (by decide) (LX7_obj ad cy _) rfl 4 (by decide) w2 rfl dX7_reason_17 ?_
      refine lv_goto (tgt := 27) hx hb dX7_reason_20 (by decide) ?_
      exact xt_iret hx hb hr hP hS (Option.some.inj hf) rfl dX7_reason_27 hlocks
  · have hf := (if_pos c1).symm.trans hf
    refine lv_bipush (v := (-15)) hx hb dX7_reason_7 (by decide) ?_
    refine lv_goto (tgt := 27) hx hb dX7_reason_9 (by decide) ?_
    exact xt_iret hx hb hr hP hS (Option.some.inj hf) rfl dX7_reason_27 hlocks
def fX7_p (σ : St) (a1 : Int32) (a2 : Int32) : Option Int32 :=
  gd (okI ((4 + (2 * a1)) + a2) 816) <| some (σ 1 ((4 + (2 * a1)) + a2).toNatClampNeg)
abbrev rmX7_p : Room := { frames := 0, cells := 0, slots := 0, locals := 0 }
theorem dmX7_p : yX7_p.cls = RX7 ∧ yX7_p.cls ≠ "java/lang/invoke/MethodHandle" ∧ yX7_p.cls ≠ "java/lang/invoke/VarHandle" ∧ (parseMethodDescriptor yX7_p.desc).map (fun d => d.parameters.length) = some 2 := by decide +kernel
theorem iX7_p_X7 : ∀ w ∈ wsX70, w ∈ wsX7_p := fun w h => List.mem_cons_of_mem _ (List.mem_append_right _ (h))
set_option maxHeartbeats 8000000 in
set_option maxRecDepth 100000 in
theorem mX7_p (l : Launch) (dC : Nat → ClassId) (dI : Nat → Nat → Nat) (ad : Nat → Nat) (cy : Nat → ClassId) (hJ : WJ 16 ad) (σ : St) (a1 : Int32) (a2 : Int32) (res : Int32) (hf : fX7_p σ a1 a2 = some res) : CMi l yX7_p wsX7_p rmX7_p (dC, dI) (tysX cy) 16 ad (layM ad cy) [.ref (ad 0), .int a1, .int a2] σ res σ := by
  refine Met.ofW (cc := cX7_p) (maxL := 3) (ret := (some .int)) (by decide) rfl ?_
  intro p e s m args below meth c s₁ B hml hv
  obtain ⟨hargs, hP, hK⟩ := hv
  have hx := B.exec
  have hb := B.bytes
  have hr := B.returns
  have hts := atoms_spec (ws := wsX7_p) B.pre
  have hown : s.vm.findClass RX7 = some m.cls := findClass_of_methodNamed B.named
  have hlocks := B.notSynchronized
  have w1 := hts (.fieldLink RX7 9 "PierRingsModel" "all" "[I") (List.mem_of_getElem? (i := 1) rfl)
  have hS : va_S (WA 16 ad) s.heap s.heap [] := va_S.rf
  have hfr : entryFrame m args 3 = F0 m 0 ((lg_sl [.ref (ad 0), .int a1, .int a2] ++ List.replicate (3 - (lg_sl [.ref (ad 0), .int a1, .int a2]).length) Slot.unset).toArray) [] := by rw [hargs]; exact lg_entry_eq _ _ _
  rw [hfr]
  have hl := lv_entry ([.ref (ad 0), .int a1, .int a2]) (n := 3) (Nat.le_of_ble_eq_true rfl)
  generalize (lg_sl [.ref (ad 0), .int a1, .int a2] ++ List.replicate (3 - (lg_sl [.ref (ad 0), .int a1, .int a2]).length) Slot.unset).toArray = ls at hl ⊢
  have hl : lv_has ls 3 [(0, .ref (ad 0)), (1, .int a1), (2, .int a2)] := hl
  clear hfr hargs B
  show W p l e rmX7_p s m args below meth c s.heap [] 0 0 (MQ below (Qiw (dC, dI) 16 ad (layM ad cy) res σ) args s 0 0 (WA 16 ad)) (F0 m 0 ls [])
  unfold fX7_p at hf
  obtain ⟨H, eH⟩ : ∃ H : Heap, H = s.heap := ⟨_, rfl⟩
  rw [← eH] at hP
  have hS : va_S (WA 16 ad) s.heap H [] := by rw [eH]; exact hS
  suffices K : W p l e rmX7_p s m args below meth c H [] 0 0 (MQ below (Qiw (dC, dI) 16 ad (layM ad cy) res σ) args s 0 0 (WA 16 ad)) (F0 m 0 ls []) by rw [eH] at K; exact K
  clear eH
  obtain ⟨locs, elocs⟩ : ∃ z : List Loc, z = [] := ⟨_, rfl⟩
  rw [← elocs] at hS ⊢
  refine lv_aload_n hx hb dX7_p_0 rfl (lv_at hl 0 rfl) ?_
  refine xt_get (ci := 7) (C := RX7) (T := TX7) (n := 25) (v := .ref (ad 1)) hx hb hts iX7_p_X7 hown hK hP 0 (by decide) (LX7_obj ad cy _) rfl 0 (by decide) w1 rfl dX7_p_1 ?_
  refine lv_iconst (v := 4) hx hb dX7_p_4 (by decide) ?_
  refine lv_iconst (v := 2) hx hb dX7_p_5 (by decide) ?_
  refine lv_iload_n hx hb dX7_p_6 rfl (lv_at hl 1 rfl) ?_
  refine lv_imul hx hb dX7_p_7 ?_
  refine lv_iadd hx hb dX7_p_8 ?_
  refine lv_iload_n hx hb dX7_p_9 rfl (lv_at hl 2 rfl) ?_
  refine lv_iadd hx hb dX7_p_10 ?_
  obtain ⟨g1, hf⟩ := gd_some hf
  refine xt_iald hx hb hK hP 1 (by decide) 0 (LX7_all ad cy _) rfl g1 dX7_p_11 ?_
  exact xt_iret hx hb hr hP hS (Option.some.inj hf) rfl dX7_p_12 hlocks
def fX7_b (σ : St) (a1 : Int32) (a2 : Int32) : Option Int32 :=
  gd (okI ((20 + (2 * a1)) + a2) 816) <| some (σ 1 ((20 + (2 * a1)) + a2).toNatClampNeg)
abbrev rmX7_b : Room := { frames := 0, cells := 0, slots := 0, locals := 0 }
theorem dmX7_b : yX7_b.cls = RX7 ∧ yX7_b.cls ≠ "java/lang/invoke/MethodHandle" ∧ yX7_b.cls ≠ "java/lang/invoke/VarHandle" ∧ (parseMethodDescriptor yX7_b.desc).map (fun d => d.parameters.length) = some 2 := by decide +kernel
theorem iX7_b_X7 : ∀ w ∈ wsX70, w ∈ wsX7_b := fun w h => List.mem_cons_of_mem _ (List.mem_append_right _ (h))
set_option maxHeartbeats 8000000 in
set_option maxRecDepth 100000 in
theorem mX7_b (l : Launch) (dC : Nat → ClassId) (dI : Nat → Nat → Nat) (ad : Nat → Nat) (cy : Nat → ClassId) (hJ : WJ 16 ad) (σ : St) (a1 : Int32) (a2 : Int32) (res : Int32) (hf : fX7_b σ a1 a2 = some res) : CMi l yX7_b wsX7_b rmX7_b (dC, dI) (tysX cy) 16 ad (layM ad cy) [.ref (ad 0), .int a1, .int a2] σ res σ := by
  refine Met.ofW (cc := cX7_b) (maxL := 3) (ret := (some .int)) (by decide) rfl ?_
  intro p e s m args below meth c s₁ B hml hv
  obtain ⟨hargs, hP, hK⟩ := hv
  have hx := B.exec
  have hb := B.bytes
  have hr := B.returns
  have hts := atoms_spec (ws := wsX7_b) B.pre
  have hown : s.vm.findClass RX7 = some m.cls := findClass_of_methodNamed B.named
  have hlocks := B.notSynchronized
  have w1 := hts (.fieldLink RX7 9 "PierRingsModel" "all" "[I") (List.mem_of_getElem? (i := 1) rfl)
  have hS : va_S (WA 16 ad) s.heap s.heap [] := va_S.rf
  have hfr : entryFrame m args 3 = F0 m 0 ((lg_sl [.ref (ad 0), .int a1, .int a2] ++ List.replicate (3 - (lg_sl [.ref (ad 0), .int a1, .int a2]).length) Slot.unset).toArray) [] := by rw [hargs]; exact lg_entry_eq _ _ _
  rw [hfr]
  have hl := lv_entry ([.ref (ad 0), .int a1, .int a2]) (n := 3) (Nat.le_of_ble_eq_true rfl)
  generalize (lg_sl [.ref (ad 0), .int a1, .int a2] ++ List.replicate (3 - (lg_sl [.ref (ad 0), .int a1, .int a2]).length) Slot.unset).toArray = ls at hl ⊢
  have hl : lv_has ls 3 [(0, .ref (ad 0)), (1, .int a1), (2, .int a2)] := hl
  clear hfr hargs B
  show W p l e rmX7_b s m args below meth c s.heap [] 0 0 (MQ below (Qiw (dC, dI) 16 ad (layM ad cy) res σ) args s 0 0 (WA 16 ad)) (F0 m 0 ls [])
  unfold fX7_b at hf
  obtain ⟨H, eH⟩ : ∃ H : Heap, H = s.heap := ⟨_, rfl⟩
  rw [← eH] at hP
  have hS : va_S (WA 16 ad) s.heap H [] := by rw [eH]; exact hS
  suffices K : W p l e rmX7_b s m args below meth c H [] 0 0 (MQ below (Qiw (dC, dI) 16 ad (layM ad cy) res σ) args s 0 0 (WA 16 ad)) (F0 m 0 ls []) by rw [eH] at K; exact K
  clear eH
  obtain ⟨locs, elocs⟩ : ∃ z : List Loc, z = [] := ⟨_, rfl⟩
  rw [← elocs] at hS ⊢
  refine lv_aload_n hx hb dX7_b_0 rfl (lv_at hl 0 rfl) ?_
  refine xt_get (ci := 7) (C := RX7) (T := TX7) (n := 25) (v := .ref (ad 1)) hx hb hts iX7_b_X7 hown hK hP 0 (by decide) (LX7_obj ad cy _) rfl 0 (by decide) w1 rfl dX7_b_1 ?_
  refine lv_bipush (v := 20) hx hb dX7_b_4 (by decide) ?_
  refine lv_iconst (v := 2) hx hb dX7_b_6 (by decide) ?_
  refine lv_iload_n hx hb dX7_b_7 rfl (lv_at hl 1 rfl) ?_
  refine lv_imul hx hb dX7_b_8 ?_
  refine lv_iadd hx hb dX7_b_9 ?_
  refine lv_iload_n hx hb dX7_b_10 rfl (lv_at hl 2 rfl) ?_
  refine lv_iadd hx hb dX7_b_11 ?_
  obtain ⟨g1, hf⟩ := gd_some hf
  refine xt_iald hx hb hK hP 1 (by decide) 0 (LX7_all ad cy _) rfl g1 dX7_b_12 ?_
  exact xt_iret hx hb hr hP hS (Option.some.inj hf) rfl dX7_b_13 hlocks
def fX7_isPier (σ : St) (a1 : Int32) : Option Int32 :=
  bd (fX7_in σ a1 0 ((σ 1 (0 : Int32).toNatClampNeg) - 1)) fun r1 => gd (okB r1) <| some r1
abbrev rmX7_isPier : Room := { frames := 1, cells := 0, slots := 0, locals := 22 }
theorem dmX7_isPier : yX7_isPier.cls = RX7 ∧ yX7_isPier.cls ≠ "java/lang/invoke/MethodHandle" ∧ yX7_isPier.cls ≠ "java/lang/invoke/VarHandle" ∧ (parseMethodDescriptor yX7_isPier.desc).map (fun d => d.parameters.length) = some 1 := by decide +kernel
theorem iX7_isPier_X7 : ∀ w ∈ wsX70, w ∈ wsX7_isPier := fun w h => List.mem_cons_of_mem _ (List.mem_append_right _ (h))
set_option maxHeartbeats 8000000 in
set_option maxRecDepth 100000 in
theorem mX7_isPier (l : Launch) (dC : Nat → ClassId) (dI : Nat → Nat → Nat) (ad : Nat → Nat) (cy : Nat → ClassId) (hJ : WJ 16 ad) (σ : St) (a1 : Int32) (res : Int32) (hf : fX7_isPier σ a1 = some res) : CMi l yX7_isPier wsX7_isPier rmX7_isPier (dC, dI) (tysX cy) 16 ad (layM ad cy) [.ref (ad 0), .int a1] σ res σ := by
  refine Met.ofW (cc := cX7_isPier) (maxL := 2) (ret := (some .boolean)) (by decide) rfl ?_
  intro p e s m args below meth c s₁ B hml hv
  obtain ⟨hargs, hP, hK⟩ := hv
  have hx := B.exec
  have hb := B.bytes
  have hr := B.returns
  have hts := atoms_spec (ws := wsX7_isPier) B.pre
  have hown : s.vm.findClass RX7 = some m.cls := findClass_of_methodNamed B.named
  have hlocks := B.notSynchronized
  have w1 := hts (.fieldLink RX7 9 "PierRingsModel" "all" "[I") (List.mem_of_getElem? (i := 1) rfl)
  have hS : va_S (WA 16 ad) s.heap s.heap [] := va_S.rf
  have hfr : entryFrame m args 2 = F0 m 0 ((lg_sl [.ref (ad 0), .int a1] ++ List.replicate (2 - (lg_sl [.ref (ad 0), .int a1]).length) Slot.unset).toArray) [] := by rw [hargs]; exact lg_entry_eq _ _ _
  rw [hfr]
  have hl := lv_entry ([.ref (ad 0), .int a1]) (n := 2) (Nat.le_of_ble_eq_true rfl)
  generalize (lg_sl [.ref (ad 0), .int a1] ++ List.replicate (2 - (lg_sl [.ref (ad 0), .int a1]).length) Slot.unset).toArray = ls at hl ⊢
  have hl : lv_has ls 2 [(0, .ref (ad 0)), (1, .int a1)] := hl
  clear hfr hargs B
  show W p l e rmX7_isPier s m args below meth c s.heap [] 0 0 (MQ below (Qiw (dC, dI) 16 ad (layM ad cy) res σ) args s 0 0 (WA 16 ad)) (F0 m 0 ls [])
  unfold fX7_isPier at hf
  obtain ⟨H, eH⟩ : ∃ H : Heap, H = s.heap := ⟨_, rfl⟩
  rw [← eH] at hP
  have hS : va_S (WA 16 ad) s.heap H [] := by rw [eH]; exact hS
  suffices K : W p l e rmX7_isPier s m args below meth c H [] 0 0 (MQ below (Qiw (dC, dI) 16 ad (layM ad cy) res σ) args s 0 0 (WA 16 ad)) (F0 m 0 ls []) by rw [eH] at K; exact K
  clear eH
  obtain ⟨locs, elocs⟩ : ∃ z : List Loc, z = [] := ⟨_, rfl⟩
  rw [← elocs] at hS ⊢
  refine lv_iload_n hx hb dX7_isPier_0 rfl (lv_at hl 1 rfl) ?_
  refine lv_iconst (v := 0) hx hb dX7_isPier_1 (by decide) ?_
  refine lv_aload_n hx hb dX7_isPier_2 rfl (lv_at hl 0 rfl) ?_
  refine xt_get (ci := 7) (C := RX7) (T := TX7) (n := 25) (v := .ref (ad 1)) hx hb hts iX7_isPier_X7 hown hK hP 0 (by decide) (LX7_obj ad cy _) rfl 0 (by decide) w1 rfl dX7_isPier_3 ?_
  refine lv_iconst (v := 0) hx hb dX7_isPier_6 (by decide) ?_
  refine xt_iald hx hb hK hP 1 (by decide) 0 (LX7_all ad cy _) rfl (by decide) dX7_isPier_7 ?_
  refine lv_iconst (v := 1) hx hb dX7_isPier_8 (by decide) ?_
  refine lv_isub hx hb dX7_isPier_9 ?_
  obtain ⟨r1, qr1, hf⟩ := bd_some hf
  refine xt_callSi (As := [.int a1, .int 0, .int ((σ 1 (0 : Int32).toNatClampNeg) - 1)]) (rest := []) ⟨hx, hb, hml, hown, hts⟩ (mX7_in l dC dI ad cy hJ σ a1 0 ((σ 1 (0 : Int32).toNatClampNeg) - 1) r1 qr1) (va_cwS 3 hts gX7_isPier_X7_in rfl rfl rfl dmX7_in ⟨Nat.le_of_ble_eq_true rfl, Nat.le_of_ble_eq_true rfl⟩) hK hP hS rfl rfl hl.1 (Nat.le_of_ble_eq_true rfl) ⟨Nat.zero_le _, Nat.zero_le _⟩ dX7_isPier_10 (fun H locs hP hS => ?_)
  obtain ⟨g2, hf⟩ := gd_some hf
  exact xt_zret hx hb hr (okB_nar g2) hP hS (Option.some.inj hf) rfl dX7_isPier_13 hlocks
def fX7_isBarge (σ : St) (a1 : Int32) : Option Int32 :=
  bd (fX7_in σ a1 0 ((σ 1 (1 : Int32).toNatClampNeg) - 1)) fun r1 => gd (okB r1) <| some r1
abbrev rmX7_isBarge : Room := { frames := 1, cells := 0, slots := 0, locals := 22 }
theorem dmX7_isBarge : yX7_isBarge.cls = RX7 ∧ yX7_isBarge.cls ≠ "java/lang/invoke/MethodHandle" ∧ yX7_isBarge.cls ≠ "java/lang/invoke/VarHandle" ∧ (parseMethodDescriptor yX7_isBarge.desc).map (fun d => d.parameters.length) = some 1 := by decide +kernel
theorem iX7_isBarge_X7 : ∀ w ∈ wsX70, w ∈ wsX7_isBarge := fun w h => List.mem_cons_of_mem _ (List.mem_append_right _ (h))
set_option maxHeartbeats 8000000 in
set_option maxRecDepth 100000 in
theorem mX7_isBarge (l : Launch) (dC : Nat → ClassId) (dI : Nat → Nat → Nat) (ad : Nat → Nat) (cy : Nat → ClassId) (hJ : WJ 16 ad) (σ : St) (a1 : Int32) (res : Int32) (hf : fX7_isBarge σ a1 = some res) : CMi l yX7_isBarge wsX7_isBarge rmX7_isBarge (dC, dI) (tysX cy) 16 ad (layM ad cy) [.ref (ad 0), .int a1] σ res σ := by
  refine Met.ofW (cc := cX7_isBarge) (maxL := 2) (ret := (some .boolean)) (by decide) rfl ?_
  intro p e s m args below meth c s₁ B hml hv
  obtain ⟨hargs, hP, hK⟩ := hv
  have hx := B.exec
  have hb := B.bytes
  have hr := B.returns
  have hts := atoms_spec (ws := wsX7_isBarge) B.pre
  have hown : s.vm.findClass RX7 = some m.cls := findClass_of_methodNamed B.named
  have hlocks := B.notSynchronized
  have w1 := hts (.fieldLink RX7 9 "PierRingsModel" "all" "[I") (List.mem_of_getElem? (i := 1) rfl)
  have hS : va_S (WA 16 ad) s.heap s.heap [] := va_S.rf
  have hfr : entryFrame m args 2 = F0 m 0 ((lg_sl [.ref (ad 0), .int a1] ++ List.replicate (2 - (lg_sl [.ref (ad 0), .int a1]).length) Slot.unset).toArray) [] := by rw [hargs]; exact lg_entry_eq _ _ _
  rw [hfr]
  have hl := lv_entry ([.ref (ad 0), .int a1]) (n := 2) (Nat.le_of_ble_eq_true rfl)
  generalize (lg_sl [.ref (ad 0), .int a1] ++ List.replicate (2 - (lg_sl [.ref (ad 0), .int a1]).length) Slot.unset).toArray = ls at hl ⊢
  have hl : lv_has ls 2 [(0, .ref (ad 0)), (1, .int a1)] := hl
  clear hfr hargs B
  show W p l e rmX7_isBarge s m args below meth c s.heap [] 0 0 (MQ below (Qiw (dC, dI) 16 ad (layM ad cy) res σ) args s 0 0 (WA 16 ad)) (F0 m 0 ls [])
  unfold fX7_isBarge at hf
  obtain ⟨H, eH⟩ : ∃ H : Heap, H = s.heap := ⟨_, rfl⟩
  rw [← eH] at hP
  have hS : va_S (WA 16 ad) s.heap H [] := by rw [eH]; exact hS
  suffices K : W p l e rmX7_isBarge s m args below meth c H [] 0 0 (MQ below (Qiw (dC, dI) 16 ad (layM ad cy) res σ) args s 0 0 (WA 16 ad)) (F0 m 0 ls []) by rw [eH] at K; exact K
  clear eH
  obtain ⟨locs, elocs⟩ : ∃ z : List Loc, z = [] := ⟨_, rfl⟩
  rw [← elocs] at hS ⊢
  refine lv_iload_n hx hb dX7_isBarge_0 rfl (lv_at hl 1 rfl) ?_
  refine lv_iconst (v := 0) hx hb dX7_isBarge_1 (by decide) ?_
  refine lv_aload_n hx hb dX7_isBarge_2 rfl (lv_at hl 0 rfl) ?_
  refine xt_get (ci := 7) (C := RX7) (T := TX7) (n := 25) (v := .ref (ad 1)) hx hb hts iX7_isBarge_X7 hown hK hP 0 (by decide) (LX7_obj ad cy _) rfl 0 (by decide) w1 rfl dX7_isBarge_3 ?_
  refine lv_iconst (v := 1) hx hb dX7_isBarge_6 (by decide) ?_
  refine xt_iald hx hb hK hP 1 (by decide) 0 (LX7_all ad cy _) rfl (by decide) dX7_isBarge_7 ?_
  refine lv_iconst (v := 1) hx hb dX7_isBarge_8 (by decide) ?_
  refine lv_isub hx hb dX7_isBarge_9 ?_
  obtain ⟨r1, qr1, hf⟩ := bd_some hf
  refine xt_callSi (As := [.int a1, .int 0, .int ((σ 1 (1 : Int32).toNatClampNeg) - 1)]) (rest := []) ⟨hx, hb, hml, hown, hts⟩ (mX7_in l dC dI ad cy hJ σ a1 0 ((σ 1 (1 : Int32).toNatClampNeg) - 1) r1 qr1) (va_cwS 3 hts gX7_isBarge_X7_in rfl rfl rfl dmX7_in ⟨Nat.le_of_ble_eq_true rfl, Nat.le_of_ble_eq_true rfl⟩) hK hP hS rfl rfl hl.1 (Nat.le_of_ble_eq_true rfl) ⟨Nat.zero_le _, Nat.zero_le _⟩ dX7_isBarge_10 (fun H locs hP hS => ?_)
  obtain ⟨g2, hf⟩ := gd_some hf
  exact xt_zret hx hb hr (okB_nar g2) hP hS (Option.some.inj hf) rfl dX7_isBarge_13 hlocks
def fX7_isOpen (σ : St) (a1 : Int32) : Option Int32 :=
  bd (fX7_p σ a1 1) fun r1 => if r1 = (1 : Int32) then (some (1 : Int32)) else (some (0 : Int32))
abbrev rmX7_isOpen : Room := { frames := 1, cells := 0, slots := 0, locals := 22 }
theorem dmX7_isOpen : yX7_isOpen.cls = RX7 ∧ yX7_isOpen.cls ≠ "java/lang/invoke/MethodHandle" ∧ yX7_isOpen.cls ≠ "java/lang/invoke/VarHandle" ∧ (parseMethodDescriptor yX7_isOpen.desc).map (fun d => d.parameters.length) = some 1 := by decide +kernel
set_option maxHeartbeats 8000000 in
set_option maxRecDepth 100000 in
theorem mX7_isOpen (l : Launch) (dC : Nat → ClassId) (dI : Nat → Nat → Nat) (ad : Nat → Nat) (cy : Nat → ClassId) (hJ : WJ 16 ad) (σ : St) (a1 : Int32) (res : Int32) (hf : fX7_isOpen σ a1 = some res) : CMi l yX7_isOpen wsX7_isOpen rmX7_isOpen (dC, dI) (tysX cy) 16 ad (layM ad cy) [.ref (ad 0), .int a1] σ res σ := by
  refine Met.ofW (cc := cX7_isOpen) (maxL := 2) (ret := (some .boolean)) (by decide) rfl ?_
  intro p e s m args below meth c s₁ B hml hv
  obtain ⟨hargs, hP, hK⟩ := hv
  have hx := B.exec
  have hb := B.bytes
  have hr := B.returns
  have hts := atoms_spec (ws := wsX7_isOpen) B.pre
  have hown : s.vm.findClass RX7 = some m.cls := findClass_of_methodNamed B.named
  have hlocks := B.notSynchronized
  have hS : va_S (WA 16 ad) s.heap s.heap [] := va_S.rf
  have hfr : entryFrame m args 2 = F0 m 0 ((lg_sl [.ref (ad 0), .int a1] ++ List.replicate (2 - (lg_sl [.ref (ad 0), .int a1]).length) Slot.unset).toArray) [] := by rw [hargs]; exact lg_entry_eq _ _ _
  rw [hfr]
  have hl := lv_entry ([.ref (ad 0), .int a1]) (n := 2) (Nat.le_of_ble_eq_true rfl)
  generalize (lg_sl [.ref (ad 0), .int a1] ++ List.replicate (2 - (lg_sl [.ref (ad 0), .int a1]).length) Slot.unset).toArray = ls at hl ⊢
  have hl : lv_has ls 2 [(0, .ref (ad 0)), (1, .int a1)] := hl
  clear hfr hargs B
  show W p l e rmX7_isOpen s m args below meth c s.heap [] 0 0 (MQ below (Qiw (dC, dI) 16 ad (layM ad cy) res σ) args s 0 0 (WA 16 ad)) (F0 m 0 ls [])
  unfold fX7_isOpen at hf
  obtain ⟨H, eH⟩ : ∃ H : Heap, H = s.heap := ⟨_, rfl⟩
  rw [← eH] at hP
  have hS : va_S (WA 16 ad) s.heap H [] := by rw [eH]; exact hS
  suffices K : W p l e rmX7_isOpen s m args below meth c H [] 0 0 (MQ below (Qiw (dC, dI) 16 ad (layM ad cy) res σ) args s 0 0 (WA 16 ad)) (F0 m 0 ls []) by rw [eH] at K; exact K
  clear eH
  obtain ⟨locs, elocs⟩ : ∃ z : List Loc, z = [] := ⟨_, rfl⟩
  rw [← elocs] at hS ⊢
  refine lv_aload_n hx hb dX7_isOpen_0 rfl (lv_at hl 0 rfl) ?_
  refine lv_iload_n hx hb dX7_isOpen_1 rfl (lv_at hl 1 rfl) ?_
  refine lv_iconst (v := 1) hx hb dX7_isOpen_2 (by decide) ?_
  obtain ⟨r1, qr1, hf⟩ := bd_some hf
  refine xt_callVi (As := [.int a1, .int 1]) (rest := []) (C := RX7) (ci := 7) ⟨hx, hb, hml, hown, hts⟩ 0 (mX7_p l dC dI ad cy hJ σ a1 1 r1 qr1) (cwV 2 hts gX7_isOpen_X7_p rfl rfl rfl dmX7_p ⟨Nat.le_of_ble_eq_true rfl, Nat.le_of_ble_eq_true rfl⟩) hK hP hS (by decide) (LX7_obj ad cy _) rfl rfl rfl hl.1 (Nat.le_of_ble_eq_true rfl) ⟨Nat.zero_le _, Nat.zero_le _⟩ dX7_isOpen_3 (fun H locs hP hS => ?_)
  refine lv_iconst (v := 1) hx hb dX7_isOpen_6 (by decide) ?_
  refine lv_icmp_ne (tgt := 14) hx hb dX7_isOpen_7 (by decide) (fun c2 => ?_) (fun c2 => ?_)
  · have hf := (if_neg c2).symm.trans hf
    refine lv_iconst (v := 0) hx hb dX7_isOpen_14 (by decide) ?_
    exact xt_zret hx hb hr rfl hP hS (Option.some.inj hf) rfl dX7_isOpen_15 hlocks
  · have hf := (if_pos c2).symm.trans hf
    refine lv_iconst (v := 1) hx hb dX7_isOpen_10 (by decide) ?_
    refine lv_goto (tgt := 15) hx hb dX7_isOpen_11 (by decide) ?_
    exact xt_zret hx hb hr rfl hP hS (Option.some.inj hf) rfl dX7_isOpen_15 hlocks
def fX7_pointOf (σ : St) (a0 : Int32) (a1 : Int32) : Option Int32 :=
  some ((8 * (jrem ((17 * a0) + (7 * a1)) 45)) + a0)
abbrev rmX7_pointOf : Room := { frames := 0, cells := 0, slots := 0, locals := 0 }
theorem dmX7_pointOf : yX7_pointOf.cls ≠ "java/lang/invoke/MethodHandle" ∧ yX7_pointOf.cls ≠ "java/lang/invoke/VarHandle" ∧ (parseMethodDescriptor yX7_pointOf.desc).map (fun d => d.parameters.length) = some 2 := by decide +kernel
set_option maxHeartbeats 8000000 in
set_option maxRecDepth 100000 in
theorem mX7_pointOf (l : Launch) (dC : Nat → ClassId) (dI : Nat → Nat → Nat) (ad : Nat → Nat) (cy : Nat → ClassId) (hJ : WJ 16 ad) (σ : St) (a0 : Int32) (a1 : Int32) (res : Int32) (hf : fX7_pointOf σ a0 a1 = some res) : CMi l yX7_pointOf wsX7_pointOf rmX7_pointOf (dC, dI) (tysX cy) 16 ad (layM ad cy) [.int a0, .int a1] σ res σ := by
  refine Met.ofW (cc := cX7_pointOf) (maxL := 2) (ret := (some .int)) (by decide) rfl ?_
  intro p e s m args below meth c s₁ B hml hv
  obtain ⟨hargs, hP, hK⟩ := hv
  have hx := B.exec
  have hb := B.bytes
  have hr := B.returns
  have hts := atoms_spec (ws := wsX7_pointOf) B.pre
  have hown : s.vm.findClass RX7 = some m.cls := findClass_of_methodNamed B.named
  have hlocks := B.notSynchronized
  have hS : va_S (WA 16 ad) s.heap s.heap [] := va_S.rf
  have hfr : entryFrame m args 2 = F0 m 0 ((lg_sl [.int a0, .int a1] ++ List.replicate (2 - (lg_sl [.int a0, .int a1]).length) Slot.unset).toArray) [] := by rw [hargs]; exact lg_entry_eq _ _ _
  rw [hfr]
  have hl := lv_entry ([.int a0, .int a1]) (n := 2) (Nat.le_of_ble_eq_true rfl)
  generalize (lg_sl [.int a0, .int a1] ++ List.replicate (2 - (lg_sl [.int a0, .int a1]).length) Slot.unset).toArray = ls at hl ⊢
  have hl : lv_has ls 2 [(0, .int a0), (1, .int a1)] := hl
  clear hfr hargs B
  show W p l e rmX7_pointOf s m args below meth c s.heap [] 0 0 (MQ below (Qiw (dC, dI) 16 ad (layM ad cy) res σ) args s 0 0 (WA 16 ad)) (F0 m 0 ls [])
  unfold fX7_pointOf at hf
  obtain ⟨H, eH⟩ : ∃ H : Heap, H = s.heap := ⟨_, rfl⟩
  rw [← eH] at hP
  have hS : va_S (WA 16 ad) s.heap H [] := by rw [eH]; exact hS
  suffices K : W p l e rmX7_pointOf s m args below meth c H [] 0 0 (MQ below (Qiw (dC, dI) 16 ad (layM ad cy) res σ) args s 0 0 (WA 16 ad)) (F0 m 0 ls []) by rw [eH] at K; exact K
  clear eH
  obtain ⟨locs, elocs⟩ : ∃ z : List Loc, z = [] := ⟨_, rfl⟩
  rw [← elocs] at hS ⊢
  refine lv_bipush (v := 8) hx hb dX7_pointOf_0 (by decide) ?_
  refine lv_bipush (v := 17) hx hb dX7_pointOf_2 (by decide) ?_
  refine lv_iload_n hx hb dX7_pointOf_4 rfl (lv_at hl 0 rfl) ?_
  refine lv_imul hx hb dX7_pointOf_5 ?_
  refine lv_bipush (v := 7) hx hb dX7_pointOf_6 (by decide) ?_
  refine lv_iload_n hx hb dX7_pointOf_8 rfl (lv_at hl 1 rfl) ?_
  refine lv_imul hx hb dX7_pointOf_9 ?_
  refine lv_iadd hx hb dX7_pointOf_10 ?_
  refine lv_bipush (v := 45) hx hb dX7_pointOf_11 (by decide) ?_
  refine xt_irem hx hb dX7_pointOf_13 (by decide) ?_
  refine lv_imul hx hb dX7_pointOf_14 ?_
  refine lv_iload_n hx hb dX7_pointOf_15 rfl (lv_at hl 0 rfl) ?_
  refine lv_iadd hx hb dX7_pointOf_16 ?_
  exact xt_iret hx hb hr hP hS (Option.some.inj hf) rfl dX7_pointOf_17 hlocks
def fX7_points (σ : St) (a1 : Int32) : Option Int32 :=
  bd (fX7_isOpen σ a1) fun r1 => if r1 = 0 then (some (0 : Int32)) else (bd (fX7_p σ a1 0) fun r3 => some (2 * r3))
abbrev rmX7_points : Room := { frames := 2, cells := 0, slots := 0, locals := 43 }
theorem dmX7_points : yX7_points.cls = RX7 ∧ yX7_points.cls ≠ "java/lang/invoke/MethodHandle" ∧ yX7_points.cls ≠ "java/lang/invoke/VarHandle" ∧ (parseMethodDescriptor yX7_points.desc).map (fun d => d.parameters.length) = some 1 := by decide +kernel
set_option maxHeartbeats 8000000 in
set_option maxRecDepth 100000 in
theorem mX7_points (l : Launch) (dC : Nat → ClassId) (dI : Nat → Nat → Nat) (ad : Nat → Nat) (cy : Nat → ClassId) (hJ : WJ 16 ad) (σ : St) (a1 : Int32) (res : Int32) (hf : fX7_points σ a1 = some res) : CMi l yX7_points wsX7_points rmX7_points (dC, dI) (tysX cy) 16 ad (layM ad cy) [.ref (ad 0), .int a1] σ res σ := by
  refine Met.ofW (cc := cX7_points) (maxL := 2) (ret := (some .int)) (by decide) rfl ?_
  intro p e s m args below meth c s₁ B hml hv
  obtain ⟨hargs, hP, hK⟩ := hv
  have hx := B.exec
  have hb := B.bytes
  have hr := B.returns
  have hts := atoms_spec (ws := wsX7_points) B.pre
  have hown : s.vm.findClass RX7 = some m.cls := findClass_of_methodNamed B.named
  have hlocks := B.notSynchronized
  have hS : va_S (WA 16 ad) s.heap s.heap [] := va_S.rf
  have hfr : entryFrame m args 2 = F0 m 0 ((lg_sl [.ref (ad 0), .int a1] ++ List.replicate (2 - (lg_sl [.ref (ad 0), .int a1]).length) Slot.unset).toArray) [] := by rw [hargs]; exact lg_entry_eq _ _ _
  rw [hfr]
  have hl := lv_entry ([.ref (ad 0), .int a1]) (n := 2) (Nat.le_of_ble_eq_true rfl)
  generalize (lg_sl [.ref (ad 0), .int a1] ++ List.replicate (2 - (lg_sl [.ref (ad 0), .int a1]).length) Slot.unset).toArray = ls at hl ⊢
  have hl : lv_has ls 2 [(0, .ref (ad 0)), (1, .int a1)] := hl
  clear hfr hargs B
  show W p l e rmX7_points s m args below meth c s.heap [] 0 0 (MQ below (Qiw (dC, dI) 16 ad (layM ad cy) res σ) args s 0 0 (WA 16 ad)) (F0 m 0 ls [])
  unfold fX7_points at hf
  obtain ⟨H, eH⟩ : ∃ H : Heap, H = s.heap := ⟨_, rfl⟩
  rw [← eH] at hP
  have hS : va_S (WA 16 ad) s.heap H [] := by rw [eH]; exact hS
  suffices K : W p l e rmX7_points s m args below meth c H [] 0 0 (MQ below (Qiw (dC, dI) 16 ad (layM ad cy) res σ) args s 0 0 (WA 16 ad)) (F0 m 0 ls []) by rw [eH] at K; exact K
  clear eH
  obtain ⟨locs, elocs⟩ : ∃ z : List Loc, z = [] := ⟨_, rfl⟩
  rw [← elocs] at hS ⊢
  refine lv_aload_n hx hb dX7_points_0 rfl (lv_at hl 0 rfl) ?_
  refine lv_iload_n hx hb dX7_points_1 rfl (lv_at hl 1 rfl) ?_
  obtain ⟨r1, qr1, hf⟩ := bd_some hf
  refine xt_callVi (As := [.int a1]) (rest := []) (C := RX7) (ci := 7) ⟨hx, hb, hml, hown, hts⟩ 0 (mX7_isOpen l dC dI ad cy hJ σ a1 r1 qr1) (cwV 1 hts gX7_points_X7_isOpen rfl rfl rfl dmX7_isOpen ⟨Nat.le_of_ble_eq_true rfl, Nat.le_of_ble_eq_true rfl⟩) hK hP hS (by decide) (LX7_obj ad cy _) rfl rfl rfl hl.1 (Nat.le_of_ble_eq_true rfl) ⟨Nat.zero_le _, Nat.zero_le _⟩ dX7_points_2 (fun H locs hP hS => ?_)
  refine lv_if_eq (tgt := 19) hx hb dX7_points_5 (by decide) (fun c2 => ?_) (fun c2 => ?_)
  · have hf := (if_pos c2).symm.trans hf
    refine lv_iconst (v := 0) hx hb dX7_points_19 (by decide) ?_
    exact xt_iret hx hb hr hP hS (Option.some.inj hf) rfl dX7_points_20 hlocks
  · have hf := (if_neg c2).symm.trans hf
    refine lv_iconst (v := 2) hx hb dX7_points_8 (by decide) ?_
    refine lv_aload_n hx hb dX7_points_9 rfl (lv_at hl 0 rfl) ?_
    refine lv_iload_n hx hb dX7_points_10 rfl (lv_at hl 1 rfl) ?_
    refine lv_iconst (v := 0) hx hb dX7_points_11 (by decide) ?_
    obtain ⟨r3, qr3, hf⟩ := bd_some hf
    refine xt_callVi (As := [.int a1, .int 0]) (rest := [.int 2]) (C := RX7) (ci := 7) ⟨hx, hb, hml, hown, hts⟩ 0 (mX7_p l dC dI ad cy hJ σ a1 0 r3 qr3) (cwV 2 hts gX7_points_X7_p rfl rfl rfl dmX7_p ⟨Nat.le_of_ble_eq_true rfl, Nat.le_of_ble_eq_true rfl⟩) hK hP hS (by decide) (LX7_obj ad cy _) rfl rfl rfl hl.1 (Nat.le_of_ble_eq_true rfl) ⟨Nat.zero_le _, Nat.zero_le _⟩ dX7_points_12 (fun H locs hP hS => ?_)
    refine lv_imul hx hb dX7_points_15 ?_
    refine lv_goto (tgt := 20) hx hb dX7_points_16 (by decide) ?_
    exact xt_iret hx hb hr hP hS (Option.some.inj hf) rfl dX7_points_20 hlocks
def fX7_room (σ : St) (a1 : Int32) : Option Int32 :=
  bd (fX7_isOpen σ a1) fun r1 => if r1 = 0 then (some (0 : Int32)) else (bd (fX7_p σ a1 0) fun r3 => some (r3 * (σ 1 (2 : Int32).toNatClampNeg)))
abbrev rmX7_room : Room := { frames := 2, cells := 0, slots := 0, locals := 43 }
theorem dmX7_room : yX7_room.cls = RX7 ∧ yX7_room.cls ≠ "java/lang/invoke/MethodHandle" ∧ yX7_room.cls ≠ "java/lang/invoke/VarHandle" ∧ (parseMethodDescriptor yX7_room.desc).map (fun d => d.parameters.length) = some 1 := by decide +kernel
theorem iX7_room_X7 : ∀ w ∈ wsX70, w ∈ wsX7_room := fun w h => List.mem_cons_of_mem _ (List.mem_append_right _ (h))
set_option maxHeartbeats 8000000 in
set_option maxRecDepth 100000 in
theorem mX7_room (l : Launch) (dC : Nat → ClassId) (dI : Nat → Nat → Nat) (ad : Nat → Nat) (cy : Nat → ClassId) (hJ : WJ 16 ad) (σ : St) (a1 : Int32) (res : Int32) (hf : fX7_room σ a1 = some res) : CMi l yX7_room wsX7_room rmX7_room (dC, dI) (tysX cy) 16 ad (layM ad cy) [.ref (ad 0), .int a1] σ res σ := by
  refine Met.ofW (cc := cX7_room) (maxL := 2) (ret := (some .int)) (by decide) rfl ?_
  intro p e s m args below meth c s₁ B hml hv
  obtain ⟨hargs, hP, hK⟩ := hv
  have hx := B.exec
  have hb := B.bytes
  have hr := B.returns
  have hts := atoms_spec (ws := wsX7_room) B.pre
  have hown : s.vm.findClass RX7 = some m.cls := findClass_of_methodNamed B.named
  have hlocks := B.notSynchronized
  have w1 := hts (.fieldLink RX7 9 "PierRingsModel" "all" "[I") (List.mem_of_getElem? (i := 1) rfl)
  have hS : va_S (WA 16 ad) s.heap s.heap [] := va_S.rf
  have hfr : entryFrame m args 2 = F0 m 0 ((lg_sl [.ref (ad 0), .int a1] ++ List.replicate (2 - (lg_sl [.ref (ad 0), .int a1]).length) Slot.unset).toArray) [] := by rw [hargs]; exact lg_entry_eq _ _ _
  rw [hfr]
  have hl := lv_entry ([.ref (ad 0), .int a1]) (n := 2) (Nat.le_of_ble_eq_true rfl)
  generalize (lg_sl [.ref (ad 0), .int a1] ++ List.replicate (2 - (lg_sl [.ref (ad 0), .int a1]).length) Slot.unset).toArray = ls at hl ⊢
  have hl : lv_has ls 2 [(0, .ref (ad 0)), (1, .int a1)] := hl
  clear hfr hargs B
  show W p l e rmX7_room s m args below meth c s.heap [] 0 0 (MQ below (Qiw (dC, dI) 16 ad (layM ad cy) res σ) args s 0 0 (WA 16 ad)) (F0 m 0 ls [])
  unfold fX7_room at hf
  obtain ⟨H, eH⟩ : ∃ H : Heap, H = s.heap := ⟨_, rfl⟩
  rw [← eH] at hP
  have hS : va_S (WA 16 ad) s.heap H [] := by rw [eH]; exact hS
  suffices K : W p l e rmX7_room s m args below meth c H [] 0 0 (MQ below (Qiw (dC, dI) 16 ad (layM ad cy) res σ) args s 0 0 (WA 16 ad)) (F0 m 0 ls []) by rw [eH] at K; exact K
  clear eH
  obtain ⟨locs, elocs⟩ : ∃ z : List Loc, z = [] := ⟨_, rfl⟩
  rw [← elocs] at hS ⊢
  refine lv_aload_n hx hb dX7_room_0 rfl (lv_at hl 0 rfl) ?_
  refine lv_iload_n hx hb dX7_room_1 rfl (lv_at hl 1 rfl) ?_
  obtain ⟨r1, qr1, hf⟩ := bd_some hf
  refine xt_callVi (As := [.int a1]) (rest := []) (C := RX7) (ci := 7) ⟨hx, hb, hml, hown, hts⟩ 0 (mX7_isOpen l dC dI ad cy hJ σ a1 r1 qr1) (cwV 1 hts gX7_room_X7_isOpen rfl rfl rfl dmX7_isOpen ⟨Nat.le_of_ble_eq_true rfl, Nat.le_of_ble_eq_true rfl⟩) hK hP hS (by decide) (LX7_obj ad cy _) rfl rfl rfl hl.1 (Nat.le_of_ble_eq_true rfl) ⟨Nat.zero_le _, Nat.zero_le _⟩ dX7_room_2 (fun H locs hP hS => ?_)
  refine lv_if_eq (tgt := 24) hx hb dX7_room_5 (by decide) (fun c2 => ?_) (fun c2 => ?_)
  · have hf := (if_pos c2).symm.trans hf
    refine lv_iconst (v := 0) hx hb dX7_room_24 (by decide) ?_
    exact xt_iret hx hb hr hP hS (Option.some.inj hf) rfl dX7_room_25 hlocks
  · have hf := (if_neg c2).symm.trans hf
    refine lv_aload_n hx hb dX7_room_8 rfl (lv_at hl 0 rfl) ?_
    refine lv_iload_n hx hb dX7_room_9 rfl (lv_at hl 1 rfl) ?_
    refine lv_iconst (v := 0) hx hb dX7_room_10 (by decide) ?_
    obtain ⟨r3, qr3, hf⟩ := bd_some hf
    refine xt_callVi (As := [.int a1, .int 0]) (rest := []) (C := RX7) (ci := 7) ⟨hx, hb, hml, hown, hts⟩ 0 (mX7_p l dC dI ad cy hJ σ a1 0 r3 qr3) (cwV 2 hts gX7_room_X7_p rfl rfl rfl dmX7_p ⟨Nat.le_of_ble_eq_true rfl, Nat.le_of_ble_eq_true rfl⟩) hK hP hS (by decide) (LX7_obj ad cy _) rfl rfl rfl hl.1 (Nat.le_of_ble_eq_true rfl) ⟨Nat.zero_le _, Nat.zero_le _⟩ dX7_room_11 (fun H locs hP hS => ?_)
    refine lv_aload_n hx hb dX7_room_14 rfl (lv_at hl 0 rfl) ?_
    refine xt_get (ci := 7) (C := RX7) (T := TX7) (n := 25) (v := .ref (ad 1)) hx hb hts iX7_room_X7 hown hK hP 0 (by decide) (LX7_obj ad cy _) rfl 0 (by decide) w1 rfl dX7_room_15 ?_
    refine lv_iconst (v := 2) hx hb dX7_room_18 (by decide) ?_
    refine xt_iald hx hb hK hP 1 (by decide) 0 (LX7_all ad cy _) rfl (by decide) dX7_room_19 ?_
    refine lv_imul hx hb dX7_room_20 ?_
    refine lv_goto (tgt := 25) hx hb dX7_room_21 (by decide) ?_
    exact xt_iret hx hb hr hP hS (Option.some.inj hf) rfl dX7_room_25 hlocks
def fX7_placeOf (σ : St) (a0 : Int32) : Option Int32 :=
  some (jrem ((37 * a0) + 11) 360)
abbrev rmX7_placeOf : Room := { frames := 0, cells := 0, slots := 0, locals := 0 }
theorem dmX7_placeOf : yX7_placeOf.cls ≠ "java/lang/invoke/MethodHandle" ∧ yX7_placeOf.cls ≠ "java/lang/invoke/VarHandle" ∧ (parseMethodDescriptor yX7_placeOf.desc).map (fun d => d.parameters.length) = some 1 := by decide +kernel
set_option maxHeartbeats 8000000 in
set_option maxRecDepth 100000 in
theorem mX7_placeOf (l : Launch) (dC : Nat → ClassId) (dI : Nat → Nat → Nat) (ad : Nat → Nat) (cy : Nat → ClassId) (hJ : WJ 16 ad) (σ : St) (a0 : Int32) (res : Int32) (hf : fX7_placeOf σ a0 = some res) : CMi l yX7_placeOf wsX7_placeOf rmX7_placeOf (dC, dI) (tysX cy) 16 ad (layM ad cy) [.int a0] σ res σ := by
  refine Met.ofW (cc := cX7_placeOf) (maxL := 1) (ret := (some .int)) (by decide) rfl ?_
  intro p e s m args below meth c s₁ B hml hv
  obtain ⟨hargs, hP, hK⟩ := hv
  have hx := B.exec
  have hb := B.bytes
  have hr := B.returns
  have hts := atoms_spec (ws := wsX7_placeOf) B.pre
  have hown : s.vm.findClass RX7 = some m.cls := findClass_of_methodNamed B.named
  have hlocks := B.notSynchronized
  have hS : va_S (WA 16 ad) s.heap s.heap [] := va_S.rf
  have hfr : entryFrame m args 1 = F0 m 0 ((lg_sl [.int a0] ++ List.replicate (1 - (lg_sl [.int a0]).length) Slot.unset).toArray) [] := by rw [hargs]; exact lg_entry_eq _ _ _
  rw [hfr]
  have hl := lv_entry ([.int a0]) (n := 1) (Nat.le_of_ble_eq_true rfl)
  generalize (lg_sl [.int a0] ++ List.replicate (1 - (lg_sl [.int a0]).length) Slot.unset).toArray = ls at hl ⊢
  have hl : lv_has ls 1 [(0, .int a0)] := hl
  clear hfr hargs B
  show W p l e rmX7_placeOf s m args below meth c s.heap [] 0 0 (MQ below (Qiw (dC, dI) 16 ad (layM ad cy) res σ) args s 0 0 (WA 16 ad)) (F0 m 0 ls [])
  unfold fX7_placeOf at hf
  obtain ⟨H, eH⟩ : ∃ H : Heap, H = s.heap := ⟨_, rfl⟩
  rw [← eH] at hP
  have hS : va_S (WA 16 ad) s.heap H [] := by rw [eH]; exact hS
  suffices K : W p l e rmX7_placeOf s m args below meth c H [] 0 0 (MQ below (Qiw (dC, dI) 16 ad (layM ad cy) res σ) args s 0 0 (WA 16 ad)) (F0 m 0 ls []) by rw [eH] at K; exact K
  clear eH
  obtain ⟨locs, elocs⟩ : ∃ z : List Loc, z = [] := ⟨_, rfl⟩
  rw [← elocs] at hS ⊢
  refine lv_bipush (v := 37) hx hb dX7_placeOf_0 (by decide) ?_
  refine lv_iload_n hx hb dX7_placeOf_2 rfl (lv_at hl 0 rfl) ?_
  refine lv_imul hx hb dX7_placeOf_3 ?_
  refine lv_bipush (v := 11) hx hb dX7_placeOf_4 (by decide) ?_
  refine lv_iadd hx hb dX7_placeOf_6 ?_
  refine lv_sipush (v := 360) hx hb dX7_placeOf_7 (by decide) ?_
  refine xt_irem hx hb dX7_placeOf_10 (by decide) ?_
  exact xt_iret hx hb hr hP hS (Option.some.inj hf) rfl dX7_placeOf_11 hlocks
def fX7_laysRing_B132 (σ : St) : Option St :=
  some σ
def fX7_laysRing_L79 (K79_132 : St → Option St) : Nat → St → Int32 → Int32 → Option St
  | 0, _, _, _ => none
  | n79 + 1, σ, x1, x2 => if x2 < 0 then (K79_132 σ) else (gd (okI (jrem x2 360) 360) <| if (σ 2 (jrem x2 360).toNatClampNeg) = (-1 : Int32) then (gd (okI (jrem x2 360) 360) <| nm (su σ 3 (jrem x2 360).toNatClampNeg x1) fun σ10 => nm (x2 + (-1)) fun v11 => (fX7_laysRing_L79 K79_132 n79) σ10 x1 v11) else (gd (okI (jrem x2 360) 360) <| nm (jrem (σ 2 (jrem x2 360).toNatClampNeg) 8) fun v5 => gd (okI (jrem x2 360) 360) <| nm (su σ 3 (jrem x2 360).toNatClampNeg v5) fun σ7 => nm (x2 + (-1)) fun v8 => (fX7_laysRing_L79 K79_132 n79) σ7 v5 v8))
def fX7_laysRing_B73 (σ : St) : Option St :=
  fX7_laysRing_L79 (fun σ => fX7_laysRing_B132 σ) 1000 σ (-1) 719
def fX7_laysRing_B67 (G24 : St → Int32 → Option St) (K24_73 : St → Option St) (σ : St) (x1 : Int32) : Option St :=
  nm (x1 + 1) fun v12 => G24 σ v12
def fX7_laysRing_L36 (x1 : Int32) (K36_67 : St → Option St) : Nat → St → Int32 → Option St
  | 0, _, _ => none
  | n36 + 1, σ, x2 => bd (fX7_points σ x1) fun r13 => if r13 ≤ x2 then (K36_67 σ) else (bd (fX7_pointOf σ x1 x2) fun r15 => gd (okI r15 360) <| nm (su σ 2 r15.toNatClampNeg ((8 * x2) + x1)) fun σ17 => nm (x2 + 1) fun v18 => (fX7_laysRing_L36 x1 K36_67 n36) σ17 v18)
def fX7_laysRing_L24 (K24_73 : St → Option St) : Nat → St → Int32 → Option St
  | 0, _, _ => none
  | n24 + 1, σ, x1 => if (σ 1 (0 : Int32).toNatClampNeg) ≤ x1 then (K24_73 σ) else (fX7_laysRing_L36 x1 (fun σ => fX7_laysRing_B67 (fX7_laysRing_L24 K24_73 n24) K24_73 σ x1) 1000 σ 0)
def fX7_laysRing_B22 (σ : St) : Option St :=
  fX7_laysRing_L24 (fun σ => fX7_laysRing_B73 σ) 1000 σ 0
def fX7_laysRing_L2 (K2_22 : St → Option St) : Nat → St → Int32 → Option St
  | 0, _, _ => none
  | n2 + 1, σ, x1 => if (360 : Int32) ≤ x1 then (K2_22 σ) else (gd (okI x1 360) <| nm (su σ 2 x1.toNatClampNeg (-1)) fun σ22 => nm (x1 + 1) fun v23 => (fX7_laysRing_L2 K2_22 n2) σ22 v23)
def fX7_laysRing (σ : St) : Option St :=
  fX7_laysRing_L2 (fun σ => fX7_laysRing_B22 σ) 1000 σ 0
abbrev rmX7_laysRing : Room := { frames := 3, cells := 0, slots := 0, locals := 64 }
theorem dmX7_laysRing : yX7_laysRing.cls = RX7 ∧ yX7_laysRing.cls ≠ "java/lang/invoke/MethodHandle" ∧ yX7_laysRing.cls ≠ "java/lang/invoke/VarHandle" ∧ (parseMethodDescriptor yX7_laysRing.desc).map (fun d => d.parameters.length) = some 0 := by decide +kernel
theorem iX7_laysRing_X7 : ∀ w ∈ wsX70, w ∈ wsX7_laysRing := fun w h => List.mem_cons_of_mem _ (List.mem_append_right _ (h))
set_option maxHeartbeats 8000000 in
set_option maxRecDepth 100000 in
theorem mX7_laysRing (l : Launch) (dC : Nat → ClassId) (dI : Nat → Nat → Nat) (ad : Nat → Nat) (cy : Nat → ClassId) (hJ : WJ 16 ad) (σ : St) (res : St) (hf : fX7_laysRing σ = some res) : CMv l yX7_laysRing wsX7_laysRing rmX7_laysRing (dC, dI) (tysX cy) 16 ad (layM ad cy) [.ref (ad 0)] σ res := by
  refine Met.ofW (cc := cX7_laysRing) (maxL := 3) (ret := none) (by decide) rfl ?_
  intro p e s m args below meth c s₁ B hml hv
  obtain ⟨hargs, hP, hK⟩ := hv
  have hx := B.exec
  have hb := B.bytes
  have hr := B.returns
  have hts := atoms_spec (ws := wsX7_laysRing) B.pre
  have hown : s.vm.findClass RX7 = some m.cls := findClass_of_methodNamed B.named
  have hlocks := B.notSynchronized
  have w1 := hts (.fieldLink RX7 13 "PierRingsModel" "owner" "[I") (List.mem_of_getElem? (i := 1) rfl)
  have w2 := hts (.fieldLink RX7 9 "PierRingsModel" "all" "[I") (List.mem_of_getElem? (i := 2) rfl)
  have w3 := hts (.fieldLink RX7 16 "PierRingsModel" "homes" "[I") (List.mem_of_getElem? (i := 3) rfl)
  have hS : va_S (WA 16 ad) s.heap s.heap [] := va_S.rf
  have hfr : entryFrame m args 3 = F0 m 0 ((lg_sl [.ref (ad 0)] ++ List.replicate (3 - (lg_sl [.ref (ad 0)]).length) Slot.unset).toArray) [] := by rw [hargs]; exact lg_entry_eq _ _ _
  rw [hfr]
  have hl := lv_entry ([.ref (ad 0)]) (n := 3) (Nat.le_of_ble_eq_true rfl)
  generalize (lg_sl [.ref (ad 0)] ++ List.replicate (3 - (lg_sl [.ref (ad 0)]).length) Slot.unset).toArray = ls at hl ⊢
  have hl : lv_has ls 3 [(0, .ref (ad 0))] := hl
  clear hfr hargs B
  show W p l e rmX7_laysRing s m args below meth c s.heap [] 0 0 (MQ below (Qvw (dC, dI) 16 ad (layM ad cy) res) args s 0 0 (WA 16 ad)) (F0 m 0 ls [])
  have kB132 : ∀ (σ : St), fX7_laysRing_B132 σ = some res → ∀ (H : Heap) (locs : List Loc), va_P (dC, dI) vwCl (wd 16 ad (layM ad cy) σ) H → va_S (WA 16 ad) s.heap H locs → ∀ (ls : Array Slot), lv_has ls 3 [] → W p l e rmX7_laysRing s m args below meth c H locs 0 0 (MQ below (Qvw (dC, dI) 16 ad (layM ad cy) res) args s 0 0 (WA 16 ad)) (F0 m 132 ls []) := by
    intro σ hf H locs hP hS ls hl
    unfold fX7_laysRing_B132 at hf
    exact xt_vret hx hb hr hP hS (Option.some.inj hf) dX7_laysRing_132 hlocks
  have loop79 : ∀ (n79 : Nat) (σ : St) (x1 : Int32) (x2 : Int32), fX7_laysRing_L79 (fun σ => fX7_laysRing_B132 σ) n79 σ x1 x2 = some res → ∀ (H : Heap) (locs : List Loc), va_P (dC, dI) vwCl (wd 16 ad (layM ad cy) σ) H → va_S (WA 16 ad) s.heap H locs → ∀ (ls : Array Slot), lv_has ls 3 [(0, .ref (ad 0)), (1, .int x1), (2, .int x2)] → W p l e rmX7_laysRing s m args below meth c H locs 0 0 (MQ below (Qvw (dC, dI) 16 ad (layM ad cy) res) args s 0 0 (WA 16 ad)) (F0 m 79 ls []) := by
    intro n79
    induction n79 with
    | zero => intro σ x1 x2 hf; simp [fX7_laysRing_L79] at hf
    | succ n79 ih79 =>
      intro σ x1 x2 hf H locs hP hS ls hl
      rw [fX7_laysRing_L79] at hf
      refine lv_iload_n hx hb dX7_laysRing_79 rfl (lv_at hl 2 rfl) ?_
      refine lv_if_lt (tgt := 132) hx hb dX7_laysRing_80 (by decide) (fun c1 => ?_) (fun c1 => ?_)
      · have hf := (if_pos c1).symm.trans hf
        exact kB132 σ hf H locs hP hS ls (lv_sub hl [] rfl)
      · have hf := (if_neg c1).symm.trans hf
        refine lv_aload_n hx hb dX7_laysRing_83 rfl (lv_at hl 0 rfl) ?_
        refine xt_get (ci := 7) (C := RX7) (T := TX7) (n := 25) (v := .ref (ad 2)) hx hb hts iX7_laysRing_X7 hown hK hP 0 (by decide) (LX7_obj ad cy _) rfl 5 (by decide) w1 rfl dX7_laysRing_84 ?_
        refine lv_iload_n hx hb dX7_laysRing_87 rfl (lv_at hl 2 rfl) ?_
        refine lv_sipush (v := 360) hx hb dX7_laysRing_88 (by decide) ?_
        refine xt_irem hx hb dX7_laysRing_91 (by decide) ?_
        obtain ⟨g2, hf⟩ := gd_some hf
        refine xt_iald hx hb hK hP 2 (by decide) 0 (LX7_owner ad cy _) rfl g2 dX7_laysRing_92 ?_
        refine lv_iconst (v := (-1)) hx hb dX7_laysRing_93 (by decide) ?_
        refine lv_icmp_ne (tgt := 101) hx hb dX7_laysRing_94 (by decide) (fun c3 => ?_) (fun c3 => ?_)
        · have hf := (if_neg c3).symm.trans hf
          refine lv_aload_n hx hb dX7_laysRing_101 rfl (lv_at hl 0 rfl) ?_
          refine xt_get (ci := 7) (C := RX7) (T := TX7) (n := 25) (v := .ref (ad 2)) hx hb hts iX7_laysRing_X7 hown hK hP 0 (by decide) (LX7_obj ad cy _) rfl 5 (by decide) w1 rfl dX7_laysRing_102 ?_
          refine lv_iload_n hx hb dX7_laysRing_105 rfl (lv_at hl 2 rfl) ?_
          refine lv_sipush (v := 360) hx hb dX7_laysRing_106 (by decide) ?_
          refine xt_irem hx hb dX7_laysRing_109 (by decide) ?_
          obtain ⟨g4, hf⟩ := gd_some hf
          refine xt_iald hx hb hK hP 2 (by decide) 0 (LX7_owner ad cy _) rfl g4 dX7_laysRing_110 ?_
          refine lv_bipush (v := 8) hx hb dX7_laysRing_111 (by decide) ?_
          refine xt_irem hx hb dX7_laysRing_113 (by decide) ?_
          refine lv_topi (fun v5 ev5 => ?_)
          have hf := nm_to hf ev5
          refine lv_istore_n (lv' := [(1, .int v5), (0, .ref (ad 0)), (2, .int x2)]) hx hb dX7_laysRing_114 rfl hl (by decide) rfl (fun ls hl => ?_)
          refine lv_aload_n hx hb dX7_laysRing_115 rfl (lv_at hl 1 rfl) ?_
          refine xt_get (ci := 7) (C := RX7) (T := TX7) (n := 25) (v := .ref (ad 3)) hx hb hts iX7_laysRing_X7 hown hK hP 0 (by decide) (LX7_obj ad cy _) rfl 6 (by decide) w3 rfl dX7_laysRing_116 ?_
          refine lv_iload_n hx hb dX7_laysRing_119 rfl (lv_at hl 2 rfl) ?_
          refine lv_sipush (v := 360) hx hb dX7_laysRing_120 (by decide) ?_
          refine xt_irem hx hb dX7_laysRing_123 (by decide) ?_
          refine lv_iload_n hx hb dX7_laysRing_124 rfl (lv_at hl 0 rfl) ?_
          obtain ⟨g6, hf⟩ := gd_some hf
          refine xt_iast hx hb hK hP hJ hS 3 (by decide) 0 (LX7_homes ad cy) rfl g6 dX7_laysRing_125 (fun H locs hP hS => ?_)
          obtain ⟨σ7, eσ7⟩ : ∃ z : St, z = su σ 3 (jrem x2 360).toNatClampNeg v5 := ⟨_, rfl⟩
          rw [← eσ7] at hP
          have hf := nm_to hf eσ7
          obtain ⟨v8, ev8⟩ : ∃ y : Int32, y = x2 + (-1) := ⟨_, rfl⟩
          have hf := nm_to hf ev8
          refine lv_iinc (v := v8) (lv' := [(2, .int v8), (1, .int v5), (0, .ref (ad 0))]) hx hb dX7_laysRing_126 hl (k := 2) rfl (by rw [ev8]; rfl) (by decide) rfl (fun ls hl => ?_)
          refine lv_goto (tgt := 79) hx hb dX7_laysRing_129 (by decide) ?_
          exact ih79 σ7 v5 v8 hf H locs hP hS ls (lv_sub hl [2, 1, 0] rfl)
        · have hf := (if_pos c3).symm.trans hf
          refine lv_iload_n hx hb dX7_laysRing_97 rfl (lv_at hl 1 rfl) ?_
          refine lv_goto (tgt := 114) hx hb dX7_laysRing_98 (by decide) ?_
          refine lv_istore_n (lv' := [(1, .int x1), (0, .ref (ad 0)), (2, .int x2)]) hx hb dX7_laysRing_114 rfl hl (by decide) rfl (fun ls hl => ?_)
          refine lv_aload_n hx hb dX7_laysRing_115 rfl (lv_at hl 1 rfl) ?_
          refine xt_get (ci := 7) (C := RX7) (T := TX7) (n := 25) (v := .ref (ad 3)) hx hb hts iX7_laysRing_X7 hown hK hP 0 (by decide) (LX7_obj ad cy _) rfl 6 (by decide) w3 rfl dX7_laysRing_116 ?_
          refine lv_iload_n hx hb dX7_laysRing_119 rfl (lv_at hl 2 rfl) ?_
          refine lv_sipush (v := 360) hx hb dX7_laysRing_120 (by decide) ?_
          refine xt_irem hx hb dX7_laysRing_123 (by decide) ?_
          refine lv_iload_n hx hb dX7_laysRing_124 rfl (lv_at hl 0 rfl) ?_
          obtain ⟨g9, hf⟩ := gd_some hf
          refine xt_iast hx hb hK hP hJ hS 3 (by decide) 0 (LX7_homes ad cy) rfl g9 dX7_laysRing_125 (fun H locs hP hS => ?_)
          obtain ⟨σ10, eσ10⟩ : ∃ z : St, z = su σ 3 (jrem x2 360).toNatClampNeg x1 := ⟨_, rfl⟩
          rw [← eσ10] at hP
          have hf := nm_to hf eσ10
          obtain ⟨v11, ev11⟩ : ∃ y : Int32, y = x2 + (-1) := ⟨_, rfl⟩
          have hf := nm_to hf ev11
          refine lv_iinc (v := v11) (lv' := [(2, .int v11), (1, .int x1), (0, .ref (ad 0))]) hx hb dX7_laysRing_126 hl (k := 2) rfl (by rw [ev11]; rfl) (by decide) rfl (fun ls hl => ?_)
          refine lv_goto (tgt := 79) hx hb dX7_laysRing_129 (by decide) ?_
          exact ih79 σ10 x1 v11 hf H locs hP hS ls (lv_sub hl [2, 1, 0] rfl)
  have kB73 : ∀ (σ : St), fX7_laysRing_B73 σ = some res → ∀ (H : Heap) (locs : List Loc), va_P (dC, dI) vwCl (wd 16 ad (layM ad cy) σ) H → va_S (WA 16 ad) s.heap H locs → ∀ (ls : Array Slot), lv_has ls 3 [(0, .ref (ad 0))] → W p l e rmX7_laysRing s m args below meth c H locs 0 0 (MQ below (Qvw (dC, dI) 16 ad (layM ad cy) res) args s 0 0 (WA 16 ad)) (F0 m 73 ls []) := by
    intro σ hf H locs hP hS ls hl
    unfold fX7_laysRing_B73 at hf
    refine lv_iconst (v := (-1)) hx hb dX7_laysRing_73 (by decide) ?_
    refine lv_istore_n (lv' := [(1, .int (-1)), (0, .ref (ad 0))]) hx hb dX7_laysRing_74 rfl hl (by decide) rfl (fun ls hl => ?_)
    refine lv_sipush (v := 719) hx hb dX7_laysRing_75 (by decide) ?_
    refine lv_istore_n (lv' := [(2, .int 719), (1, .int (-1)), (0, .ref (ad 0))]) hx hb dX7_laysRing_78 rfl hl (by decide) rfl (fun ls hl => ?_)
    exact loop79 1000 σ (-1) 719 hf H locs hP hS ls (lv_sub hl [2, 1, 0] rfl)
  have loop24 : ∀ (n24 : Nat) (σ : St) (x1 : Int32), fX7_laysRing_L24 (fun σ => fX7_laysRing_B73 σ) n24 σ x1 = some res → ∀ (H : Heap) (locs : List Loc), va_P (dC, dI) vwCl (wd 16 ad (layM ad cy) σ) H → va_S (WA 16 ad) s.heap H locs → ∀ (ls : Array Slot), lv_has ls 3 [(0, .ref (ad 0)), (1, .int x1)] → W p l e rmX7_laysRing s m args below meth c H locs 0 0 (MQ below (Qvw (dC, dI) 16 ad (layM ad cy) res) args s 0 0 (WA 16 ad)) (F0 m 24 ls []) := by
    intro n24
    induction n24 with
    | zero => intro σ x1 hf; simp [fX7_laysRing_L24] at hf
    | succ n24 ih24 =>
      intro σ x1 hf H locs hP hS ls hl
      rw [fX7_laysRing_L24] at hf
      have kB67 : ∀ (σ : St) (x1 : Int32), fX7_laysRing_B67 (fX7_laysRing_L24 (fun σ => fX7_laysRing_B73 σ) n24) (fun σ => fX7_laysRing_B73 σ) σ x1 = some res → ∀ (H : Heap) (locs : List Loc), va_P (dC, dI) vwCl (wd 16 ad (layM ad cy) σ) H → va_S (WA 16 ad) s.heap H locs → ∀ (ls : Array Slot), lv_has ls 3 [(0, .ref (ad 0)), (1, .int x1)] → W p l e rmX7_laysRing s m args below meth c H locs 0 0 (MQ below (Qvw (dC, dI) 16 ad (layM ad cy) res) args s 0 0 (WA 16 ad)) (F0 m 67 ls []) := by
        intro σ x1 hf H locs hP hS ls hl
        unfold fX7_laysRing_B67 at hf
        obtain ⟨v12, ev12⟩ : ∃ y : Int32, y = x1 + 1 := ⟨_, rfl⟩
        have hf := nm_to hf ev12
        refine lv_iinc (v := v12) (lv' := [(1, .int v12), (0, .ref (ad 0))]) hx hb dX7_laysRing_67 hl (k := 1) rfl (by rw [ev12]; rfl) (by decide) rfl (fun ls hl => ?_)
        refine lv_goto (tgt := 24) hx hb dX7_laysRing_70 (by decide) ?_
        exact ih24 σ v12 hf H locs hP hS ls (lv_sub hl [1, 0] rfl)
      have loop36 : ∀ (x1 : Int32) (n36 : Nat) (σ : St) (x2 : Int32), fX7_laysRing_L36 x1 (fun σ => fX7_laysRing_B67 (fX7_laysRing_L24 (fun σ => fX7_laysRing_B73 σ) n24) (fun σ => fX7_laysRing_B73 σ) σ x1) n36 σ x2 = some res → ∀ (H : Heap) (locs : List Loc), va_P (dC, dI) vwCl (wd 16 ad (layM ad cy) σ) H → va_S (WA 16 ad) s.heap H locs → ∀ (ls : Array Slot), lv_has ls 3 [(0, .ref (ad 0)), (1, .int x1), (2, .int x2)] → W p l e rmX7_laysRing s m args below meth c H locs 0 0 (MQ below (Qvw (dC, dI) 16 ad (layM ad cy) res) args s 0 0 (WA 16 ad)) (F0 m 36 ls []) := by
        intro x1 n36
        induction n36 with
        | zero => intro σ x2 hf; simp [fX7_laysRing_L36] at hf
        | succ n36 ih36 =>
          intro σ x2 hf H locs hP hS ls hl
          rw [fX7_laysRing_L36] at hf
          refine lv_iload_n hx hb dX7_laysRing_36 rfl (lv_at hl 2 rfl) ?_
          refine lv_aload_n hx hb dX7_laysRing_37 rfl (lv_at hl 0 rfl) ?_
          refine lv_iload_n hx hb dX7_laysRing_38 rfl (lv_at hl 1 rfl) ?_
          obtain ⟨r13, qr13, hf⟩ := bd_some hf
          refine xt_callVi (As := [.int x1]) (rest := [.int x2]) (C := RX7) (ci := 7) ⟨hx, hb, hml, hown, hts⟩ 0 (mX7_points l dC dI ad cy hJ σ x1 r13 qr13) (cwV 1 hts gX7_laysRing_X7_points rfl rfl rfl dmX7_points ⟨Nat.le_of_ble_eq_true rfl, Nat.le_of_ble_eq_true rfl⟩) hK hP hS (by decide) (LX7_obj ad cy _) rfl rfl rfl hl.1 (Nat.le_of_ble_eq_true rfl) ⟨Nat.zero_le _, Nat.zero_le _⟩ dX7_laysRing_39 (fun H locs hP hS => ?_)
          refine lv_icmp_ge (tgt := 67) hx hb dX7_laysRing_42 (by decide) (fun c14 => ?_) (fun c14 => ?_)
          · have hf := (if_pos c14).symm.trans hf
            exact kB67 σ x1 hf H locs hP hS ls (lv_sub hl [0, 1] rfl)
          · have hf := (if_neg c14).symm.trans hf
            refine lv_aload_n hx hb dX7_laysRing_45 rfl (lv_at hl 0 rfl) ?_
            refine xt_get (ci := 7) (C := RX7) (T := TX7) (n := 25) (v := .ref (ad 2)) hx hb hts iX7_laysRing_X7 hown hK hP 0 (by decide) (LX7_obj ad cy _) rfl 5 (by decide) w1 rfl dX7_laysRing_46 ?_
            refine lv_iload_n hx hb dX7_laysRing_49 rfl (lv_at hl 1 rfl) ?_
            refine lv_iload_n hx hb dX7_laysRing_50 rfl (lv_at hl 2 rfl) ?_
            obtain ⟨r15, qr15, hf⟩ := bd_some hf
            refine xt_callSi (As := [.int x1, .int x2]) (rest := [.ref (ad 2)]) ⟨hx, hb, hml, hown, hts⟩ (mX7_pointOf l dC dI ad cy hJ σ x1 x2 r15 qr15) (va_cwS 2 hts gX7_laysRing_X7_pointOf rfl rfl rfl dmX7_pointOf ⟨Nat.le_of_ble_eq_true rfl, Nat.le_of_ble_eq_true rfl⟩) hK hP hS rfl rfl hl.1 (Nat.le_of_ble_eq_true rfl) ⟨Nat.zero_le _, Nat.zero_le _⟩ dX7_laysRing_51 (fun H locs hP hS => ?_)
            refine lv_bipush (v := 8) hx hb dX7_laysRing_54 (by decide) ?_
            refine lv_iload_n hx hb dX7_laysRing_56 rfl (lv_at hl 2 rfl) ?_
            refine lv_imul hx hb dX7_laysRing_57 ?_
            refine lv_iload_n hx hb dX7_laysRing_58 rfl (lv_at hl 1 rfl) ?_
            refine lv_iadd hx hb dX7_laysRing_59 ?_
            obtain ⟨g16, hf⟩ := gd_some hf
            refine xt_iast hx hb hK hP hJ hS 2 (by decide) 0 (LX7_owner ad cy) rfl g16 dX7_laysRing_60 (fun H locs hP hS => ?_)
            obtain ⟨σ17, eσ17⟩ : ∃ z : St, z = su σ 2 r15.toNatClampNeg ((8 * x2) + x1) := ⟨_, rfl⟩
            rw [← eσ17] at hP
            have hf := nm_to hf eσ17
            obtain ⟨v18, ev18⟩ : ∃ y : Int32, y = x2 + 1 := ⟨_, rfl⟩
            have hf := nm_to hf ev18
            refine lv_iinc (v := v18) (lv' := [(2, .int v18), (0, .ref (ad 0)), (1, .int x1)]) hx hb dX7_laysRing_61 hl (k := 2) rfl (by rw [ev18]; rfl) (by decide) rfl (fun ls hl => ?_)
            refine lv_goto (tgt := 36) hx hb dX7_laysRing_64 (by decide) ?_
            exact ih36 σ17 v18 hf H locs hP hS ls (lv_sub hl [1, 2, 0] rfl)
      refine lv_iload_n hx hb dX7_laysRing_24 rfl (lv_at hl 1 rfl) ?_
      refine lv_aload_n hx hb dX7_laysRing_25 rfl (lv_at hl 0 rfl) ?_
      refine xt_get (ci := 7) (C := RX7) (T := TX7) (n := 25) (v := .ref (ad 1)) hx hb hts iX7_laysRing_X7 hown hK hP 0 (by decide) (LX7_obj ad cy _) rfl 0 (by decide) w2 rfl dX7_laysRing_26 ?_
      refine lv_iconst (v := 0) hx hb dX7_laysRing_29 (by decide) ?_
      refine xt_iald hx hb hK hP 1 (by decide) 0 (LX7_all ad cy _) rfl (by decide) dX7_laysRing_30 ?_
      refine lv_icmp_ge (tgt := 73) hx hb dX7_laysRing_31 (by decide) (fun c19 => ?_) (fun c19 => ?_)
      · have hf := (if_pos c19).symm.trans hf
        exact kB73 σ hf H locs hP hS ls (lv_sub hl [0] rfl)
      · have hf := (if_neg c19).symm.trans hf
        refine lv_iconst (v := 0) hx hb dX7_laysRing_34 (by decide) ?_
        refine lv_istore_n (lv' := [(2, .int 0), (0, .ref (ad 0)), (1, .int x1)]) hx hb dX7_laysRing_35 rfl hl (by decide) rfl (fun ls hl => ?_)
        exact loop36 x1 1000 σ 0 hf H locs hP hS ls (lv_sub hl [1, 2, 0] rfl)
  have kB22 : ∀ (σ : St), fX7_laysRing_B22 σ = some res → ∀ (H : Heap) (locs : List Loc), va_P (dC, dI) vwCl (wd 16 ad (layM ad cy) σ) H → va_S (WA 16 ad) s.heap H locs → ∀ (ls : Array Slot), lv_has ls 3 [(0, .ref (ad 0))] → W p l e rmX7_laysRing s m args below meth c H locs 0 0 (MQ below (Qvw (dC, dI) 16 ad (layM ad cy) res) args s 0 0 (WA 16 ad)) (F0 m 22 ls []) := by
    intro σ hf H locs hP hS ls hl
    unfold fX7_laysRing_B22 at hf
    refine lv_iconst (v := 0) hx hb dX7_laysRing_22 (by decide) ?_
    refine lv_istore_n (lv' := [(1, .int 0), (0, .ref (ad 0))]) hx hb dX7_laysRing_23 rfl hl (by decide) rfl (fun ls hl => ?_)
    exact loop24 1000 σ 0 hf H locs hP hS ls (lv_sub hl [1, 0] rfl)
  have loop2 : ∀ (n2 : Nat) (σ : St) (x1 : Int32), fX7_laysRing_L2 (fun σ => fX7_laysRing_B22 σ) n2 σ x1 = some res → ∀ (H : Heap) (locs : List Loc), va_P (dC, dI) vwCl (wd 16 ad (layM ad cy) σ) H → va_S (WA 16 ad) s.heap H locs → ∀ (ls : Array Slot), lv_has ls 3 [(0, .ref (ad 0)), (1, .int x1)] → W p l e rmX7_laysRing s m args below meth c H locs 0 0 (MQ below (Qvw (dC, dI) 16 ad (layM ad cy) res) args s 0 0 (WA 16 ad)) (F0 m 2 ls []) := by
    intro n2
    induction n2 with
    | zero => intro σ x1 hf; simp [fX7_laysRing_L2] at hf
    | succ n2 ih2 =>
      intro σ x1 hf H locs hP hS ls hl
      rw [fX7_laysRing_L2] at hf
      refine lv_iload_n hx hb dX7_laysRing_2 rfl (lv_at hl 1 rfl) ?_
      refine lv_sipush (v := 360) hx hb dX7_laysRing_3 (by decide) ?_
      refine lv_icmp_ge (tgt := 22) hx hb dX7_laysRing_6 (by decide) (fun c20 => ?_) (fun c20 => ?_)
      · have hf := (if_pos c20).symm.trans hf
        exact kB22 σ hf H locs hP hS ls (lv_sub hl [0] rfl)
      · have hf := (if_neg c20).symm.trans hf
        refine lv_aload_n hx hb dX7_laysRing_9 rfl (lv_at hl 0 rfl) ?_
        refine xt_get (ci := 7) (C := RX7) (T := TX7) (n := 25) (v := .ref (ad 2)) hx hb hts iX7_laysRing_X7 hown hK hP 0 (by decide) (LX7_obj ad cy _) rfl 5 (by decide) w1 rfl dX7_laysRing_10 ?_
        refine lv_iload_n hx hb dX7_laysRing_13 rfl (lv_at hl 1 rfl) ?_
        refine lv_iconst (v := (-1)) hx hb dX7_laysRing_14 (by decide) ?_
        obtain ⟨g21, hf⟩ := gd_some hf
        refine xt_iast hx hb hK hP hJ hS 2 (by decide) 0 (LX7_owner ad cy) rfl g21 dX7_laysRing_15 (fun H locs hP hS => ?_)
        obtain ⟨σ22, eσ22⟩ : ∃ z : St, z = su σ 2 x1.toNatClampNeg (-1) := ⟨_, rfl⟩
        rw [← eσ22] at hP
        have hf := nm_to hf eσ22
        obtain ⟨v23, ev23⟩ : ∃ y : Int32, y = x1 + 1 := ⟨_, rfl⟩
        have hf := nm_to hf ev23
        refine lv_iinc (v := v23) (lv' := [(1, .int v23), (0, .ref (ad 0))]) hx hb dX7_laysRing_16 hl (k := 1) rfl (by rw [ev23]; rfl) (by decide) rfl (fun ls hl => ?_)
        refine lv_goto (tgt := 2) hx hb dX7_laysRing_19 (by decide) ?_
        exact ih2 σ22 v23 hf H locs hP hS ls (lv_sub hl [1, 0] rfl)
  unfold fX7_laysRing at hf
  obtain ⟨H, eH⟩ : ∃ H : Heap, H = s.heap := ⟨_, rfl⟩
  rw [← eH] at hP
  have hS : va_S (WA 16 ad) s.heap H [] := by rw [eH]; exact hS
  suffices K : W p l e rmX7_laysRing s m args below meth c H [] 0 0 (MQ below (Qvw (dC, dI) 16 ad (layM ad cy) res) args s 0 0 (WA 16 ad)) (F0 m 0 ls []) by rw [eH] at K; exact K
  clear eH
  obtain ⟨locs, elocs⟩ : ∃ z : List Loc, z = [] := ⟨_, rfl⟩
  rw [← elocs] at hS ⊢
  refine lv_iconst (v := 0) hx hb dX7_laysRing_0 (by decide) ?_
  refine lv_istore_n (lv' := [(1, .int 0), (0, .ref (ad 0))]) hx hb dX7_laysRing_1 rfl hl (by decide) rfl (fun ls hl => ?_)
  exact loop2 1000 σ 0 hf H locs hP hS ls (lv_sub hl [1, 0] rfl)
def fX7_homeAt (σ : St) (a1 : Int32) : Option Int32 :=
  bd (fX7_b σ a1 0) fun r1 => bd (fX7_placeOf σ r1) fun r2 => gd (okI r2 360) <| some (σ 3 r2.toNatClampNeg)
abbrev rmX7_homeAt : Room := { frames := 1, cells := 0, slots := 0, locals := 22 }
theorem dmX7_homeAt : yX7_homeAt.cls = RX7 ∧ yX7_homeAt.cls ≠ "java/lang/invoke/MethodHandle" ∧ yX7_homeAt.cls ≠ "java/lang/invoke/VarHandle" ∧ (parseMethodDescriptor yX7_homeAt.desc).map (fun d => d.parameters.length) = some 1 := by decide +kernel
theorem iX7_homeAt_X7 : ∀ w ∈ wsX70, w ∈ wsX7_homeAt := fun w h => List.mem_cons_of_mem _ (List.mem_append_right _ (h))
set_option maxHeartbeats 8000000 in
set_option maxRecDepth 100000 in
theorem mX7_homeAt (l : Launch) (dC : Nat → ClassId) (dI : Nat → Nat → Nat) (ad : Nat → Nat) (cy : Nat → ClassId) (hJ : WJ 16 ad) (σ : St) (a1 : Int32) (res : Int32) (hf : fX7_homeAt σ a1 = some res) : CMi l yX7_homeAt wsX7_homeAt rmX7_homeAt (dC, dI) (tysX cy) 16 ad (layM ad cy) [.ref (ad 0), .int a1] σ res σ := by
  refine Met.ofW (cc := cX7_homeAt) (maxL := 2) (ret := (some .int)) (by decide) rfl ?_
  intro p e s m args below meth c s₁ B hml hv
  obtain ⟨hargs, hP, hK⟩ := hv
  have hx := B.exec
  have hb := B.bytes
  have hr := B.returns
  have hts := atoms_spec (ws := wsX7_homeAt) B.pre
  have hown : s.vm.findClass RX7 = some m.cls := findClass_of_methodNamed B.named
  have hlocks := B.notSynchronized
  have w1 := hts (.fieldLink RX7 16 "PierRingsModel" "homes" "[I") (List.mem_of_getElem? (i := 1) rfl)
  have hS : va_S (WA 16 ad) s.heap s.heap [] := va_S.rf
  have hfr : entryFrame m args 2 = F0 m 0 ((lg_sl [.ref (ad 0), .int a1] ++ List.replicate (2 - (lg_sl [.ref (ad 0), .int a1]).length) Slot.unset).toArray) [] := by rw [hargs]; exact lg_entry_eq _ _ _
  rw [hfr]
  have hl := lv_entry ([.ref (ad 0), .int a1]) (n := 2) (Nat.le_of_ble_eq_true rfl)
  generalize (lg_sl [.ref (ad 0), .int a1] ++ List.replicate (2 - (lg_sl [.ref (ad 0), .int a1]).length) Slot.unset).toArray = ls at hl ⊢
  have hl : lv_has ls 2 [(0, .ref (ad 0)), (1, .int a1)] := hl
  clear hfr hargs B
  show W p l e rmX7_homeAt s m args below meth c s.heap [] 0 0 (MQ below (Qiw (dC, dI) 16 ad (layM ad cy) res σ) args s 0 0 (WA 16 ad)) (F0 m 0 ls [])
  unfold fX7_homeAt at hf
  obtain ⟨H, eH⟩ : ∃ H : Heap, H = s.heap := ⟨_, rfl⟩
  rw [← eH] at hP
  have hS : va_S (WA 16 ad) s.heap H [] := by rw [eH]; exact hS
  suffices K : W p l e rmX7_homeAt s m args below meth c H [] 0 0 (MQ below (Qiw (dC, dI) 16 ad (layM ad cy) res σ) args s 0 0 (WA 16 ad)) (F0 m 0 ls []) by rw [eH] at K; exact K
  clear eH
  obtain ⟨locs, elocs⟩ : ∃ z : List Loc, z = [] := ⟨_, rfl⟩
  rw [← elocs] at hS ⊢
  refine lv_aload_n hx hb dX7_homeAt_0 rfl (lv_at hl 0 rfl) ?_
  refine xt_get (ci := 7) (C := RX7) (T := TX7) (n := 25) (v := .ref (ad 3)) hx hb hts iX7_homeAt_X7 hown hK hP 0 (by decide) (LX7_obj ad cy _) rfl 6 (by decide) w1 rfl dX7_homeAt_1 ?_
  refine lv_aload_n hx hb dX7_homeAt_4 rfl (lv_at hl 0 rfl) ?_
  refine lv_iload_n hx hb dX7_homeAt_5 rfl (lv_at hl 1 rfl) ?_
  refine lv_iconst (v := 0) hx hb dX7_homeAt_6 (by decide) ?_
  obtain ⟨r1, qr1, hf⟩ := bd_some hf
  refine xt_callVi (As := [.int a1, .int 0]) (rest := [.ref (ad 3)]) (C := RX7) (ci := 7) ⟨hx, hb, hml, hown, hts⟩ 0 (mX7_b l dC dI ad cy hJ σ a1 0 r1 qr1) (cwV 2 hts gX7_homeAt_X7_b rfl rfl rfl dmX7_b ⟨Nat.le_of_ble_eq_true rfl, Nat.le_of_ble_eq_true rfl⟩) hK hP hS (by decide) (LX7_obj ad cy _) rfl rfl rfl hl.1 (Nat.le_of_ble_eq_true rfl) ⟨Nat.zero_le _, Nat.zero_le _⟩ dX7_homeAt_7 (fun H locs hP hS => ?_)
  obtain ⟨r2, qr2, hf⟩ := bd_some hf
  refine xt_callSi (As := [.int r1]) (rest := [.ref (ad 3)]) ⟨hx, hb, hml, hown, hts⟩ (mX7_placeOf l dC dI ad cy hJ σ r1 r2 qr2) (va_cwS 1 hts gX7_homeAt_X7_placeOf rfl rfl rfl dmX7_placeOf ⟨Nat.le_of_ble_eq_true rfl, Nat.le_of_ble_eq_true rfl⟩) hK hP hS rfl rfl hl.1 (Nat.le_of_ble_eq_true rfl) ⟨Nat.zero_le _, Nat.zero_le _⟩ dX7_homeAt_10 (fun H locs hP hS => ?_)
  obtain ⟨g3, hf⟩ := gd_some hf
  refine xt_iald hx hb hK hP 3 (by decide) 0 (LX7_homes ad cy _) rfl g3 dX7_homeAt_13 ?_
  exact xt_iret hx hb hr hP hS (Option.some.inj hf) rfl dX7_homeAt_14 hlocks
def fX7_looksAtHomes_B33 (σ : St) : Option St :=
  some σ
def fX7_looksAtHomes_L6 (K6_33 : St → Option St) : Nat → St → Int32 → Option St
  | 0, _, _ => none
  | n6 + 1, σ, x1 => if (σ 1 (1 : Int32).toNatClampNeg) ≤ x1 then (K6_33 σ) else (bd (fX7_homeAt σ x1) fun r2 => gd (okI x1 24) <| nm (su σ 4 x1.toNatClampNeg r2) fun σ4 => nm (x1 + 1) fun v5 => (fX7_looksAtHomes_L6 K6_33 n6) σ4 v5)
def fX7_looksAtHomes (σ : St) : Option St :=
  bd (fX7_laysRing σ) fun r6 => fX7_looksAtHomes_L6 (fun σ => fX7_looksAtHomes_B33 σ) 1000 r6 0
abbrev rmX7_looksAtHomes : Room := { frames := 4, cells := 0, slots := 0, locals := 86 }
theorem dmX7_looksAtHomes : yX7_looksAtHomes.cls = RX7 ∧ yX7_looksAtHomes.cls ≠ "java/lang/invoke/MethodHandle" ∧ yX7_looksAtHomes.cls ≠ "java/lang/invoke/VarHandle" ∧ (parseMethodDescriptor yX7_looksAtHomes.desc).map (fun d => d.parameters.length) = some 0 := by decide +kernel
theorem iX7_looksAtHomes_X7 : ∀ w ∈ wsX70, w ∈ wsX7_looksAtHomes := fun w h => List.mem_cons_of_mem _ (List.mem_append_right _ (h))
set_option maxHeartbeats 8000000 in
set_option maxRecDepth 100000 in
theorem mX7_looksAtHomes (l : Launch) (dC : Nat → ClassId) (dI : Nat → Nat → Nat) (ad : Nat → Nat) (cy : Nat → ClassId) (hJ : WJ 16 ad) (σ : St) (res : St) (hf : fX7_looksAtHomes σ = some res) : CMv l yX7_looksAtHomes wsX7_looksAtHomes rmX7_looksAtHomes (dC, dI) (tysX cy) 16 ad (layM ad cy) [.ref (ad 0)] σ res := by
  refine Met.ofW (cc := cX7_looksAtHomes) (maxL := 2) (ret := none) (by decide) rfl ?_
  intro p e s m args below meth c s₁ B hml hv
  obtain ⟨hargs, hP, hK⟩ := hv
  have hx := B.exec
  have hb := B.bytes
  have hr := B.returns
  have hts := atoms_spec (ws := wsX7_looksAtHomes) B.pre
  have hown : s.vm.findClass RX7 = some m.cls := findClass_of_methodNamed B.named
  have hlocks := B.notSynchronized
  have w1 := hts (.fieldLink RX7 9 "PierRingsModel" "all" "[I") (List.mem_of_getElem? (i := 1) rfl)
  have w2 := hts (.fieldLink RX7 19 "PierRingsModel" "before" "[I") (List.mem_of_getElem? (i := 2) rfl)
  have hS : va_S (WA 16 ad) s.heap s.heap [] := va_S.rf
  have hfr : entryFrame m args 2 = F0 m 0 ((lg_sl [.ref (ad 0)] ++ List.replicate (2 - (lg_sl [.ref (ad 0)]).length) Slot.unset).toArray) [] := by rw [hargs]; exact lg_entry_eq _ _ _
  rw [hfr]
  have hl := lv_entry ([.ref (ad 0)]) (n := 2) (Nat.le_of_ble_eq_true rfl)
  generalize (lg_sl [.ref (ad 0)] ++ List.replicate (2 - (lg_sl [.ref (ad 0)]).length) Slot.unset).toArray = ls at hl ⊢
  have hl : lv_has ls 2 [(0, .ref (ad 0))] := hl
  clear hfr hargs B
  show W p l e rmX7_looksAtHomes s m args below meth c s.heap [] 0 0 (MQ below (Qvw (dC, dI) 16 ad (layM ad cy) res) args s 0 0 (WA 16 ad)) (F0 m 0 ls [])
  have kB33 : ∀ (σ : St), fX7_looksAtHomes_B33 σ = some res → ∀ (H : Heap) (locs : List Loc), va_P (dC, dI) vwCl (wd 16 ad (layM ad cy) σ) H → va_S (WA 16 ad) s.heap H locs → ∀ (ls : Array Slot), lv_has ls 2 [] → W p l e rmX7_looksAtHomes s m args below meth c H locs 0 0 (MQ below (Qvw (dC, dI) 16 ad (layM ad cy) res) args s 0 0 (WA 16 ad)) (F0 m 33 ls []) := by
    intro σ hf H locs hP hS ls hl
    unfold fX7_looksAtHomes_B33 at hf
    exact xt_vret hx hb hr hP hS (Option.some.inj hf) dX7_looksAtHomes_33 hlocks
  have loop6 : ∀ (n6 : Nat) (σ : St) (x1 : Int32), fX7_looksAtHomes_L6 (fun σ => fX7_looksAtHomes_B33 σ) n6 σ x1 = some res → ∀ (H : Heap) (locs : List Loc), va_P (dC, dI) vwCl (wd 16 ad (layM ad cy) σ) H → va_S (WA 16 ad) s.heap H locs → ∀ (ls : Array Slot), lv_has ls 2 [(0, .ref (ad 0)), (1, .int x1)] → W p l e rmX7_looksAtHomes s m args below meth c H locs 0 0 (MQ below (Qvw (dC, dI) 16 ad (layM ad cy) res) args s 0 0 (WA 16 ad)) (F0 m 6 ls []) := by
    intro n6
    induction n6 with
    | zero => intro σ x1 hf; simp [fX7_looksAtHomes_L6] at hf
    | succ n6 ih6 =>
      intro σ x1 hf H locs hP hS ls hl
      rw [fX7_looksAtHomes_L6] at hf
      refine lv_iload_n hx hb dX7_looksAtHomes_6 rfl (lv_at hl 1 rfl) ?_
      refine lv_aload_n hx hb dX7_looksAtHomes_7 rfl (lv_at hl 0 rfl) ?_
      refine xt_get (ci := 7) (C := RX7) (T := TX7) (n := 25) (v := .ref (ad 1)) hx hb hts iX7_looksAtHomes_X7 hown hK hP 0 (by decide) (LX7_obj ad cy _) rfl 0 (by decide) w1 rfl dX7_looksAtHomes_8 ?_
      refine lv_iconst (v := 1) hx hb dX7_looksAtHomes_11 (by decide) ?_
      refine xt_iald hx hb hK hP 1 (by decide) 0 (LX7_all ad cy _) rfl (by decide) dX7_looksAtHomes_12 ?_
      refine lv_icmp_ge (tgt := 33) hx hb dX7_looksAtHomes_13 (by decide) (fun c1 => ?_) (fun c1 => ?_)
      · have hf := (if_pos c1).symm.trans hf
        exact kB33 σ hf H locs hP hS ls (lv_sub hl [] rfl)
      · have hf := (if_neg c1).symm.trans hf
        refine lv_aload_n hx hb dX7_looksAtHomes_16 rfl (lv_at hl 0 rfl) ?_
        refine xt_get (ci := 7) (C := RX7) (T := TX7) (n := 25) (v := .ref (ad 4)) hx hb hts iX7_looksAtHomes_X7 hown hK hP 0 (by decide) (LX7_obj ad cy _) rfl 7 (by decide) w2 rfl dX7_looksAtHomes_17 ?_
        refine lv_iload_n hx hb dX7_looksAtHomes_20 rfl (lv_at hl 1 rfl) ?_
        refine lv_aload_n hx hb dX7_looksAtHomes_21 rfl (lv_at hl 0 rfl) ?_
        refine lv_iload_n hx hb dX7_looksAtHomes_22 rfl (lv_at hl 1 rfl) ?_
        obtain ⟨r2, qr2, hf⟩ := bd_some hf
        refine xt_callVi (As := [.int x1]) (rest := [.int x1, .ref (ad 4)]) (C := RX7) (ci := 7) ⟨hx, hb, hml, hown, hts⟩ 0 (mX7_homeAt l dC dI ad cy hJ σ x1 r2 qr2) (cwV 1 hts gX7_looksAtHomes_X7_homeAt rfl rfl rfl dmX7_homeAt ⟨Nat.le_of_ble_eq_true rfl, Nat.le_of_ble_eq_true rfl⟩) hK hP hS (by decide) (LX7_obj ad cy _) rfl rfl rfl hl.1 (Nat.le_of_ble_eq_true rfl) ⟨Nat.zero_le _, Nat.zero_le _⟩ dX7_looksAtHomes_23 (fun H locs hP hS => ?_)
        obtain ⟨g3, hf⟩ := gd_some hf
        refine xt_iast hx hb hK hP hJ hS 4 (by decide) 0 (LX7_before ad cy) rfl g3 dX7_looksAtHomes_26 (fun H locs hP hS => ?_)
        obtain ⟨σ4, eσ4⟩ : ∃ z : St, z = su σ 4 x1.toNatClampNeg r2 := ⟨_, rfl⟩
        rw [← eσ4] at hP
        have hf := nm_to hf eσ4
        obtain ⟨v5, ev5⟩ : ∃ y : Int32, y = x1 + 1 := ⟨_, rfl⟩
        have hf := nm_to hf ev5
        refine lv_iinc (v := v5) (lv' := [(1, .int v5), (0, .ref (ad 0))]) hx hb dX7_looksAtHomes_27 hl (k := 1) rfl (by rw [ev5]; rfl) (by decide) rfl (fun ls hl => ?_)
        refine lv_goto (tgt := 6) hx hb dX7_looksAtHomes_30 (by decide) ?_
        exact ih6 σ4 v5 hf H locs hP hS ls (lv_sub hl [1, 0] rfl)
  unfold fX7_looksAtHomes at hf
  obtain ⟨H, eH⟩ : ∃ H : Heap, H = s.heap := ⟨_, rfl⟩
  rw [← eH] at hP
  have hS : va_S (WA 16 ad) s.heap H [] := by rw [eH]; exact hS
  suffices K : W p l e rmX7_looksAtHomes s m args below meth c H [] 0 0 (MQ below (Qvw (dC, dI) 16 ad (layM ad cy) res) args s 0 0 (WA 16 ad)) (F0 m 0 ls []) by rw [eH] at K; exact K
  clear eH
  obtain ⟨locs, elocs⟩ : ∃ z : List Loc, z = [] := ⟨_, rfl⟩
  rw [← elocs] at hS ⊢
  refine lv_aload_n hx hb dX7_looksAtHomes_0 rfl (lv_at hl 0 rfl) ?_
  obtain ⟨r6, qr6, hf⟩ := bd_some hf
  refine xt_callVv (As := []) (rest := []) (C := RX7) (ci := 7) ⟨hx, hb, hml, hown, hts⟩ 0 (mX7_laysRing l dC dI ad cy hJ σ r6 qr6) (cwV 0 hts gX7_looksAtHomes_X7_laysRing rfl rfl rfl dmX7_laysRing ⟨Nat.le_of_ble_eq_true rfl, Nat.le_of_ble_eq_true rfl⟩) hK hP hS (by decide) (LX7_obj ad cy _) rfl rfl rfl hl.1 (Nat.le_of_ble_eq_true rfl) ⟨Nat.zero_le _, Nat.zero_le _⟩ dX7_looksAtHomes_1 (fun H locs hP hS => ?_)
  refine lv_iconst (v := 0) hx hb dX7_looksAtHomes_4 (by decide) ?_
  refine lv_istore_n (lv' := [(1, .int 0), (0, .ref (ad 0))]) hx hb dX7_looksAtHomes_5 rfl hl (by decide) rfl (fun ls hl => ?_)
  exact loop6 1000 r6 0 hf H locs hP hS ls (lv_sub hl [1, 0] rfl)
def fX7_moved_B46 (σ : St) (x1 : Int32) : Option (Int32 × St) :=
  some (x1, σ)
def fX7_moved_L8 (K8_46 : St → Int32 → Option (Int32 × St)) : Nat → St → Int32 → Int32 → Option (Int32 × St)
  | 0, _, _, _ => none
  | n8 + 1, σ, x1, x2 => if (σ 1 (1 : Int32).toNatClampNeg) ≤ x2 then (K8_46 σ x1) else (bd (fX7_homeAt σ x2) fun r2 => gd (okI x2 24) <| if r2 = (σ 4 x2.toNatClampNeg) then (nm (x1 + 0) fun v7 => nm (x2 + 1) fun v8 => (fX7_moved_L8 K8_46 n8) σ v7 v8) else (nm (x1 + 1) fun v5 => nm (x2 + 1) fun v6 => (fX7_moved_L8 K8_46 n8) σ v5 v6))
def fX7_moved (σ : St) : Option (Int32 × St) :=
  bd (fX7_laysRing σ) fun r9 => fX7_moved_L8 (fun σ y1 => fX7_moved_B46 σ y1) 1000 r9 0 0
abbrev rmX7_moved : Room := { frames := 4, cells := 0, slots := 0, locals := 86 }
theorem dmX7_moved : yX7_moved.cls = RX7 ∧ yX7_moved.cls ≠ "java/lang/invoke/MethodHandle" ∧ yX7_moved.cls ≠ "java/lang/invoke/VarHandle" ∧ (parseMethodDescriptor yX7_moved.desc).map (fun d => d.parameters.length) = some 0 := by decide +kernel
theorem iX7_moved_X7 : ∀ w ∈ wsX70, w ∈ wsX7_moved := fun w h => List.mem_cons_of_mem _ (List.mem_append_right _ (h))
set_option maxHeartbeats 8000000 in
set_option maxRecDepth 100000 in
theorem mX7_moved (l : Launch) (dC : Nat → ClassId) (dI : Nat → Nat → Nat) (ad : Nat → Nat) (cy : Nat → ClassId) (hJ : WJ 16 ad) (σ : St) (res : (Int32 × St)) (hf : fX7_moved σ = some res) : CMi l yX7_moved wsX7_moved rmX7_moved (dC, dI) (tysX cy) 16 ad (layM ad cy) [.ref (ad 0)] σ res.1 res.2 := by
  refine Met.ofW (cc := cX7_moved) (maxL := 3) (ret := (some .int)) (by decide) rfl ?_
  intro p e s m args below meth c s₁ B hml hv
  obtain ⟨hargs, hP, hK⟩ := hv
  have hx := B.exec
  have hb := B.bytes
  have hr := B.returns
  have hts := atoms_spec (ws := wsX7_moved) B.pre
  have hown : s.vm.findClass RX7 = some m.cls := findClass_of_methodNamed B.named
  have hlocks := B.notSynchronized
  have w1 := hts (.fieldLink RX7 9 "PierRingsModel" "all" "[I") (List.mem_of_getElem? (i := 1) rfl)
  have w2 := hts (.fieldLink RX7 19 "PierRingsModel" "before" "[I") (List.mem_of_getElem? (i := 2) rfl)
  have hS : va_S (WA 16 ad) s.heap s.heap [] := va_S.rf
  have hfr : entryFrame m args 3 = F0 m 0 ((lg_sl [.ref (ad 0)] ++ List.replicate (3 - (lg_sl [.ref (ad 0)]).length) Slot.unset).toArray) [] := by rw [hargs]; exact lg_entry_eq _ _ _
  rw [hfr]
  have hl := lv_entry ([.ref (ad 0)]) (n := 3) (Nat.le_of_ble_eq_true rfl)
  generalize (lg_sl [.ref (ad 0)] ++ List.replicate (3 - (lg_sl [.ref (ad 0)]).length) Slot.unset).toArray = ls at hl ⊢
  have hl : lv_has ls 3 [(0, .ref (ad 0))] := hl
  clear hfr hargs B
  show W p l e rmX7_moved s m args below meth c s.heap [] 0 0 (MQ below (Qiw (dC, dI) 16 ad (layM ad cy) res.1 res.2) args s 0 0 (WA 16 ad)) (F0 m 0 ls [])
  have kB46 : ∀ (σ : St) (x1 : Int32), fX7_moved_B46 σ x1 = some res → ∀ (H : Heap) (locs : List Loc), va_P (dC, dI) vwCl (wd 16 ad (layM ad cy) σ) H → va_S (WA 16 ad) s.heap H locs → ∀ (ls : Array Slot), lv_has ls 3 [(1, .int x1)] → W p l e rmX7_moved s m args below meth c H locs 0 0 (MQ below (Qiw (dC, dI) 16 ad (layM ad cy) res.1 res.2) args s 0 0 (WA 16 ad)) (F0 m 46 ls []) := by
    intro σ x1 hf H locs hP hS ls hl
    unfold fX7_moved_B46 at hf
    refine lv_iload_n hx hb dX7_moved_46 rfl (lv_at hl 0 rfl) ?_
    exact xt_iret hx hb hr hP hS (rs_1 hf) (rs_2 hf) dX7_moved_47 hlocks
  have loop8 : ∀ (n8 : Nat) (σ : St) (x1 : Int32) (x2 : Int32), fX7_moved_L8 (fun σ y1 => fX7_moved_B46 σ y1) n8 σ x1 x2 = some res → ∀ (H : Heap) (locs : List Loc), va_P (dC, dI) vwCl (wd 16 ad (layM ad cy) σ) H → va_S (WA 16 ad) s.heap H locs → ∀ (ls : Array Slot), lv_has ls 3 [(0, .ref (ad 0)), (1, .int x1), (2, .int x2)] → W p l e rmX7_moved s m args below meth c H locs 0 0 (MQ below (Qiw (dC, dI) 16 ad (layM ad cy) res.1 res.2) args s 0 0 (WA 16 ad)) (F0 m 8 ls []) := by
    intro n8
    induction n8 with
    | zero => intro σ x1 x2 hf; simp [fX7_moved_L8] at hf
    | succ n8 ih8 =>
      intro σ x1 x2 hf H locs hP hS ls hl
      rw [fX7_moved_L8] at hf
      refine lv_iload_n hx hb dX7_moved_8 rfl (lv_at hl 2 rfl) ?_
      refine lv_aload_n hx hb dX7_moved_9 rfl (lv_at hl 0 rfl) ?_
      refine xt_get (ci := 7) (C := RX7) (T := TX7) (n := 25) (v := .ref (ad 1)) hx hb hts iX7_moved_X7 hown hK hP 0 (by decide) (LX7_obj ad cy _) rfl 0 (by decide) w1 rfl dX7_moved_10 ?_
      refine lv_iconst (v := 1) hx hb dX7_moved_13 (by decide) ?_
      refine xt_iald hx hb hK hP 1 (by decide) 0 (LX7_all ad cy _) rfl (by decide) dX7_moved_14 ?_
      refine lv_icmp_ge (tgt := 46) hx hb dX7_moved_15 (by decide) (fun c1 => ?_) (fun c1 => ?_)
      · have hf := (if_pos c1).symm.trans hf
        exact kB46 σ x1 hf H locs hP hS ls (lv_sub hl [1] rfl)
      · have hf := (if_neg c1).symm.trans hf
        refine lv_iload_n hx hb dX7_moved_18 rfl (lv_at hl 1 rfl) ?_
        refine lv_aload_n hx hb dX7_moved_19 rfl (lv_at hl 0 rfl) ?_
        refine lv_iload_n hx hb dX7_moved_20 rfl (lv_at hl 2 rfl) ?_
        obtain ⟨r2, qr2, hf⟩ := bd_some hf
        refine xt_callVi (As := [.int x2]) (rest := [.int x1]) (C := RX7) (ci := 7) ⟨hx, hb, hml, hown, hts⟩ 0 (mX7_homeAt l dC dI ad cy hJ σ x2 r2 qr2) (cwV 1 hts gX7_moved_X7_homeAt rfl rfl rfl dmX7_homeAt ⟨Nat.le_of_ble_eq_true rfl, Nat.le_of_ble_eq_true rfl⟩) hK hP hS (by decide) (LX7_obj ad cy _) rfl rfl rfl hl.1 (Nat.le_of_ble_eq_true rfl) ⟨Nat.zero_le _, Nat.zero_le _⟩ dX7_moved_21 (fun H locs hP hS => ?_)
        refine lv_aload_n hx hb dX7_moved_24 rfl (lv_at hl 0 rfl) ?_
        refine xt_get (ci := 7) (C := RX7) (T := TX7) (n := 25) (v := .ref (ad 4)) hx hb hts iX7_moved_X7 hown hK hP 0 (by decide) (LX7_obj ad cy _) rfl 7 (by decide) w2 rfl dX7_moved_25 ?_
        refine lv_iload_n hx hb dX7_moved_28 rfl (lv_at hl 2 rfl) ?_
        obtain ⟨g3, hf⟩ := gd_some hf
        refine xt_iald hx hb hK hP 4 (by decide) 0 (LX7_before ad cy _) rfl g3 dX7_moved_29 ?_
        refine lv_icmp_ne (tgt := 37) hx hb dX7_moved_30 (by decide) (fun c4 => ?_) (fun c4 => ?_)
        · have hf := (if_neg c4).symm.trans hf
          refine lv_iconst (v := 1) hx hb dX7_moved_37 (by decide) ?_
          refine lv_iadd hx hb dX7_moved_38 ?_
          refine lv_topi (fun v5 ev5 => ?_)
          have hf := nm_to hf ev5
          refine lv_istore_n (lv' := [(1, .int v5), (0, .ref (ad 0)), (2, .int x2)]) hx hb dX7_moved_39 rfl hl (by decide) rfl (fun ls hl => ?_)
          obtain ⟨v6, ev6⟩ : ∃ y : Int32, y = x2 + 1 := ⟨_, rfl⟩
          have hf := nm_to hf ev6
          refine lv_iinc (v := v6) (lv' := [(2, .int v6), (1, .int v5), (0, .ref (ad 0))]) hx hb dX7_moved_40 hl (k := 2) rfl (by rw [ev6]; rfl) (by decide) rfl (fun ls hl => ?_)
          refine lv_goto (tgt := 8) hx hb dX7_moved_43 (by decide) ?_
          exact ih8 σ v5 v6 hf H locs hP hS ls (lv_sub hl [2, 1, 0] rfl)
        · have hf := (if_pos c4).symm.trans hf
          refine lv_iconst (v := 0) hx hb dX7_moved_33 (by decide) ?_
          refine lv_goto (tgt := 38) hx hb dX7_moved_34 (by decide) ?_
          refine lv_iadd hx hb dX7_moved_38 ?_
          refine lv_topi (fun v7 ev7 => ?_)
          have hf := nm_to hf ev7
          refine lv_istore_n (lv' := [(1, .int v7), (0, .ref (ad 0)), (2, .int x2)]) hx hb dX7_moved_39 rfl hl (by decide) rfl (fun ls hl => ?_)
          obtain ⟨v8, ev8⟩ : ∃ y : Int32, y = x2 + 1 := ⟨_, rfl⟩
          have hf := nm_to hf ev8
          refine lv_iinc (v := v8) (lv' := [(2, .int v8), (1, .int v7), (0, .ref (ad 0))]) hx hb dX7_moved_40 hl (k := 2) rfl (by rw [ev8]; rfl) (by decide) rfl (fun ls hl => ?_)
          refine lv_goto (tgt := 8) hx hb dX7_moved_43 (by decide) ?_
          exact ih8 σ v7 v8 hf H locs hP hS ls (lv_sub hl [2, 1, 0] rfl)
  unfold fX7_moved at hf
  obtain ⟨H, eH⟩ : ∃ H : Heap, H = s.heap := ⟨_, rfl⟩
  rw [← eH] at hP
  have hS : va_S (WA 16 ad) s.heap H [] := by rw [eH]; exact hS
  suffices K : W p l e rmX7_moved s m args below meth c H [] 0 0 (MQ below (Qiw (dC, dI) 16 ad (layM ad cy) res.1 res.2) args s 0 0 (WA 16 ad)) (F0 m 0 ls []) by rw [eH] at K; exact K
  clear eH
  obtain ⟨locs, elocs⟩ : ∃ z : List Loc, z = [] := ⟨_, rfl⟩
  rw [← elocs] at hS ⊢
  refine lv_aload_n hx hb dX7_moved_0 rfl (lv_at hl 0 rfl) ?_
  obtain ⟨r9, qr9, hf⟩ := bd_some hf
  refine xt_callVv (As := []) (rest := []) (C := RX7) (ci := 7) ⟨hx, hb, hml, hown, hts⟩ 0 (mX7_laysRing l dC dI ad cy hJ σ r9 qr9) (cwV 0 hts gX7_moved_X7_laysRing rfl rfl rfl dmX7_laysRing ⟨Nat.le_of_ble_eq_true rfl, Nat.le_of_ble_eq_true rfl⟩) hK hP hS (by decide) (LX7_obj ad cy _) rfl rfl rfl hl.1 (Nat.le_of_ble_eq_true rfl) ⟨Nat.zero_le _, Nat.zero_le _⟩ dX7_moved_1 (fun H locs hP hS => ?_)
  refine lv_iconst (v := 0) hx hb dX7_moved_4 (by decide) ?_
  refine lv_istore_n (lv' := [(1, .int 0), (0, .ref (ad 0))]) hx hb dX7_moved_5 rfl hl (by decide) rfl (fun ls hl => ?_)
  refine lv_iconst (v := 0) hx hb dX7_moved_6 (by decide) ?_
  refine lv_istore_n (lv' := [(2, .int 0), (1, .int 0), (0, .ref (ad 0))]) hx hb dX7_moved_7 rfl hl (by decide) rfl (fun ls hl => ?_)
  exact loop8 1000 r9 0 0 hf H locs hP hS ls (lv_sub hl [2, 1, 0] rfl)
