def fX7_ofHome_B54 (σ : St) (x3 : Int32) : Option Int32 :=
  some x3
def fX7_ofHome_L5 (σ : St) (x1 : Int32) (x2 : Int32) (K5_54 : Int32 → Option Int32) : Nat → Int32 → Int32 → Option Int32
  | 0, _, _ => none
  | n5 + 1, x3, x4 => if (σ 1 (1 : Int32).toNatClampNeg) ≤ x4 then (K5_54 x3) else (bd (fX7_homeAt σ x4) fun r2 => if r2 = x1 then (if x2 = 0 then (nm (x3 + 1) fun v8 => nm (x4 + 1) fun v9 => (fX7_ofHome_L5 σ x1 x2 K5_54 n5) v8 v9) else (bd (fX7_b σ x4 1) fun r5 => nm (x3 + r5) fun v6 => nm (x4 + 1) fun v7 => (fX7_ofHome_L5 σ x1 x2 K5_54 n5) v6 v7)) else (nm (x3 + 0) fun v10 => nm (x4 + 1) fun v11 => (fX7_ofHome_L5 σ x1 x2 K5_54 n5) v10 v11))
def fX7_ofHome (σ : St) (a1 : Int32) (a2 : Int32) : Option Int32 :=
  fX7_ofHome_L5 σ a1 a2 (fun y3 => fX7_ofHome_B54 σ y3) 1000 0 0
abbrev rmX7_ofHome : Room := { frames := 2, cells := 0, slots := 0, locals := 43 }
theorem dmX7_ofHome : yX7_ofHome.cls = RX7 ∧ yX7_ofHome.cls ≠ "java/lang/invoke/MethodHandle" ∧ yX7_ofHome.cls ≠ "java/lang/invoke/VarHandle" ∧ (parseMethodDescriptor yX7_ofHome.desc).map (fun d => d.parameters.length) = some 2 := by decide +kernel
theorem iX7_ofHome_X7 : ∀ w ∈ wsX70, w ∈ wsX7_ofHome := fun w h => List.mem_cons_of_mem _ (List.mem_append_right _ (h))
set_option maxHeartbeats 8000000 in
set_option maxRecDepth 100000 in
theorem mX7_ofHome (l : Launch) (dC : Nat → ClassId) (dI : Nat → Nat → Nat) (ad : Nat → Nat) (cy : Nat → ClassId) (hJ : WJ 16 ad) (σ : St) (a1 : Int32) (a2 : Int32) (res : Int32) (hf : fX7_ofHome σ a1 a2 = some res) : CMi l yX7_ofHome wsX7_ofHome rmX7_ofHome (dC, dI) (tysX cy) 16 ad (layM ad cy) [.ref (ad 0), .int a1, .int a2] σ res σ := by
  refine Met.ofW (cc := cX7_ofHome) (maxL := 5) (ret := (some .int)) (by decide) rfl ?_
  intro p e s m args below meth c s₁ B hml hv
  obtain ⟨hargs, hP, hK⟩ := hv
  have hx := B.exec
  have hb := B.bytes
  have hr := B.returns
  have hts := atoms_spec (ws := wsX7_ofHome) B.pre
  have hown : s.vm.findClass RX7 = some m.cls := findClass_of_methodNamed B.named
  have hlocks := B.notSynchronized
  have w1 := hts (.fieldLink RX7 9 "PierRingsModel" "all" "[I") (List.mem_of_getElem? (i := 1) rfl)
  have hS : va_S (WA 16 ad) s.heap s.heap [] := va_S.rf
  have hfr : entryFrame m args 5 = F0 m 0 ((lg_sl [.ref (ad 0), .int a1, .int a2] ++ List.replicate (5 - (lg_sl [.ref (ad 0), .int a1, .int a2]).length) Slot.unset).toArray) [] := by rw [hargs]; exact lg_entry_eq _ _ _
  rw [hfr]
  have hl := lv_entry ([.ref (ad 0), .int a1, .int a2]) (n := 5) (Nat.le_of_ble_eq_true rfl)
  generalize (lg_sl [.ref (ad 0), .int a1, .int a2] ++ List.replicate (5 - (lg_sl [.ref (ad 0), .int a1, .int a2]).length) Slot.unset).toArray = ls at hl ⊢
  have hl : lv_has ls 5 [(0, .ref (ad 0)), (1, .int a1), (2, .int a2)] := hl
  clear hfr hargs B
  show W p l e rmX7_ofHome s m args below meth c s.heap [] 0 0 (MQ below (Qiw (dC, dI) 16 ad (layM ad cy) res σ) args s 0 0 (WA 16 ad)) (F0 m 0 ls [])
  have kB54 : ∀ (x3 : Int32), fX7_ofHome_B54 σ x3 = some res → ∀ (H : Heap) (locs : List Loc), va_P (dC, dI) vwCl (wd 16 ad (layM ad cy) σ) H → va_S (WA 16 ad) s.heap H locs → ∀ (ls : Array Slot), lv_has ls 5 [(3, .int x3)] → W p l e rmX7_ofHome s m args below meth c H locs 0 0 (MQ below (Qiw (dC, dI) 16 ad (layM ad cy) res σ) args s 0 0 (WA 16 ad)) (F0 m 54 ls []) := by
    intro x3 hf H locs hP hS ls hl
    unfold fX7_ofHome_B54 at hf
    refine lv_iload_n hx hb dX7_ofHome_54 rfl (lv_at hl 0 rfl) ?_
    exact xt_iret hx hb hr hP hS (Option.some.inj hf) rfl dX7_ofHome_55 hlocks
  have loop5 : ∀ (x1 : Int32) (x2 : Int32) (n5 : Nat) (x3 : Int32) (x4 : Int32), fX7_ofHome_L5 σ x1 x2 (fun y3 => fX7_ofHome_B54 σ y3) n5 x3 x4 = some res → ∀ (H : Heap) (locs : List Loc), va_P (dC, dI) vwCl (wd 16 ad (layM ad cy) σ) H → va_S (WA 16 ad) s.heap H locs → ∀ (ls : Array Slot), lv_has ls 5 [(0, .ref (ad 0)), (1, .int x1), (2, .int x2), (3, .int x3), (4, .int x4)] → W p l e rmX7_ofHome s m args below meth c H locs 0 0 (MQ below (Qiw (dC, dI) 16 ad (layM ad cy) res σ) args s 0 0 (WA 16 ad)) (F0 m 5 ls []) := by
    intro x1 x2 n5
    induction n5 with
    | zero => intro x3 x4 hf; simp [fX7_ofHome_L5] at hf
    | succ n5 ih5 =>
      intro x3 x4 hf H locs hP hS ls hl
      rw [fX7_ofHome_L5] at hf
      refine lv_iload hx hb dX7_ofHome_5 (lv_at hl 4 rfl) ?_
      refine lv_aload_n hx hb dX7_ofHome_7 rfl (lv_at hl 0 rfl) ?_
      refine xt_get (ci := 7) (C := RX7) (T := TX7) (n := 25) (v := .ref (ad 1)) hx hb hts iX7_ofHome_X7 hown hK hP 0 (by decide) (LX7_obj ad cy _) rfl 0 (by decide) w1 rfl dX7_ofHome_8 ?_
      refine lv_iconst (v := 1) hx hb dX7_ofHome_11 (by decide) ?_
      refine xt_iald hx hb hK hP 1 (by decide) 0 (LX7_all ad cy _) rfl (by decide) dX7_ofHome_12 ?_
      refine lv_icmp_ge (tgt := 54) hx hb dX7_ofHome_13 (by decide) (fun c1 => ?_) (fun c1 => ?_)
      · have hf := (if_pos c1).symm.trans hf
        exact kB54 x3 hf H locs hP hS ls (lv_sub hl [3] rfl)
      · have hf := (if_neg c1).symm.trans hf
        refine lv_iload_n hx hb dX7_ofHome_16 rfl (lv_at hl 3 rfl) ?_
        refine lv_aload_n hx hb dX7_ofHome_17 rfl (lv_at hl 0 rfl) ?_
        refine lv_iload hx hb dX7_ofHome_18 (lv_at hl 4 rfl) ?_
        obtain ⟨r2, qr2, hf⟩ := bd_some hf
        refine xt_callVi (As := [.int x4]) (rest := [.int x3]) (C := RX7) (ci := 7) ⟨hx, hb, hml, hown, hts⟩ 0 (mX7_homeAt l dC dI ad cy hJ σ x4 r2 qr2) (cwV 1 hts gX7_ofHome_X7_homeAt rfl rfl rfl dmX7_homeAt ⟨Nat.le_of_ble_eq_true rfl, Nat.le_of_ble_eq_true rfl⟩) hK hP hS (by decide) (LX7_obj ad cy _) rfl rfl rfl hl.1 (Nat.le_of_ble_eq_true rfl) ⟨Nat.zero_le _, Nat.zero_le _⟩ dX7_ofHome_20 (fun H locs hP hS => ?_)
        refine lv_iload_n hx hb dX7_ofHome_23 rfl (lv_at hl 1 rfl) ?_
        refine lv_icmp_eq (tgt := 31) hx hb dX7_ofHome_24 (by decide) (fun c3 => ?_) (fun c3 => ?_)
        · have hf := (if_pos c3).symm.trans hf
          refine lv_iload_n hx hb dX7_ofHome_31 rfl (lv_at hl 2 rfl) ?_
          refine lv_if_ne (tgt := 39) hx hb dX7_ofHome_32 (by decide) (fun c4 => ?_) (fun c4 => ?_)
          · have hf := (if_neg c4).symm.trans hf
            refine lv_aload_n hx hb dX7_ofHome_39 rfl (lv_at hl 0 rfl) ?_
            refine lv_iload hx hb dX7_ofHome_40 (lv_at hl 4 rfl) ?_
            refine lv_iconst (v := 1) hx hb dX7_ofHome_42 (by decide) ?_
            obtain ⟨r5, qr5, hf⟩ := bd_some hf
            refine xt_callVi (As := [.int x4, .int 1]) (rest := [.int x3]) (C := RX7) (ci := 7) ⟨hx, hb, hml, hown, hts⟩ 0 (mX7_b l dC dI ad cy hJ σ x4 1 r5 qr5) (cwV 2 hts gX7_ofHome_X7_b rfl rfl rfl dmX7_b ⟨Nat.le_of_ble_eq_true rfl, Nat.le_of_ble_eq_true rfl⟩) hK hP hS (by decide) (LX7_obj ad cy _) rfl rfl rfl hl.1 (Nat.le_of_ble_eq_true rfl) ⟨Nat.zero_le _, Nat.zero_le _⟩ dX7_ofHome_43 (fun H locs hP hS => ?_)
            refine lv_iadd hx hb dX7_ofHome_46 ?_
            refine lv_topi (fun v6 ev6 => ?_)
            have hf := nm_to hf ev6
            refine lv_istore_n (lv' := [(3, .int v6), (0, .ref (ad 0)), (1, .int x1), (2, .int x2), (4, .int x4)]) hx hb dX7_ofHome_47 rfl hl (by decide) rfl (fun ls hl => ?_)
            obtain ⟨v7, ev7⟩ : ∃ y : Int32, y = x4 + 1 := ⟨_, rfl⟩
            have hf := nm_to hf ev7
            refine lv_iinc (v := v7) (lv' := [(4, .int v7), (3, .int v6), (0, .ref (ad 0)), (1, .int x1), (2, .int x2)]) hx hb dX7_ofHome_48 hl (k := 4) rfl (by rw [ev7]; rfl) (by decide) rfl (fun ls hl => ?_)
            refine lv_goto (tgt := 5) hx hb dX7_ofHome_51 (by decide) ?_
            exact ih5 v6 v7 hf H locs hP hS ls (lv_sub hl [2, 3, 4, 1, 0] rfl)
          · have hf := (if_pos c4).symm.trans hf
            refine lv_iconst (v := 1) hx hb dX7_ofHome_35 (by decide) ?_
            refine lv_goto (tgt := 46) hx hb dX7_ofHome_36 (by decide) ?_
            refine lv_iadd hx hb dX7_ofHome_46 ?_
            refine lv_topi (fun v8 ev8 => ?_)
            have hf := nm_to hf ev8
            refine lv_istore_n (lv' := [(3, .int v8), (0, .ref (ad 0)), (1, .int x1), (2, .int x2), (4, .int x4)]) hx hb dX7_ofHome_47 rfl hl (by decide) rfl (fun ls hl => ?_)
            obtain ⟨v9, ev9⟩ : ∃ y : Int32, y = x4 + 1 := ⟨_, rfl⟩
            have hf := nm_to hf ev9
            refine lv_iinc (v := v9) (lv' := [(4, .int v9), (3, .int v8), (0, .ref (ad 0)), (1, .int x1), (2, .int x2)]) hx hb dX7_ofHome_48 hl (k := 4) rfl (by rw [ev9]; rfl) (by decide) rfl (fun ls hl => ?_)
            refine lv_goto (tgt := 5) hx hb dX7_ofHome_51 (by decide) ?_
            exact ih5 v8 v9 hf H locs hP hS ls (lv_sub hl [2, 3, 4, 1, 0] rfl)
        · have hf := (if_neg c3).symm.trans hf
          refine lv_iconst (v := 0) hx hb dX7_ofHome_27 (by decide) ?_
          refine lv_goto (tgt := 46) hx hb dX7_ofHome_28 (by decide) ?_
          refine lv_iadd hx hb dX7_ofHome_46 ?_
          refine lv_topi (fun v10 ev10 => ?_)
          have hf := nm_to hf ev10
          refine lv_istore_n (lv' := [(3, .int v10), (0, .ref (ad 0)), (1, .int x1), (2, .int x2), (4, .int x4)]) hx hb dX7_ofHome_47 rfl hl (by decide) rfl (fun ls hl => ?_)
          obtain ⟨v11, ev11⟩ : ∃ y : Int32, y = x4 + 1 := ⟨_, rfl⟩
          have hf := nm_to hf ev11
          refine lv_iinc (v := v11) (lv' := [(4, .int v11), (3, .int v10), (0, .ref (ad 0)), (1, .int x1), (2, .int x2)]) hx hb dX7_ofHome_48 hl (k := 4) rfl (by rw [ev11]; rfl) (by decide) rfl (fun ls hl => ?_)
          refine lv_goto (tgt := 5) hx hb dX7_ofHome_51 (by decide) ?_
          exact ih5 v10 v11 hf H locs hP hS ls (lv_sub hl [2, 3, 4, 1, 0] rfl)
  unfold fX7_ofHome at hf
  obtain ⟨H, eH⟩ : ∃ H : Heap, H = s.heap := ⟨_, rfl⟩
  rw [← eH] at hP
  have hS : va_S (WA 16 ad) s.heap H [] := by rw [eH]; exact hS
  suffices K : W p l e rmX7_ofHome s m args below meth c H [] 0 0 (MQ below (Qiw (dC, dI) 16 ad (layM ad cy) res σ) args s 0 0 (WA 16 ad)) (F0 m 0 ls []) by rw [eH] at K; exact K
  clear eH
  obtain ⟨locs, elocs⟩ : ∃ z : List Loc, z = [] := ⟨_, rfl⟩
  rw [← elocs] at hS ⊢
  refine lv_iconst (v := 0) hx hb dX7_ofHome_0 (by decide) ?_
  refine lv_istore_n (lv' := [(3, .int 0), (0, .ref (ad 0)), (1, .int a1), (2, .int a2)]) hx hb dX7_ofHome_1 rfl hl (by decide) rfl (fun ls hl => ?_)
  refine lv_iconst (v := 0) hx hb dX7_ofHome_2 (by decide) ?_
  refine lv_istore (lv' := [(4, .int 0), (3, .int 0), (0, .ref (ad 0)), (1, .int a1), (2, .int a2)]) hx hb dX7_ofHome_3 hl (by decide) rfl (fun ls hl => ?_)
  exact loop5 a1 a2 1000 0 0 hf H locs hP hS ls (lv_sub hl [2, 3, 4, 1, 0] rfl)
def fX7_lyingAt_B38 (σ : St) (x2 : Int32) : Option Int32 :=
  some x2
def fX7_lyingAt_L4 (σ : St) (x1 : Int32) (K4_38 : Int32 → Option Int32) : Nat → Int32 → Int32 → Option Int32
  | 0, _, _ => none
  | n4 + 1, x2, x3 => if (σ 1 (1 : Int32).toNatClampNeg) ≤ x3 then (K4_38 x2) else (gd (okI x3 24) <| if (σ 5 x3.toNatClampNeg) = x1 then (nm (x2 + 1) fun v6 => nm (x3 + 1) fun v7 => (fX7_lyingAt_L4 σ x1 K4_38 n4) v6 v7) else (nm (x2 + 0) fun v4 => nm (x3 + 1) fun v5 => (fX7_lyingAt_L4 σ x1 K4_38 n4) v4 v5))
def fX7_lyingAt (σ : St) (a1 : Int32) : Option Int32 :=
  fX7_lyingAt_L4 σ a1 (fun y2 => fX7_lyingAt_B38 σ y2) 1000 0 0
abbrev rmX7_lyingAt : Room := { frames := 0, cells := 0, slots := 0, locals := 0 }
theorem dmX7_lyingAt : yX7_lyingAt.cls = RX7 ∧ yX7_lyingAt.cls ≠ "java/lang/invoke/MethodHandle" ∧ yX7_lyingAt.cls ≠ "java/lang/invoke/VarHandle" ∧ (parseMethodDescriptor yX7_lyingAt.desc).map (fun d => d.parameters.length) = some 1 := by decide +kernel
theorem iX7_lyingAt_X7 : ∀ w ∈ wsX70, w ∈ wsX7_lyingAt := fun w h => List.mem_cons_of_mem _ (List.mem_append_right _ (h))
set_option maxHeartbeats 8000000 in
set_option maxRecDepth 100000 in
theorem mX7_lyingAt (l : Launch) (dC : Nat → ClassId) (dI : Nat → Nat → Nat) (ad : Nat → Nat) (cy : Nat → ClassId) (hJ : WJ 16 ad) (σ : St) (a1 : Int32) (res : Int32) (hf : fX7_lyingAt σ a1 = some res) : CMi l yX7_lyingAt wsX7_lyingAt rmX7_lyingAt (dC, dI) (tysX cy) 16 ad (layM ad cy) [.ref (ad 0), .int a1] σ res σ := by
  refine Met.ofW (cc := cX7_lyingAt) (maxL := 4) (ret := (some .int)) (by decide) rfl ?_
  intro p e s m args below meth c s₁ B hml hv
  obtain ⟨hargs, hP, hK⟩ := hv
  have hx := B.exec
  have hb := B.bytes
  have hr := B.returns
  have hts := atoms_spec (ws := wsX7_lyingAt) B.pre
  have hown : s.vm.findClass RX7 = some m.cls := findClass_of_methodNamed B.named
  have hlocks := B.notSynchronized
  have w1 := hts (.fieldLink RX7 9 "PierRingsModel" "all" "[I") (List.mem_of_getElem? (i := 1) rfl)
  have w2 := hts (.fieldLink RX7 22 "PierRingsModel" "lies" "[I") (List.mem_of_getElem? (i := 2) rfl)
  have hS : va_S (WA 16 ad) s.heap s.heap [] := va_S.rf
  have hfr : entryFrame m args 4 = F0 m 0 ((lg_sl [.ref (ad 0), .int a1] ++ List.replicate (4 - (lg_sl [.ref (ad 0), .int a1]).length) Slot.unset).toArray) [] := by rw [hargs]; exact lg_entry_eq _ _ _
  rw [hfr]
  have hl := lv_entry ([.ref (ad 0), .int a1]) (n := 4) (Nat.le_of_ble_eq_true rfl)
  generalize (lg_sl [.ref (ad 0), .int a1] ++ List.replicate (4 - (lg_sl [.ref (ad 0), .int a1]).length) Slot.unset).toArray = ls at hl ⊢
  have hl : lv_has ls 4 [(0, .ref (ad 0)), (1, .int a1)] := hl
  clear hfr hargs B
  show W p l e rmX7_lyingAt s m args below meth c s.heap [] 0 0 (MQ below (Qiw (dC, dI) 16 ad (layM ad cy) res σ) args s 0 0 (WA 16 ad)) (F0 m 0 ls [])
  have kB38 : ∀ (x2 : Int32), fX7_lyingAt_B38 σ x2 = some res → ∀ (H : Heap) (locs : List Loc), va_P (dC, dI) vwCl (wd 16 ad (layM ad cy) σ) H → va_S (WA 16 ad) s.heap H locs → ∀ (ls : Array Slot), lv_has ls 4 [(2, .int x2)] → W p l e rmX7_lyingAt s m args below meth c H locs 0 0 (MQ below (Qiw (dC, dI) 16 ad (layM ad cy) res σ) args s 0 0 (WA 16 ad)) (F0 m 38 ls []) := by
    intro x2 hf H locs hP hS ls hl
    unfold fX7_lyingAt_B38 at hf
    refine lv_iload_n hx hb dX7_lyingAt_38 rfl (lv_at hl 0 rfl) ?_
    exact xt_iret hx hb hr hP hS (Option.some.inj hf) rfl dX7_lyingAt_39 hlocks
  have loop4 : ∀ (x1 : Int32) (n4 : Nat) (x2 : Int32) (x3 : Int32), fX7_lyingAt_L4 σ x1 (fun y2 => fX7_lyingAt_B38 σ y2) n4 x2 x3 = some res → ∀ (H : Heap) (locs : List Loc), va_P (dC, dI) vwCl (wd 16 ad (layM ad cy) σ) H → va_S (WA 16 ad) s.heap H locs → ∀ (ls : Array Slot), lv_has ls 4 [(0, .ref (ad 0)), (1, .int x1), (2, .int x2), (3, .int x3)] → W p l e rmX7_lyingAt s m args below meth c H locs 0 0 (MQ below (Qiw (dC, dI) 16 ad (layM ad cy) res σ) args s 0 0 (WA 16 ad)) (F0 m 4 ls []) := by
    intro x1 n4
    induction n4 with
    | zero => intro x2 x3 hf; simp [fX7_lyingAt_L4] at hf
    | succ n4 ih4 =>
      intro x2 x3 hf H locs hP hS ls hl
      rw [fX7_lyingAt_L4] at hf
      refine lv_iload_n hx hb dX7_lyingAt_4 rfl (lv_at hl 3 rfl) ?_
      refine lv_aload_n hx hb dX7_lyingAt_5 rfl (lv_at hl 0 rfl) ?_
      refine xt_get (ci := 7) (C := RX7) (T := TX7) (n := 25) (v := .ref (ad 1)) hx hb hts iX7_lyingAt_X7 hown hK hP 0 (by decide) (LX7_obj ad cy _) rfl 0 (by decide) w1 rfl dX7_lyingAt_6 ?_
      refine lv_iconst (v := 1) hx hb dX7_lyingAt_9 (by decide) ?_
      refine xt_iald hx hb hK hP 1 (by decide) 0 (LX7_all ad cy _) rfl (by decide) dX7_lyingAt_10 ?_
      refine lv_icmp_ge (tgt := 38) hx hb dX7_lyingAt_11 (by decide) (fun c1 => ?_) (fun c1 => ?_)
      · have hf := (if_pos c1).symm.trans hf
        exact kB38 x2 hf H locs hP hS ls (lv_sub hl [2] rfl)
      · have hf := (if_neg c1).symm.trans hf
        refine lv_iload_n hx hb dX7_lyingAt_14 rfl (lv_at hl 2 rfl) ?_
        refine lv_aload_n hx hb dX7_lyingAt_15 rfl (lv_at hl 0 rfl) ?_
        refine xt_get (ci := 7) (C := RX7) (T := TX7) (n := 25) (v := .ref (ad 5)) hx hb hts iX7_lyingAt_X7 hown hK hP 0 (by decide) (LX7_obj ad cy _) rfl 8 (by decide) w2 rfl dX7_lyingAt_16 ?_
        refine lv_iload_n hx hb dX7_lyingAt_19 rfl (lv_at hl 3 rfl) ?_
        obtain ⟨g2, hf⟩ := gd_some hf
        refine xt_iald hx hb hK hP 5 (by decide) 0 (LX7_lies ad cy _) rfl g2 dX7_lyingAt_20 ?_
        refine lv_iload_n hx hb dX7_lyingAt_21 rfl (lv_at hl 1 rfl) ?_
        refine lv_icmp_ne (tgt := 29) hx hb dX7_lyingAt_22 (by decide) (fun c3 => ?_) (fun c3 => ?_)
        · have hf := (if_neg c3).symm.trans hf
          refine lv_iconst (v := 0) hx hb dX7_lyingAt_29 (by decide) ?_
          refine lv_iadd hx hb dX7_lyingAt_30 ?_
          refine lv_topi (fun v4 ev4 => ?_)
          have hf := nm_to hf ev4
          refine lv_istore_n (lv' := [(2, .int v4), (0, .ref (ad 0)), (1, .int x1), (3, .int x3)]) hx hb dX7_lyingAt_31 rfl hl (by decide) rfl (fun ls hl => ?_)
          obtain ⟨v5, ev5⟩ : ∃ y : Int32, y = x3 + 1 := ⟨_, rfl⟩
          have hf := nm_to hf ev5
          refine lv_iinc (v := v5) (lv' := [(3, .int v5), (2, .int v4), (0, .ref (ad 0)), (1, .int x1)]) hx hb dX7_lyingAt_32 hl (k := 3) rfl (by rw [ev5]; rfl) (by decide) rfl (fun ls hl => ?_)
          refine lv_goto (tgt := 4) hx hb dX7_lyingAt_35 (by decide) ?_
          exact ih4 v4 v5 hf H locs hP hS ls (lv_sub hl [2, 3, 1, 0] rfl)
        · have hf := (if_pos c3).symm.trans hf
          refine lv_iconst (v := 1) hx hb dX7_lyingAt_25 (by decide) ?_
          refine lv_goto (tgt := 30) hx hb dX7_lyingAt_26 (by decide) ?_
          refine lv_iadd hx hb dX7_lyingAt_30 ?_
          refine lv_topi (fun v6 ev6 => ?_)
          have hf := nm_to hf ev6
          refine lv_istore_n (lv' := [(2, .int v6), (0, .ref (ad 0)), (1, .int x1), (3, .int x3)]) hx hb dX7_lyingAt_31 rfl hl (by decide) rfl (fun ls hl => ?_)
          obtain ⟨v7, ev7⟩ : ∃ y : Int32, y = x3 + 1 := ⟨_, rfl⟩
          have hf := nm_to hf ev7
          refine lv_iinc (v := v7) (lv' := [(3, .int v7), (2, .int v6), (0, .ref (ad 0)), (1, .int x1)]) hx hb dX7_lyingAt_32 hl (k := 3) rfl (by rw [ev7]; rfl) (by decide) rfl (fun ls hl => ?_)
          refine lv_goto (tgt := 4) hx hb dX7_lyingAt_35 (by decide) ?_
          exact ih4 v6 v7 hf H locs hP hS ls (lv_sub hl [2, 3, 1, 0] rfl)
  unfold fX7_lyingAt at hf
  obtain ⟨H, eH⟩ : ∃ H : Heap, H = s.heap := ⟨_, rfl⟩
  rw [← eH] at hP
  have hS : va_S (WA 16 ad) s.heap H [] := by rw [eH]; exact hS
  suffices K : W p l e rmX7_lyingAt s m args below meth c H [] 0 0 (MQ below (Qiw (dC, dI) 16 ad (layM ad cy) res σ) args s 0 0 (WA 16 ad)) (F0 m 0 ls []) by rw [eH] at K; exact K
  clear eH
  obtain ⟨locs, elocs⟩ : ∃ z : List Loc, z = [] := ⟨_, rfl⟩
  rw [← elocs] at hS ⊢
  refine lv_iconst (v := 0) hx hb dX7_lyingAt_0 (by decide) ?_
  refine lv_istore_n (lv' := [(2, .int 0), (0, .ref (ad 0)), (1, .int a1)]) hx hb dX7_lyingAt_1 rfl hl (by decide) rfl (fun ls hl => ?_)
  refine lv_iconst (v := 0) hx hb dX7_lyingAt_2 (by decide) ?_
  refine lv_istore_n (lv' := [(3, .int 0), (2, .int 0), (0, .ref (ad 0)), (1, .int a1)]) hx hb dX7_lyingAt_3 rfl hl (by decide) rfl (fun ls hl => ?_)
  exact loop4 a1 1000 0 0 hf H locs hP hS ls (lv_sub hl [2, 3, 1, 0] rfl)
def fX7_isHot (σ : St) (a1 : Int32) : Option Int32 :=
  bd (fX7_ofHome σ a1 1) fun r1 => bd (fX7_room σ a1) fun r2 => if r1 ≤ r2 then (some (0 : Int32)) else (some (1 : Int32))
abbrev rmX7_isHot : Room := { frames := 3, cells := 0, slots := 0, locals := 67 }
theorem dmX7_isHot : yX7_isHot.cls = RX7 ∧ yX7_isHot.cls ≠ "java/lang/invoke/MethodHandle" ∧ yX7_isHot.cls ≠ "java/lang/invoke/VarHandle" ∧ (parseMethodDescriptor yX7_isHot.desc).map (fun d => d.parameters.length) = some 1 := by decide +kernel
set_option maxHeartbeats 8000000 in
set_option maxRecDepth 100000 in
theorem mX7_isHot (l : Launch) (dC : Nat → ClassId) (dI : Nat → Nat → Nat) (ad : Nat → Nat) (cy : Nat → ClassId) (hJ : WJ 16 ad) (σ : St) (a1 : Int32) (res : Int32) (hf : fX7_isHot σ a1 = some res) : CMi l yX7_isHot wsX7_isHot rmX7_isHot (dC, dI) (tysX cy) 16 ad (layM ad cy) [.ref (ad 0), .int a1] σ res σ := by
  refine Met.ofW (cc := cX7_isHot) (maxL := 2) (ret := (some .boolean)) (by decide) rfl ?_
  intro p e s m args below meth c s₁ B hml hv
  obtain ⟨hargs, hP, hK⟩ := hv
  have hx := B.exec
  have hb := B.bytes
  have hr := B.returns
  have hts := atoms_spec (ws := wsX7_isHot) B.pre
  have hown : s.vm.findClass RX7 = some m.cls := findClass_of_methodNamed B.named
  have hlocks := B.notSynchronized
  have hS : va_S (WA 16 ad) s.heap s.heap [] := va_S.rf
  have hfr : entryFrame m args 2 = F0 m 0 ((lg_sl [.ref (ad 0), .int a1] ++ List.replicate (2 - (lg_sl [.ref (ad 0), .int a1]).length) Slot.unset).toArray) [] := by rw [hargs]; exact lg_entry_eq _ _ _
  rw [hfr]
  have hl := lv_entry ([.ref (ad 0), .int a1]) (n := 2) (Nat.le_of_ble_eq_true rfl)
  generalize (lg_sl [.ref (ad 0), .int a1] ++ List.replicate (2 - (lg_sl [.ref (ad 0), .int a1]).length) Slot.unset).toArray = ls at hl ⊢
  have hl : lv_has ls 2 [(0, .ref (ad 0)), (1, .int a1)] := hl
  clear hfr hargs B
  show W p l e rmX7_isHot s m args below meth c s.heap [] 0 0 (MQ below (Qiw (dC, dI) 16 ad (layM ad cy) res σ) args s 0 0 (WA 16 ad)) (F0 m 0 ls [])
  unfold fX7_isHot at hf
  obtain ⟨H, eH⟩ : ∃ H : Heap, H = s.heap := ⟨_, rfl⟩
  rw [← eH] at hP
  have hS : va_S (WA 16 ad) s.heap H [] := by rw [eH]; exact hS
  suffices K : W p l e rmX7_isHot s m args below meth c H [] 0 0 (MQ below (Qiw (dC, dI) 16 ad (layM ad cy) res σ) args s 0 0 (WA 16 ad)) (F0 m 0 ls []) by rw [eH] at K; exact K
  clear eH
  obtain ⟨locs, elocs⟩ : ∃ z : List Loc, z = [] := ⟨_, rfl⟩
  rw [← elocs] at hS ⊢
  refine lv_aload_n hx hb dX7_isHot_0 rfl (lv_at hl 0 rfl) ?_
  refine lv_iload_n hx hb dX7_isHot_1 rfl (lv_at hl 1 rfl) ?_
  refine lv_iconst (v := 1) hx hb dX7_isHot_2 (by decide) ?_
  obtain ⟨r1, qr1, hf⟩ := bd_some hf
  refine xt_callVi (As := [.int a1, .int 1]) (rest := []) (C := RX7) (ci := 7) ⟨hx, hb, hml, hown, hts⟩ 0 (mX7_ofHome l dC dI ad cy hJ σ a1 1 r1 qr1) (cwV 2 hts gX7_isHot_X7_ofHome rfl rfl rfl dmX7_ofHome ⟨Nat.le_of_ble_eq_true rfl, Nat.le_of_ble_eq_true rfl⟩) hK hP hS (by decide) (LX7_obj ad cy _) rfl rfl rfl hl.1 (Nat.le_of_ble_eq_true rfl) ⟨Nat.zero_le _, Nat.zero_le _⟩ dX7_isHot_3 (fun H locs hP hS => ?_)
  refine lv_aload_n hx hb dX7_isHot_6 rfl (lv_at hl 0 rfl) ?_
  refine lv_iload_n hx hb dX7_isHot_7 rfl (lv_at hl 1 rfl) ?_
  obtain ⟨r2, qr2, hf⟩ := bd_some hf
  refine xt_callVi (As := [.int a1]) (rest := [.int r1]) (C := RX7) (ci := 7) ⟨hx, hb, hml, hown, hts⟩ 0 (mX7_room l dC dI ad cy hJ σ a1 r2 qr2) (cwV 1 hts gX7_isHot_X7_room rfl rfl rfl dmX7_room ⟨Nat.le_of_ble_eq_true rfl, Nat.le_of_ble_eq_true rfl⟩) hK hP hS (by decide) (LX7_obj ad cy _) rfl rfl rfl hl.1 (Nat.le_of_ble_eq_true rfl) ⟨Nat.zero_le _, Nat.zero_le _⟩ dX7_isHot_8 (fun H locs hP hS => ?_)
  refine lv_icmp_le (tgt := 18) hx hb dX7_isHot_11 (by decide) (fun c3 => ?_) (fun c3 => ?_)
  · have hf := (if_pos c3).symm.trans hf
    refine lv_iconst (v := 0) hx hb dX7_isHot_18 (by decide) ?_
    exact xt_zret hx hb hr rfl hP hS (Option.some.inj hf) rfl dX7_isHot_19 hlocks
  · have hf := (if_neg c3).symm.trans hf
    refine lv_iconst (v := 1) hx hb dX7_isHot_14 (by decide) ?_
    refine lv_goto (tgt := 19) hx hb dX7_isHot_15 (by decide) ?_
    exact xt_zret hx hb hr rfl hP hS (Option.some.inj hf) rfl dX7_isHot_19 hlocks
def fX7_pierOf (σ : St) (a1 : Int32) (a2 : Int32) : Option (Int32 × St) :=
  bd (fX7_isPier σ a1) fun r1 => if r1 = 0 then (some ((-11), σ)) else (bd (fX7_lays σ) fun r3 => if a2 = 0 then (bd (fX7_p r3 a1 a2) fun r5 => some (r5, r3)) else (if a2 = 1 then (bd (fX7_p r3 a1 a2) fun r7 => some (r7, r3)) else (if a2 = 2 then (bd (fX7_points r3 a1) fun r9 => some (r9, r3)) else (if a2 = 3 then (bd (fX7_stretch r3 a1) fun r11 => some (r11, r3)) else (if a2 = 4 then (bd (fX7_ofHome r3 a1 (a2 - 4)) fun r13 => some (r13, r3)) else (if a2 = 5 then (bd (fX7_ofHome r3 a1 (a2 - 4)) fun r15 => some (r15, r3)) else (if a2 = 6 then (bd (fX7_lyingAt r3 a1) fun r17 => some (r17, r3)) else (if a2 = 7 then (gd (okI a1 8) <| some ((r3 7 a1.toNatClampNeg), r3)) else (if a2 = 8 then (bd (fX7_room r3 a1) fun r21 => some (r21, r3)) else (if a2 = 9 then (bd (fX7_isHot r3 a1) fun r23 => if r23 = 0 then (some (0, r3)) else (some (1, r3))) else (some ((-12), r3))))))))))))
abbrev rmX7_pierOf : Room := { frames := 5, cells := 0, slots := 0, locals := 109 }
theorem dmX7_pierOf : yX7_pierOf.cls = RX7 ∧ yX7_pierOf.cls ≠ "java/lang/invoke/MethodHandle" ∧ yX7_pierOf.cls ≠ "java/lang/invoke/VarHandle" ∧ (parseMethodDescriptor yX7_pierOf.desc).map (fun d => d.parameters.length) = some 2 := by decide +kernel
theorem iX7_pierOf_X7 : ∀ w ∈ wsX70, w ∈ wsX7_pierOf := fun w h => List.mem_cons_of_mem _ (List.mem_append_right _ (h))
set_option maxHeartbeats 8000000 in
set_option maxRecDepth 100000 in
theorem mX7_pierOf (l : Launch) (dC : Nat → ClassId) (dI : Nat → Nat → Nat) (ad : Nat → Nat) (cy : Nat → ClassId) (hJ : WJ 16 ad) (σ : St) (a1 : Int32) (a2 : Int32) (res : (Int32 × St)) (hf : fX7_pierOf σ a1 a2 = some res) : CMi l yX7_pierOf wsX7_pierOf rmX7_pierOf (dC, dI) (tysX cy) 16 ad (layM ad cy) [.ref (ad 0), .int a1, .int a2] σ res.1 res.2 := by
  refine Met.ofW (cc := cX7_pierOf) (maxL := 3) (ret := (some .int)) (by decide) rfl ?_
  intro p e s m args below meth c s₁ B hml hv
  obtain ⟨hargs, hP, hK⟩ := hv
  have hx := B.exec
  have hb := B.bytes
  have hr := B.returns
  have hts := atoms_spec (ws := wsX7_pierOf) B.pre
  have hown : s.vm.findClass RX7 = some m.cls := findClass_of_methodNamed B.named
  have hlocks := B.notSynchronized
  have w1 := hts (.fieldLink RX7 28 "PierRingsModel" "taken" "[I") (List.mem_of_getElem? (i := 1) rfl)
  have hS : va_S (WA 16 ad) s.heap s.heap [] := va_S.rf
  have hfr : entryFrame m args 3 = F0 m 0 ((lg_sl [.ref (ad 0), .int a1, .int a2] ++ List.replicate (3 - (lg_sl [.ref (ad 0), .int a1, .int a2]).length) Slot.unset).toArray) [] := by rw [hargs]; exact lg_entry_eq _ _ _
  rw [hfr]
  have hl := lv_entry ([.ref (ad 0), .int a1, .int a2]) (n := 3) (Nat.le_of_ble_eq_true rfl)
  generalize (lg_sl [.ref (ad 0), .int a1, .int a2] ++ List.replicate (3 - (lg_sl [.ref (ad 0), .int a1, .int a2]).length) Slot.unset).toArray = ls at hl ⊢
  have hl : lv_has ls 3 [(0, .ref (ad 0)), (1, .int a1), (2, .int a2)] := hl
  clear hfr hargs B
  show W p l e rmX7_pierOf s m args below meth c s.heap [] 0 0 (MQ below (Qiw (dC, dI) 16 ad (layM ad cy) res.1 res.2) args s 0 0 (WA 16 ad)) (F0 m 0 ls [])
  unfold fX7_pierOf at hf
  obtain ⟨H, eH⟩ : ∃ H : Heap, H = s.heap := ⟨_, rfl⟩
  rw [← eH] at hP
  have hS : va_S (WA 16 ad) s.heap H [] := by rw [eH]; exact hS
  suffices K : W p l e rmX7_pierOf s m args below meth c H [] 0 0 (MQ below (Qiw (dC, dI) 16 ad (layM ad cy) res.1 res.2) args s 0 0 (WA 16 ad)) (F0 m 0 ls []) by rw [eH] at K; exact K
  clear eH
  obtain ⟨locs, elocs⟩ : ∃ z : List Loc, z = [] := ⟨_, rfl⟩
  rw [← elocs] at hS ⊢
  refine lv_aload_n hx hb dX7_pierOf_0 rfl (lv_at hl 0 rfl) ?_
  refine lv_iload_n hx hb dX7_pierOf_1 rfl (lv_at hl 1 rfl) ?_
  obtain ⟨r1, qr1, hf⟩ := bd_some hf
  refine xt_callVi (As := [.int a1]) (rest := []) (C := RX7) (ci := 7) ⟨hx, hb, hml, hown, hts⟩ 0 (mX7_isPier l dC dI ad cy hJ σ a1 r1 qr1) (cwV 1 hts gX7_pierOf_X7_isPier rfl rfl rfl dmX7_isPier ⟨Nat.le_of_ble_eq_true rfl, Nat.le_of_ble_eq_true rfl⟩) hK hP hS (by decide) (LX7_obj ad cy _) rfl rfl rfl hl.1 (Nat.le_of_ble_eq_true rfl) ⟨Nat.zero_le _, Nat.zero_le _⟩ dX7_pierOf_2 (fun H locs hP hS => ?_)
  refine lv_if_ne (tgt := 11) hx hb dX7_pierOf_5 (by decide) (fun c2 => ?_) (fun c2 => ?_)
  · have hf := (if_neg c2).symm.trans hf
    refine lv_aload_n hx hb dX7_pierOf_11 rfl (lv_at hl 0 rfl) ?_
    obtain ⟨r3, qr3, hf⟩ := bd_some hf
    refine xt_callVv (As := []) (rest := []) (C := RX7) (ci := 7) ⟨hx, hb, hml, hown, hts⟩ 0 (mX7_lays l dC dI ad cy hJ σ r3 qr3) (cwV 0 hts gX7_pierOf_X7_lays rfl rfl rfl dmX7_lays ⟨Nat.le_of_ble_eq_true rfl, Nat.le_of_ble_eq_true rfl⟩) hK hP hS (by decide) (LX7_obj ad cy _) rfl rfl rfl hl.1 (Nat.le_of_ble_eq_true rfl) ⟨Nat.zero_le _, Nat.zero_le _⟩ dX7_pierOf_12 (fun H locs hP hS => ?_)
    refine lv_iload_n hx hb dX7_pierOf_15 rfl (lv_at hl 2 rfl) ?_
    by_cases c4 : a2 = 0
    · have hf := (if_pos c4).symm.trans hf
      refine lv_tableIn (tgt := 72) (off := 56) hx hb dX7_pierOf_16 (by rw [c4]; decide) (by rw [c4]; decide) (by rw [c4]; rfl) (by decide) ?_
      refine lv_aload_n hx hb dX7_pierOf_72 rfl (lv_at hl 0 rfl) ?_
      refine lv_iload_n hx hb dX7_pierOf_73 rfl (lv_at hl 1 rfl) ?_
      refine lv_iload_n hx hb dX7_pierOf_74 rfl (lv_at hl 2 rfl) ?_
      obtain ⟨r5, qr5, hf⟩ := bd_some hf
      refine xt_callVi (As := [.int a1, .int a2]) (rest := []) (C := RX7) (ci := 7) ⟨hx, hb, hml, hown, hts⟩ 0 (mX7_p l dC dI ad cy hJ r3 a1 a2 r5 qr5) (cwV 2 hts gX7_pierOf_X7_p rfl rfl rfl dmX7_p ⟨Nat.le_of_ble_eq_true rfl, Nat.le_of_ble_eq_true rfl⟩) hK hP hS (by decide) (LX7_obj ad cy _) rfl rfl rfl hl.1 (Nat.le_of_ble_eq_true rfl) ⟨Nat.zero_le _, Nat.zero_le _⟩ dX7_pierOf_75 (fun H locs hP hS => ?_)
      exact xt_iret hx hb hr hP hS (rs_1 hf) (rs_2 hf) dX7_pierOf_78 hlocks
    · have hf := (if_neg c4).symm.trans hf
      by_cases c6 : a2 = 1
      · have hf := (if_pos c6).symm.trans hf
        refine lv_tableIn (tgt := 72) (off := 56) hx hb dX7_pierOf_16 (by rw [c6]; decide) (by rw [c6]; decide) (by rw [c6]; rfl) (by decide) ?_
        refine lv_aload_n hx hb dX7_pierOf_72 rfl (lv_at hl 0 rfl) ?_
        refine lv_iload_n hx hb dX7_pierOf_73 rfl (lv_at hl 1 rfl) ?_
        refine lv_iload_n hx hb dX7_pierOf_74 rfl (lv_at hl 2 rfl) ?_
        obtain ⟨r7, qr7, hf⟩ := bd_some hf
        refine xt_callVi (As := [.int a1, .int a2]) (rest := []) (C := RX7) (ci := 7) ⟨hx, hb, hml, hown, hts⟩ 0 (mX7_p l dC dI ad cy hJ r3 a1 a2 r7 qr7) (cwV 2 hts gX7_pierOf_X7_p rfl rfl rfl dmX7_p ⟨Nat.le_of_ble_eq_true rfl, Nat.le_of_ble_eq_true rfl⟩) hK hP hS (by decide) (LX7_obj ad cy _) rfl rfl rfl hl.1 (Nat.le_of_ble_eq_true rfl) ⟨Nat.zero_le _, Nat.zero_le _⟩ dX7_pierOf_75 (fun H locs hP hS => ?_)
        exact xt_iret hx hb hr hP hS (rs_1 hf) (rs_2 hf) dX7_pierOf_78 hlocks
      · have hf := (if_neg c6).symm.trans hf
        by_cases c8 : a2 = 2
        · have hf := (if_pos c8).symm.trans hf
          refine lv_tableIn (tgt := 79) (off := 63) hx hb dX7_pierOf_16 (by rw [c8]; decide) (by rw [c8]; decide) (by rw [c8]; rfl) (by decide) ?_
          refine lv_aload_n hx hb dX7_pierOf_79 rfl (lv_at hl 0 rfl) ?_
          refine lv_iload_n hx hb dX7_pierOf_80 rfl (lv_at hl 1 rfl) ?_
          obtain ⟨r9, qr9, hf⟩ := bd_some hf
          refine xt_callVi (As := [.int a1]) (rest := []) (C := RX7) (ci := 7) ⟨hx, hb, hml, hown, hts⟩ 0 (mX7_points l dC dI ad cy hJ r3 a1 r9 qr9) (cwV 1 hts gX7_pierOf_X7_points rfl rfl rfl dmX7_points ⟨Nat.le_of_ble_eq_true rfl, Nat.le_of_ble_eq_true rfl⟩) hK hP hS (by decide) (LX7_obj ad cy _) rfl rfl rfl hl.1 (Nat.le_of_ble_eq_true rfl) ⟨Nat.zero_le _, Nat.zero_le _⟩ dX7_pierOf_81 (fun H locs hP hS => ?_)
          exact xt_iret hx hb hr hP hS (rs_1 hf) (rs_2 hf) dX7_pierOf_84 hlocks
        · have hf := (if_neg c8).symm.trans hf
          by_cases c10 : a2 = 3
          · have hf := (if_pos c10).symm.trans hf
            refine lv_tableIn (tgt := 85) (off := 69) hx hb dX7_pierOf_16 (by rw [c10]; decide) (by rw [c10]; decide) (by rw [c10]; rfl) (by decide) ?_
            refine lv_aload_n hx hb dX7_pierOf_85 rfl (lv_at hl 0 rfl) ?_
            refine lv_iload_n hx hb dX7_pierOf_86 rfl (lv_at hl 1 rfl) ?_
            obtain ⟨r11, qr11, hf⟩ := bd_some hf
            refine xt_callVi (As := [.int a1]) (rest := []) (C := RX7) (ci := 7) ⟨hx, hb, hml, hown, hts⟩ 0 (mX7_stretch l dC dI ad cy hJ r3 a1 r11 qr11) (cwV 1 hts gX7_pierOf_X7_stretch rfl rfl rfl dmX7_stretch ⟨Nat.le_of_ble_eq_true rfl, Nat.le_of_ble_eq_true rfl⟩) hK hP hS (by decide) (LX7_obj ad cy _) rfl rfl rfl hl.1 (Nat.le_of_ble_eq_true rfl) ⟨Nat.zero_le _, Nat.zero_le _⟩ dX7_pierOf_87 (fun H locs hP hS => ?_)
            exact xt_iret hx hb hr hP hS (rs_1 hf) (rs_2 hf) dX7_pierOf_90 hlocks
          · have hf := (if_neg c10).symm.trans hf
            by_cases c12 : a2 = 4
            · have hf := (if_pos c12).symm.trans hf
              refine lv_tableIn (tgt := 91) (off := 75) hx hb dX7_pierOf_16 (by rw [c12]; decide) (by rw [c12]; decide) (by rw [c12]; rfl) (by decide) ?_
              refine lv_aload_n hx hb dX7_pierOf_91 rfl (lv_at hl 0 rfl) ?_
              refine lv_iload_n hx hb dX7_pierOf_92 rfl (lv_at hl 1 rfl) ?_
              refine lv_iload_n hx hb dX7_pierOf_93 rfl (lv_at hl 2 rfl) ?_
              refine lv_iconst (v := 4) hx hb dX7_pierOf_94 (by decide) ?_
              refine lv_isub hx hb dX7_pierOf_95 ?_
              obtain ⟨r13, qr13, hf⟩ := bd_some hf
              refine xt_callVi (As := [.int a1, .int (a2 - 4)]) (rest := []) (C := RX7) (ci := 7) ⟨hx, hb, hml, hown, hts⟩ 0 (mX7_ofHome l dC dI ad cy hJ r3 a1 (a2 - 4) r13 qr13) (cwV 2 hts gX7_pierOf_X7_ofHome rfl rfl rfl dmX7_ofHome ⟨Nat.le_of_ble_eq_true rfl, Nat.le_of_ble_eq_true rfl⟩) hK hP hS (by decide) (LX7_obj ad cy _) rfl rfl rfl hl.1 (Nat.le_of_ble_eq_true rfl) ⟨Nat.zero_le _, Nat.zero_le _⟩ dX7_pierOf_96 (fun H locs hP hS => ?_)
              exact xt_iret hx hb hr hP hS (rs_1 hf) (rs_2 hf) dX7_pierOf_99 hlocks
            · have hf := (if_neg c12).symm.trans hf
              by_cases c14 : a2 = 5
              · have hf := (if_pos c14).symm.trans hf
                refine lv_tableIn (tgt := 91) (off := 75) hx hb dX7_pierOf_16 (by rw [c14]; decide) (by rw [c14]; decide) (by rw [c14]; rfl) (by decide) ?_
                refine lv_aload_n hx hb dX7_pierOf_91 rfl (lv_at hl 0 rfl) ?_
                refine lv_iload_n hx hb dX7_pierOf_92 rfl (lv_at hl 1 rfl) ?_
                refine lv_iload_n hx hb dX7_pierOf_93 rfl (lv_at hl 2 rfl) ?_
                refine lv_iconst (v := 4) hx hb dX7_pierOf_94 (by decide) ?_
                refine lv_isub hx hb dX7_pierOf_95 ?_
                obtain ⟨r15, qr15, hf⟩ := bd_some hf
                refine xt_callVi (As := [.int a1, .int (a2 - 4)]) (rest := []) (C := RX7) (ci := 7) ⟨hx, hb, hml, hown, hts⟩ 0 (mX7_ofHome l dC dI ad cy hJ r3 a1 (a2 - 4) r15 qr15) (cwV 2 hts gX7_pierOf_X7_ofHome rfl rfl rfl dmX7_ofHome ⟨Nat.le_of_ble_eq_true rfl, Nat.le_of_ble_eq_true rfl⟩) hK hP hS (by decide) (LX7_obj ad cy _) rfl rfl rfl hl.1 (Nat.le_of_ble_eq_true rfl) ⟨Nat.zero_le _, Nat.zero_le _⟩ dX7_pierOf_96 (fun H locs hP hS => ?_)
                exact xt_iret hx hb hr hP hS (rs_1 hf) (rs_2 hf) dX7_pierOf_99 hlocks
              · have hf := (if_neg c14).symm.trans hf
                by_cases c16 : a2 = 6
                · have hf := (if_pos c16).symm.trans hf
                  refine lv_tableIn (tgt := 100) (off := 84) hx hb dX7_pierOf_16 (by rw [c16]; decide) (by rw [c16]; decide) (by rw [c16]; rfl) (by decide) ?_
                  refine lv_aload_n hx hb dX7_pierOf_100 rfl (lv_at hl 0 rfl) ?_
                  refine lv_iload_n hx hb dX7_pierOf_101 rfl (lv_at hl 1 rfl) ?_
                  obtain ⟨r17, qr17, hf⟩ := bd_some hf
                  refine xt_callVi (As := [.int a1]) (rest := []) (C := RX7) (ci := 7) ⟨hx, hb, hml, hown, hts⟩ 0 (mX7_lyingAt l dC dI ad cy hJ r3 a1 r17 qr17) (cwV 1 hts gX7_pierOf_X7_lyingAt rfl rfl rfl dmX7_lyingAt ⟨Nat.le_of_ble_eq_true rfl, Nat.le_of_ble_eq_true rfl⟩) hK hP hS (by decide) (LX7_obj ad cy _) rfl rfl rfl hl.1 (Nat.le_of_ble_eq_true rfl) ⟨Nat.zero_le _, Nat.zero_le _⟩ dX7_pierOf_102 (fun H locs hP hS => ?_)
                  exact xt_iret hx hb hr hP hS (rs_1 hf) (rs_2 hf) dX7_pierOf_105 hlocks
                · have hf := (if_neg c16).symm.trans hf
                  by_cases c18 : a2 = 7
                  · have hf := (if_pos c18).symm.trans hf
                    refine lv_tableIn (tgt := 106) (off := 90) hx hb dX7_pierOf_16 (by rw [c18]; decide) (by rw [c18]; decide) (by rw [c18]; rfl) (by decide) ?_
                    refine lv_aload_n hx hb dX7_pierOf_106 rfl (lv_at hl 0 rfl) ?_
                    refine xt_get (ci := 7) (C := RX7) (T := TX7) (n := 25) (v := .ref (ad 7)) hx hb hts iX7_pierOf_X7 hown hK hP 0 (by decide) (LX7_obj ad cy _) rfl 10 (by decide) w1 rfl dX7_pierOf_107 ?_
                    refine lv_iload_n hx hb dX7_pierOf_110 rfl (lv_at hl 1 rfl) ?_
                    obtain ⟨g19, hf⟩ := gd_some hf
                    refine xt_iald hx hb hK hP 7 (by decide) 0 (LX7_taken ad cy _) rfl g19 dX7_pierOf_111 ?_
                    exact xt_iret hx hb hr hP hS (rs_1 hf) (rs_2 hf) dX7_pierOf_112 hlocks
                  · have hf := (if_neg c18).symm.trans hf
                    by_cases c20 : a2 = 8
                    · have hf := (if_pos c20).symm.trans hf
                      refine lv_tableIn (tgt := 113) (off := 97) hx hb dX7_pierOf_16 (by rw [c20]; decide) (by rw [c20]; decide) (by rw [c20]; rfl) (by decide) ?_
                      refine lv_aload_n hx hb dX7_pierOf_113 rfl (lv_at hl 0 rfl) ?_
                      refine lv_iload_n hx hb dX7_pierOf_114 rfl (lv_at hl 1 rfl) ?_
                      obtain ⟨r21, qr21, hf⟩ := bd_some hf
                      refine xt_callVi (As := [.int a1]) (rest := []) (C := RX7) (ci := 7) ⟨hx, hb, hml, hown, hts⟩ 0 (mX7_room l dC dI ad cy hJ r3 a1 r21 qr21) (cwV 1 hts gX7_pierOf_X7_room rfl rfl rfl dmX7_room ⟨Nat.le_of_ble_eq_true rfl, Nat.le_of_ble_eq_true rfl⟩) hK hP hS (by decide) (LX7_obj ad cy _) rfl rfl rfl hl.1 (Nat.le_of_ble_eq_true rfl) ⟨Nat.zero_le _, Nat.zero_le _⟩ dX7_pierOf_115 (fun H locs hP hS => ?_)
                      exact xt_iret hx hb hr hP hS (rs_1 hf) (rs_2 hf) dX7_pierOf_118 hlocks
                    · have hf := (if_neg c20).symm.trans hf
                      by_cases c22 : a2 = 9
                      · have hf := (if_pos c22).symm.trans hf
                        refine lv_tableIn (tgt := 119) (off := 103) hx hb dX7_pierOf_16 (by rw [c22]; decide) (by rw [c22]; decide) (by rw [c22]; rfl) (by decide) ?_
                        refine lv_aload_n hx hb dX7_pierOf_119 rfl (lv_at hl 0 rfl) ?_
                        refine lv_iload_n hx hb dX7_pierOf_120 rfl (lv_at hl 1 rfl) ?_
                        obtain ⟨r23, qr23, hf⟩ := bd_some hf
                        refine xt_callVi (As := [.int a1]) (rest := []) (C := RX7) (ci := 7) ⟨hx, hb, hml, hown, hts⟩ 0 (mX7_isHot l dC dI ad cy hJ r3 a1 r23 qr23) (cwV 1 hts gX7_pierOf_X7_isHot rfl rfl rfl dmX7_isHot ⟨Nat.le_of_ble_eq_true rfl, Nat.le_of_ble_eq_true rfl⟩) hK hP hS (by decide) (LX7_obj ad cy _) rfl rfl rfl hl.1 (Nat.le_of_ble_eq_true rfl) ⟨Nat.zero_le _, Nat.zero_le _⟩ dX7_pierOf_121 (fun H locs hP hS => ?_)
                        refine lv_if_eq (tgt := 131) hx hb dX7_pierOf_124 (by decide) (fun c24 => ?_) (fun c24 => ?_)
                        · have hf := (if_pos c24).symm.trans hf
                          refine lv_iconst (v := 0) hx hb dX7_pierOf_131 (by decide) ?_
                          exact xt_iret hx hb hr hP hS (rs_1 hf) (rs_2 hf) dX7_pierOf_132 hlocks
                        · have hf := (if_neg c24).symm.trans hf
                          refine lv_iconst (v := 1) hx hb dX7_pierOf_127 (by decide) ?_
                          refine lv_goto (tgt := 132) hx hb dX7_pierOf_128 (by decide) ?_
                          exact xt_iret hx hb hr hP hS (rs_1 hf) (rs_2 hf) dX7_pierOf_132 hlocks
                      · have hf := (if_neg c22).symm.trans hf
                        refine lv_tableOut (tgt := 133) hx hb dX7_pierOf_16 (by have ic4 : ¬ Int32.toInt a2 = 0 := lv_neT c4 (by decide); have ic6 : ¬ Int32.toInt a2 = 1 := lv_neT c6 (by decide); have ic8 : ¬ Int32.toInt a2 = 2 := lv_neT c8 (by decide); have ic10 : ¬ Int32.toInt a2 = 3 := lv_neT c10 (by decide); have ic12 : ¬ Int32.toInt a2 = 4 := lv_neT c12 (by decide); have ic14 : ¬ Int32.toInt a2 = 5 := lv_neT c14 (by decide); have ic16 : ¬ Int32.toInt a2 = 6 := lv_neT c16 (by decide); have ic18 : ¬ Int32.toInt a2 = 7 := lv_neT c18 (by decide); have ic20 : ¬ Int32.toInt a2 = 8 := lv_neT c20 (by decide); have ic22 : ¬ Int32.toInt a2 = 9 := lv_neT c22 (by decide); omega) (by decide) ?_
                        refine lv_bipush (v := (-12)) hx hb dX7_pierOf_133 (by decide) ?_
                        exact xt_iret hx hb hr hP hS (rs_1 hf) (rs_2 hf) dX7_pierOf_135 hlocks
  · have hf := (if_pos c2).symm.trans hf
    refine lv_bipush (v := (-11)) hx hb dX7_pierOf_8 (by decide) ?_
    exact xt_iret hx hb hr hP hS (rs_1 hf) (rs_2 hf) dX7_pierOf_10 hlocks
def fX7_neighbours_B134 (σ : St) (x2 : Int32) : Option (Int32 × St) :=
  some (x2, σ)
def fX7_neighbours_L86 (x1 : Int32) (K86_134 : St → Int32 → Option (Int32 × St)) : Nat → St → Int32 → Int32 → Option (Int32 × St)
  | 0, _, _, _ => none
  | n86 + 1, σ, x2, x3 => if (360 : Int32) ≤ x3 then (K86_134 σ x2) else (gd (okI x3 360) <| if (σ 8 x3.toNatClampNeg) = x1 then (gd (okI x3 360) <| if (σ 3 x3.toNatClampNeg) = (-1 : Int32) then (nm (x2 ||| 0) fun v8 => nm (x3 + 1) fun v9 => (fX7_neighbours_L86 x1 K86_134 n86) σ v8 v9) else (gd (okI x3 360) <| nm (x2 ||| ((1 : Int32) <<< ((σ 3 x3.toNatClampNeg) &&& 31))) fun v11 => nm (x3 + 1) fun v12 => (fX7_neighbours_L86 x1 K86_134 n86) σ v11 v12)) else (nm (x2 ||| 0) fun v4 => nm (x3 + 1) fun v5 => (fX7_neighbours_L86 x1 K86_134 n86) σ v4 v5))
def fX7_neighbours_B52 (σ : St) (x1 : Int32) : Option (Int32 × St) :=
  gd (okI ((4 + (2 * x1)) + 1) 816) <| nm (su σ 1 ((4 + (2 * x1)) + 1).toNatClampNeg 0) fun σ14 => bd (fX7_laysRing σ14) fun r15 => gd (okI ((4 + (2 * x1)) + 1) 816) <| nm (su r15 1 ((4 + (2 * x1)) + 1).toNatClampNeg 1) fun σ17 => fX7_neighbours_L86 x1 (fun σ y2 => fX7_neighbours_B134 σ y2) 1000 σ17 0 0
def fX7_neighbours_L27 (K27_52 : St → Option (Int32 × St)) : Nat → St → Int32 → Option (Int32 × St)
  | 0, _, _ => none
  | n27 + 1, σ, x2 => if (360 : Int32) ≤ x2 then (K27_52 σ) else (gd (okI x2 360) <| gd (okI x2 360) <| nm (su σ 8 x2.toNatClampNeg (σ 3 x2.toNatClampNeg)) fun σ21 => nm (x2 + 1) fun v22 => (fX7_neighbours_L27 K27_52 n27) σ21 v22)
def fX7_neighbours (σ : St) (a1 : Int32) : Option (Int32 × St) :=
  bd (fX7_isPier σ a1) fun r23 => if r23 = 0 then (some ((-11), σ)) else (bd (fX7_isOpen σ a1) fun r25 => if r25 = 0 then (some (0, σ)) else (bd (fX7_laysRing σ) fun r27 => fX7_neighbours_L27 (fun σ => fX7_neighbours_B52 σ a1) 1000 r27 0))
abbrev rmX7_neighbours : Room := { frames := 4, cells := 0, slots := 0, locals := 86 }
theorem dmX7_neighbours : yX7_neighbours.cls = RX7 ∧ yX7_neighbours.cls ≠ "java/lang/invoke/MethodHandle" ∧ yX7_neighbours.cls ≠ "java/lang/invoke/VarHandle" ∧ (parseMethodDescriptor yX7_neighbours.desc).map (fun d => d.parameters.length) = some 1 := by decide +kernel
theorem iX7_neighbours_X7 : ∀ w ∈ wsX70, w ∈ wsX7_neighbours := fun w h => List.mem_cons_of_mem _ (List.mem_append_right _ (h))
set_option maxHeartbeats 8000000 in
set_option maxRecDepth 100000 in
theorem mX7_neighbours (l : Launch) (dC : Nat → ClassId) (dI : Nat → Nat → Nat) (ad : Nat → Nat) (cy : Nat → ClassId) (hJ : WJ 16 ad) (σ : St) (a1 : Int32) (res : (Int32 × St)) (hf : fX7_neighbours σ a1 = some res) : CMi l yX7_neighbours wsX7_neighbours rmX7_neighbours (dC, dI) (tysX cy) 16 ad (layM ad cy) [.ref (ad 0), .int a1] σ res.1 res.2 := by
  refine Met.ofW (cc := cX7_neighbours) (maxL := 4) (ret := (some .int)) (by decide) rfl ?_
  intro p e s m args below meth c s₁ B hml hv
  obtain ⟨hargs, hP, hK⟩ := hv
  have hx := B.exec
  have hb := B.bytes
  have hr := B.returns
  have hts := atoms_spec (ws := wsX7_neighbours) B.pre
  have hown : s.vm.findClass RX7 = some m.cls := findClass_of_methodNamed B.named
  have hlocks := B.notSynchronized
  have w1 := hts (.fieldLink RX7 31 "PierRingsModel" "was" "[I") (List.mem_of_getElem? (i := 1) rfl)
  have w2 := hts (.fieldLink RX7 16 "PierRingsModel" "homes" "[I") (List.mem_of_getElem? (i := 2) rfl)
  have w3 := hts (.fieldLink RX7 9 "PierRingsModel" "all" "[I") (List.mem_of_getElem? (i := 3) rfl)
  have hS : va_S (WA 16 ad) s.heap s.heap [] := va_S.rf
  have hfr : entryFrame m args 4 = F0 m 0 ((lg_sl [.ref (ad 0), .int a1] ++ List.replicate (4 - (lg_sl [.ref (ad 0), .int a1]).length) Slot.unset).toArray) [] := by rw [hargs]; exact lg_entry_eq _ _ _
  rw [hfr]
  have hl := lv_entry ([.ref (ad 0), .int a1]) (n := 4) (Nat.le_of_ble_eq_true rfl)
  generalize (lg_sl [.ref (ad 0), .int a1] ++ List.replicate (4 - (lg_sl [.ref (ad 0), .int a1]).length) Slot.unset).toArray = ls at hl ⊢
  have hl : lv_has ls 4 [(0, .ref (ad 0)), (1, .int a1)] := hl
  clear hfr hargs B
  show W p l e rmX7_neighbours s m args below meth c s.heap [] 0 0 (MQ below (Qiw (dC, dI) 16 ad (layM ad cy) res.1 res.2) args s 0 0 (WA 16 ad)) (F0 m 0 ls [])
  have kB134 : ∀ (σ : St) (x2 : Int32), fX7_neighbours_B134 σ x2 = some res → ∀ (H : Heap) (locs : List Loc), va_P (dC, dI) vwCl (wd 16 ad (layM ad cy) σ) H → va_S (WA 16 ad) s.heap H locs → ∀ (ls : Array Slot), lv_has ls 4 [(2, .int x2)] → W p l e rmX7_neighbours s m args below meth c H locs 0 0 (MQ below (Qiw (dC, dI) 16 ad (layM ad cy) res.1 res.2) args s 0 0 (WA 16 ad)) (F0 m 134 ls []) := by
    intro σ x2 hf H locs hP hS ls hl
    unfold fX7_neighbours_B134 at hf
    refine lv_iload_n hx hb dX7_neighbours_134 rfl (lv_at hl 0 rfl) ?_
    exact xt_iret hx hb hr hP hS (rs_1 hf) (rs_2 hf) dX7_neighbours_135 hlocks
  have loop86 : ∀ (x1 : Int32) (n86 : Nat) (σ : St) (x2 : Int32) (x3 : Int32), fX7_neighbours_L86 x1 (fun σ y2 => fX7_neighbours_B134 σ y2) n86 σ x2 x3 = some res → ∀ (H : Heap) (locs : List Loc), va_P (dC, dI) vwCl (wd 16 ad (layM ad cy) σ) H → va_S (WA 16 ad) s.heap H locs → ∀ (ls : Array Slot), lv_has ls 4 [(0, .ref (ad 0)), (1, .int x1), (2, .int x2), (3, .int x3)] → W p l e rmX7_neighbours s m args below meth c H locs 0 0 (MQ below (Qiw (dC, dI) 16 ad (layM ad cy) res.1 res.2) args s 0 0 (WA 16 ad)) (F0 m 86 ls []) := by
    intro x1 n86
    induction n86 with
    | zero => intro σ x2 x3 hf; simp [fX7_neighbours_L86] at hf
    | succ n86 ih86 =>
      intro σ x2 x3 hf H locs hP hS ls hl
      rw [fX7_neighbours_L86] at hf
      refine lv_iload_n hx hb dX7_neighbours_86 rfl (lv_at hl 3 rfl) ?_
      refine lv_sipush (v := 360) hx hb dX7_neighbours_87 (by decide) ?_
      refine lv_icmp_ge (tgt := 134) hx hb dX7_neighbours_90 (by decide) (fun c1 => ?_) (fun c1 => ?_)
      · have hf := (if_pos c1).symm.trans hf
        exact kB134 σ x2 hf H locs hP hS ls (lv_sub hl [2] rfl)
      · have hf := (if_neg c1).symm.trans hf
        refine lv_iload_n hx hb dX7_neighbours_93 rfl (lv_at hl 2 rfl) ?_
        refine lv_aload_n hx hb dX7_neighbours_94 rfl (lv_at hl 0 rfl) ?_
        refine xt_get (ci := 7) (C := RX7) (T := TX7) (n := 25) (v := .ref (ad 8)) hx hb hts iX7_neighbours_X7 hown hK hP 0 (by decide) (LX7_obj ad cy _) rfl 11 (by decide) w1 rfl dX7_neighbours_95 ?_
        refine lv_iload_n hx hb dX7_neighbours_98 rfl (lv_at hl 3 rfl) ?_
        obtain ⟨g2, hf⟩ := gd_some hf
        refine xt_iald hx hb hK hP 8 (by decide) 0 (LX7_was ad cy _) rfl g2 dX7_neighbours_99 ?_
        refine lv_iload_n hx hb dX7_neighbours_100 rfl (lv_at hl 1 rfl) ?_
        refine lv_icmp_ne (tgt := 125) hx hb dX7_neighbours_101 (by decide) (fun c3 => ?_) (fun c3 => ?_)
        · have hf := (if_neg c3).symm.trans hf
          refine lv_iconst (v := 0) hx hb dX7_neighbours_125 (by decide) ?_
          refine lv_ior hx hb dX7_neighbours_126 ?_
          refine lv_topi (fun v4 ev4 => ?_)
          have hf := nm_to hf ev4
          refine lv_istore_n (lv' := [(2, .int v4), (0, .ref (ad 0)), (1, .int x1), (3, .int x3)]) hx hb dX7_neighbours_127 rfl hl (by decide) rfl (fun ls hl => ?_)
          obtain ⟨v5, ev5⟩ : ∃ y : Int32, y = x3 + 1 := ⟨_, rfl⟩
          have hf := nm_to hf ev5
          refine lv_iinc (v := v5) (lv' := [(3, .int v5), (2, .int v4), (0, .ref (ad 0)), (1, .int x1)]) hx hb dX7_neighbours_128 hl (k := 3) rfl (by rw [ev5]; rfl) (by decide) rfl (fun ls hl => ?_)
          refine lv_goto (tgt := 86) hx hb dX7_neighbours_131 (by decide) ?_
          exact ih86 σ v4 v5 hf H locs hP hS ls (lv_sub hl [2, 3, 1, 0] rfl)
        · have hf := (if_pos c3).symm.trans hf
          refine lv_aload_n hx hb dX7_neighbours_104 rfl (lv_at hl 0 rfl) ?_
          refine xt_get (ci := 7) (C := RX7) (T := TX7) (n := 25) (v := .ref (ad 3)) hx hb hts iX7_neighbours_X7 hown hK hP 0 (by decide) (LX7_obj ad cy _) rfl 6 (by decide) w2 rfl dX7_neighbours_105 ?_
          refine lv_iload_n hx hb dX7_neighbours_108 rfl (lv_at hl 3 rfl) ?_
          obtain ⟨g6, hf⟩ := gd_some hf
          refine xt_iald hx hb hK hP 3 (by decide) 0 (LX7_homes ad cy _) rfl g6 dX7_neighbours_109 ?_
          refine lv_iconst (v := (-1)) hx hb dX7_neighbours_110 (by decide) ?_
          refine lv_icmp_eq (tgt := 125) hx hb dX7_neighbours_111 (by decide) (fun c7 => ?_) (fun c7 => ?_)
          · have hf := (if_pos c7).symm.trans hf
            refine lv_iconst (v := 0) hx hb dX7_neighbours_125 (by decide) ?_
            refine lv_ior hx hb dX7_neighbours_126 ?_
            refine lv_topi (fun v8 ev8 => ?_)
            have hf := nm_to hf ev8
            refine lv_istore_n (lv' := [(2, .int v8), (0, .ref (ad 0)), (1, .int x1), (3, .int x3)]) hx hb dX7_neighbours_127 rfl hl (by decide) rfl (fun ls hl => ?_)
            obtain ⟨v9, ev9⟩ : ∃ y : Int32, y = x3 + 1 := ⟨_, rfl⟩
            have hf := nm_to hf ev9
            refine lv_iinc (v := v9) (lv' := [(3, .int v9), (2, .int v8), (0, .ref (ad 0)), (1, .int x1)]) hx hb dX7_neighbours_128 hl (k := 3) rfl (by rw [ev9]; rfl) (by decide) rfl (fun ls hl => ?_)
            refine lv_goto (tgt := 86) hx hb dX7_neighbours_131 (by decide) ?_
            exact ih86 σ v8 v9 hf H locs hP hS ls (lv_sub hl [2, 3, 1, 0] rfl)
          · have hf := (if_neg c7).symm.trans hf
            refine lv_iconst (v := 1) hx hb dX7_neighbours_114 (by decide) ?_
            refine lv_aload_n hx hb dX7_neighbours_115 rfl (lv_at hl 0 rfl) ?_
            refine xt_get (ci := 7) (C := RX7) (T := TX7) (n := 25) (v := .ref (ad 3)) hx hb hts iX7_neighbours_X7 hown hK hP 0 (by decide) (LX7_obj ad cy _) rfl 6 (by decide) w2 rfl dX7_neighbours_116 ?_
            refine lv_iload_n hx hb dX7_neighbours_119 rfl (lv_at hl 3 rfl) ?_
            obtain ⟨g10, hf⟩ := gd_some hf
            refine xt_iald hx hb hK hP 3 (by decide) 0 (LX7_homes ad cy _) rfl g10 dX7_neighbours_120 ?_
            refine lv_ishl hx hb dX7_neighbours_121 ?_
            refine lv_goto (tgt := 126) hx hb dX7_neighbours_122 (by decide) ?_
            refine lv_ior hx hb dX7_neighbours_126 ?_
            refine lv_topi (fun v11 ev11 => ?_)
            have hf := nm_to hf ev11
            refine lv_istore_n (lv' := [(2, .int v11), (0, .ref (ad 0)), (1, .int x1), (3, .int x3)]) hx hb dX7_neighbours_127 rfl hl (by decide) rfl (fun ls hl => ?_)
            obtain ⟨v12, ev12⟩ : ∃ y : Int32, y = x3 + 1 := ⟨_, rfl⟩
            have hf := nm_to hf ev12
            refine lv_iinc (v := v12) (lv' := [(3, .int v12), (2, .int v11), (0, .ref (ad 0)), (1, .int x1)]) hx hb dX7_neighbours_128 hl (k := 3) rfl (by rw [ev12]; rfl) (by decide) rfl (fun ls hl => ?_)
            refine lv_goto (tgt := 86) hx hb dX7_neighbours_131 (by decide) ?_
            exact ih86 σ v11 v12 hf H locs hP hS ls (lv_sub hl [2, 3, 1, 0] rfl)
  have kB52 : ∀ (σ : St) (x1 : Int32), fX7_neighbours_B52 σ x1 = some res → ∀ (H : Heap) (locs : List Loc), va_P (dC, dI) vwCl (wd 16 ad (layM ad cy) σ) H → va_S (WA 16 ad) s.heap H locs → ∀ (ls : Array Slot), lv_has ls 4 [(0, .ref (ad 0)), (1, .int x1)] → W p l e rmX7_neighbours s m args below meth c H locs 0 0 (MQ below (Qiw (dC, dI) 16 ad (layM ad cy) res.1 res.2) args s 0 0 (WA 16 ad)) (F0 m 52 ls []) := by
    intro σ x1 hf H locs hP hS ls hl
    unfold fX7_neighbours_B52 at hf
    refine lv_aload_n hx hb dX7_neighbours_52 rfl (lv_at hl 0 rfl) ?_
    refine xt_get (ci := 7) (C := RX7) (T := TX7) (n := 25) (v := .ref (ad 1)) hx hb hts iX7_neighbours_X7 hown hK hP 0 (by decide) (LX7_obj ad cy _) rfl 0 (by decide) w3 rfl dX7_neighbours_53 ?_
    refine lv_iconst (v := 4) hx hb dX7_neighbours_56 (by decide) ?_
    refine lv_iconst (v := 2) hx hb dX7_neighbours_57 (by decide) ?_
    refine lv_iload_n hx hb dX7_neighbours_58 rfl (lv_at hl 1 rfl) ?_
    refine lv_imul hx hb dX7_neighbours_59 ?_
    refine lv_iadd hx hb dX7_neighbours_60 ?_
    refine lv_iconst (v := 1) hx hb dX7_neighbours_61 (by decide) ?_
    refine lv_iadd hx hb dX7_neighbours_62 ?_
    refine lv_iconst (v := 0) hx hb dX7_neighbours_63 (by decide) ?_
    obtain ⟨g13, hf⟩ := gd_some hf
    refine xt_iast hx hb hK hP hJ hS 1 (by decide) 0 (LX7_all ad cy) rfl g13 dX7_neighbours_64 (fun H locs hP hS => ?_)
    obtain ⟨σ14, eσ14⟩ : ∃ z : St, z = su σ 1 ((4 + (2 * x1)) + 1).toNatClampNeg 0 := ⟨_, rfl⟩
    rw [← eσ14] at hP
    have hf := nm_to hf eσ14
    refine lv_aload_n hx hb dX7_neighbours_65 rfl (lv_at hl 0 rfl) ?_
    obtain ⟨r15, qr15, hf⟩ := bd_some hf
    refine xt_callVv (As := []) (rest := []) (C := RX7) (ci := 7) ⟨hx, hb, hml, hown, hts⟩ 0 (mX7_laysRing l dC dI ad cy hJ σ14 r15 qr15) (cwV 0 hts gX7_neighbours_X7_laysRing rfl rfl rfl dmX7_laysRing ⟨Nat.le_of_ble_eq_true rfl, Nat.le_of_ble_eq_true rfl⟩) hK hP hS (by decide) (LX7_obj ad cy _) rfl rfl rfl hl.1 (Nat.le_of_ble_eq_true rfl) ⟨Nat.zero_le _, Nat.zero_le _⟩ dX7_neighbours_66 (fun H locs hP hS => ?_)
    refine lv_aload_n hx hb dX7_neighbours_69 rfl (lv_at hl 0 rfl) ?_
    refine xt_get (ci := 7) (C := RX7) (T := TX7) (n := 25) (v := .ref (ad 1)) hx hb hts iX7_neighbours_X7 hown hK hP 0 (by decide) (LX7_obj ad cy _) rfl 0 (by decide) w3 rfl dX7_neighbours_70 ?_
    refine lv_iconst (v := 4) hx hb dX7_neighbours_73 (by decide) ?_
    refine lv_iconst (v := 2) hx hb dX7_neighbours_74 (by decide) ?_
    refine lv_iload_n hx hb dX7_neighbours_75 rfl (lv_at hl 1 rfl) ?_
    refine lv_imul hx hb dX7_neighbours_76 ?_
    refine lv_iadd hx hb dX7_neighbours_77 ?_
    refine lv_iconst (v := 1) hx hb dX7_neighbours_78 (by decide) ?_
    refine lv_iadd hx hb dX7_neighbours_79 ?_
    refine lv_iconst (v := 1) hx hb dX7_neighbours_80 (by decide) ?_
    obtain ⟨g16, hf⟩ := gd_some hf
    refine xt_iast hx hb hK hP hJ hS 1 (by decide) 0 (LX7_all ad cy) rfl g16 dX7_neighbours_81 (fun H locs hP hS => ?_)
    obtain ⟨σ17, eσ17⟩ : ∃ z : St, z = su r15 1 ((4 + (2 * x1)) + 1).toNatClampNeg 1 := ⟨_, rfl⟩
    rw [← eσ17] at hP
    have hf := nm_to hf eσ17
    refine lv_iconst (v := 0) hx hb dX7_neighbours_82 (by decide) ?_
    refine lv_istore_n (lv' := [(2, .int 0), (0, .ref (ad 0)), (1, .int x1)]) hx hb dX7_neighbours_83 rfl hl (by decide) rfl (fun ls hl => ?_)
    refine lv_iconst (v := 0) hx hb dX7_neighbours_84 (by decide) ?_
    refine lv_istore_n (lv' := [(3, .int 0), (2, .int 0), (0, .ref (ad 0)), (1, .int x1)]) hx hb dX7_neighbours_85 rfl hl (by decide) rfl (fun ls hl => ?_)
    exact loop86 x1 1000 σ17 0 0 hf H locs hP hS ls (lv_sub hl [2, 3, 1, 0] rfl)
  have loop27 : ∀ (x1 : Int32) (n27 : Nat) (σ : St) (x2 : Int32), fX7_neighbours_L27 (fun σ => fX7_neighbours_B52 σ x1) n27 σ x2 = some res → ∀ (H : Heap) (locs : List Loc), va_P (dC, dI) vwCl (wd 16 ad (layM ad cy) σ) H → va_S (WA 16 ad) s.heap H locs → ∀ (ls : Array Slot), lv_has ls 4 [(0, .ref (ad 0)), (1, .int x1), (2, .int x2)] → W p l e rmX7_neighbours s m args below meth c H locs 0 0 (MQ below (Qiw (dC, dI) 16 ad (layM ad cy) res.1 res.2) args s 0 0 (WA 16 ad)) (F0 m 27 ls []) := by
    intro x1 n27
    induction n27 with
    | zero => intro σ x2 hf; simp [fX7_neighbours_L27] at hf
    | succ n27 ih27 =>
      intro σ x2 hf H locs hP hS ls hl
      rw [fX7_neighbours_L27] at hf
      refine lv_iload_n hx hb dX7_neighbours_27 rfl (lv_at hl 2 rfl) ?_
      refine lv_sipush (v := 360) hx hb dX7_neighbours_28 (by decide) ?_
      refine lv_icmp_ge (tgt := 52) hx hb dX7_neighbours_31 (by decide) (fun c18 => ?_) (fun c18 => ?_)
      · have hf := (if_pos c18).symm.trans hf
        exact kB52 σ x1 hf H locs hP hS ls (lv_sub hl [0, 1] rfl)
      · have hf := (if_neg c18).symm.trans hf
        refine lv_aload_n hx hb dX7_neighbours_34 rfl (lv_at hl 0 rfl) ?_
        refine xt_get (ci := 7) (C := RX7) (T := TX7) (n := 25) (v := .ref (ad 8)) hx hb hts iX7_neighbours_X7 hown hK hP 0 (by decide) (LX7_obj ad cy _) rfl 11 (by decide) w1 rfl dX7_neighbours_35 ?_
        refine lv_iload_n hx hb dX7_neighbours_38 rfl (lv_at hl 2 rfl) ?_
        refine lv_aload_n hx hb dX7_neighbours_39 rfl (lv_at hl 0 rfl) ?_
        refine xt_get (ci := 7) (C := RX7) (T := TX7) (n := 25) (v := .ref (ad 3)) hx hb hts iX7_neighbours_X7 hown hK hP 0 (by decide) (LX7_obj ad cy _) rfl 6 (by decide) w2 rfl dX7_neighbours_40 ?_
        refine lv_iload_n hx hb dX7_neighbours_43 rfl (lv_at hl 2 rfl) ?_
        obtain ⟨g19, hf⟩ := gd_some hf
        refine xt_iald hx hb hK hP 3 (by decide) 0 (LX7_homes ad cy _) rfl g19 dX7_neighbours_44 ?_
        obtain ⟨g20, hf⟩ := gd_some hf
        refine xt_iast hx hb hK hP hJ hS 8 (by decide) 0 (LX7_was ad cy) rfl g20 dX7_neighbours_45 (fun H locs hP hS => ?_)
        obtain ⟨σ21, eσ21⟩ : ∃ z : St, z = su σ 8 x2.toNatClampNeg (σ 3 x2.toNatClampNeg) := ⟨_, rfl⟩
        rw [← eσ21] at hP
        have hf := nm_to hf eσ21
        obtain ⟨v22, ev22⟩ : ∃ y : Int32, y = x2 + 1 := ⟨_, rfl⟩
        have hf := nm_to hf ev22
        refine lv_iinc (v := v22) (lv' := [(2, .int v22), (0, .ref (ad 0)), (1, .int x1)]) hx hb dX7_neighbours_46 hl (k := 2) rfl (by rw [ev22]; rfl) (by decide) rfl (fun ls hl => ?_)
        refine lv_goto (tgt := 27) hx hb dX7_neighbours_49 (by decide) ?_
        exact ih27 σ21 v22 hf H locs hP hS ls (lv_sub hl [1, 2, 0] rfl)
  unfold fX7_neighbours at hf
  obtain ⟨H, eH⟩ : ∃ H : Heap, H = s.heap := ⟨_, rfl⟩
  rw [← eH] at hP
  have hS : va_S (WA 16 ad) s.heap H [] := by rw [eH]; exact hS
  suffices K : W p l e rmX7_neighbours s m args below meth c H [] 0 0 (MQ below (Qiw (dC, dI) 16 ad (layM ad cy) res.1 res.2) args s 0 0 (WA 16 ad)) (F0 m 0 ls []) by rw [eH] at K; exact K
  clear eH
  obtain ⟨locs, elocs⟩ : ∃ z : List Loc, z = [] := ⟨_, rfl⟩
  rw [← elocs] at hS ⊢
  refine lv_aload_n hx hb dX7_neighbours_0 rfl (lv_at hl 0 rfl) ?_
  refine lv_iload_n hx hb dX7_neighbours_1 rfl (lv_at hl 1 rfl) ?_
  obtain ⟨r23, qr23, hf⟩ := bd_some hf
  refine xt_callVi (As := [.int a1]) (rest := []) (C := RX7) (ci := 7) ⟨hx, hb, hml, hown, hts⟩ 0 (mX7_isPier l dC dI ad cy hJ σ a1 r23 qr23) (cwV 1 hts gX7_neighbours_X7_isPier rfl rfl rfl dmX7_isPier ⟨Nat.le_of_ble_eq_true rfl, Nat.le_of_ble_eq_true rfl⟩) hK hP hS (by decide) (LX7_obj ad cy _) rfl rfl rfl hl.1 (Nat.le_of_ble_eq_true rfl) ⟨Nat.zero_le _, Nat.zero_le _⟩ dX7_neighbours_2 (fun H locs hP hS => ?_)
  refine lv_if_ne (tgt := 11) hx hb dX7_neighbours_5 (by decide) (fun c24 => ?_) (fun c24 => ?_)
  · have hf := (if_neg c24).symm.trans hf
    refine lv_aload_n hx hb dX7_neighbours_11 rfl (lv_at hl 0 rfl) ?_
    refine lv_iload_n hx hb dX7_neighbours_12 rfl (lv_at hl 1 rfl) ?_
    obtain ⟨r25, qr25, hf⟩ := bd_some hf
    refine xt_callVi (As := [.int a1]) (rest := []) (C := RX7) (ci := 7) ⟨hx, hb, hml, hown, hts⟩ 0 (mX7_isOpen l dC dI ad cy hJ σ a1 r25 qr25) (cwV 1 hts gX7_neighbours_X7_isOpen rfl rfl rfl dmX7_isOpen ⟨Nat.le_of_ble_eq_true rfl, Nat.le_of_ble_eq_true rfl⟩) hK hP hS (by decide) (LX7_obj ad cy _) rfl rfl rfl hl.1 (Nat.le_of_ble_eq_true rfl) ⟨Nat.zero_le _, Nat.zero_le _⟩ dX7_neighbours_13 (fun H locs hP hS => ?_)
    refine lv_if_ne (tgt := 21) hx hb dX7_neighbours_16 (by decide) (fun c26 => ?_) (fun c26 => ?_)
    · have hf := (if_neg c26).symm.trans hf
      refine lv_aload_n hx hb dX7_neighbours_21 rfl (lv_at hl 0 rfl) ?_
      obtain ⟨r27, qr27, hf⟩ := bd_some hf
      refine xt_callVv (As := []) (rest := []) (C := RX7) (ci := 7) ⟨hx, hb, hml, hown, hts⟩ 0 (mX7_laysRing l dC dI ad cy hJ σ r27 qr27) (cwV 0 hts gX7_neighbours_X7_laysRing rfl rfl rfl dmX7_laysRing ⟨Nat.le_of_ble_eq_true rfl, Nat.le_of_ble_eq_true rfl⟩) hK hP hS (by decide) (LX7_obj ad cy _) rfl rfl rfl hl.1 (Nat.le_of_ble_eq_true rfl) ⟨Nat.zero_le _, Nat.zero_le _⟩ dX7_neighbours_22 (fun H locs hP hS => ?_)
      refine lv_iconst (v := 0) hx hb dX7_neighbours_25 (by decide) ?_
      refine lv_istore_n (lv' := [(2, .int 0), (0, .ref (ad 0)), (1, .int a1)]) hx hb dX7_neighbours_26 rfl hl (by decide) rfl (fun ls hl => ?_)
      exact loop27 a1 1000 r27 0 hf H locs hP hS ls (lv_sub hl [1, 2, 0] rfl)
    · have hf := (if_pos c26).symm.trans hf
      refine lv_iconst (v := 0) hx hb dX7_neighbours_19 (by decide) ?_
      exact xt_iret hx hb hr hP hS (rs_1 hf) (rs_2 hf) dX7_neighbours_20 hlocks
  · have hf := (if_pos c24).symm.trans hf
    refine lv_bipush (v := (-11)) hx hb dX7_neighbours_8 (by decide) ?_
    exact xt_iret hx hb hr hP hS (rs_1 hf) (rs_2 hf) dX7_neighbours_10 hlocks
def fX7_bargeOf (σ : St) (a1 : Int32) (a2 : Int32) : Option (Int32 × St) :=
  bd (fX7_isBarge σ a1) fun r1 => if r1 = 0 then (some ((-11), σ)) else (bd (fX7_lays σ) fun r3 => if a2 = 0 then (bd (fX7_b r3 a1 a2) fun r5 => some (r5, r3)) else (if a2 = 1 then (bd (fX7_b r3 a1 a2) fun r7 => some (r7, r3)) else (if a2 = 2 then (bd (fX7_b r3 a1 0) fun r9 => bd (fX7_placeOf r3 r9) fun r10 => some (r10, r3)) else (if a2 = 3 then (gd (okI a1 24) <| if (r3 5 a1.toNatClampNeg) = (-1 : Int32) then (some ((-15), r3)) else (gd (okI a1 24) <| some ((r3 5 a1.toNatClampNeg), r3))) else (if a2 = 4 then (gd (okI a1 24) <| some ((r3 6 a1.toNatClampNeg), r3)) else (some ((-12), r3)))))))
abbrev rmX7_bargeOf : Room := { frames := 5, cells := 0, slots := 0, locals := 109 }
theorem dmX7_bargeOf : yX7_bargeOf.cls = RX7 ∧ yX7_bargeOf.cls ≠ "java/lang/invoke/MethodHandle" ∧ yX7_bargeOf.cls ≠ "java/lang/invoke/VarHandle" ∧ (parseMethodDescriptor yX7_bargeOf.desc).map (fun d => d.parameters.length) = some 2 := by decide +kernel
theorem iX7_bargeOf_X7 : ∀ w ∈ wsX70, w ∈ wsX7_bargeOf := fun w h => List.mem_cons_of_mem _ (List.mem_append_right _ (h))
set_option maxHeartbeats 8000000 in
set_option maxRecDepth 100000 in
theorem mX7_bargeOf (l : Launch) (dC : Nat → ClassId) (dI : Nat → Nat → Nat) (ad : Nat → Nat) (cy : Nat → ClassId) (hJ : WJ 16 ad) (σ : St) (a1 : Int32) (a2 : Int32) (res : (Int32 × St)) (hf : fX7_bargeOf σ a1 a2 = some res) : CMi l yX7_bargeOf wsX7_bargeOf rmX7_bargeOf (dC, dI) (tysX cy) 16 ad (layM ad cy) [.ref (ad 0), .int a1, .int a2] σ res.1 res.2 := by
  refine Met.ofW (cc := cX7_bargeOf) (maxL := 3) (ret := (some .int)) (by decide) rfl ?_
  intro p e s m args below meth c s₁ B hml hv
  obtain ⟨hargs, hP, hK⟩ := hv
  have hx := B.exec
  have hb := B.bytes
  have hr := B.returns
  have hts := atoms_spec (ws := wsX7_bargeOf) B.pre
  have hown : s.vm.findClass RX7 = some m.cls := findClass_of_methodNamed B.named
  have hlocks := B.notSynchronized
  have w1 := hts (.fieldLink RX7 22 "PierRingsModel" "lies" "[I") (List.mem_of_getElem? (i := 1) rfl)
  have w2 := hts (.fieldLink RX7 25 "PierRingsModel" "passed" "[I") (List.mem_of_getElem? (i := 2) rfl)
  have hS : va_S (WA 16 ad) s.heap s.heap [] := va_S.rf
  have hfr : entryFrame m args 3 = F0 m 0 ((lg_sl [.ref (ad 0), .int a1, .int a2] ++ List.replicate (3 - (lg_sl [.ref (ad 0), .int a1, .int a2]).length) Slot.unset).toArray) [] := by rw [hargs]; exact lg_entry_eq _ _ _
  rw [hfr]
  have hl := lv_entry ([.ref (ad 0), .int a1, .int a2]) (n := 3) (Nat.le_of_ble_eq_true rfl)
  generalize (lg_sl [.ref (ad 0), .int a1, .int a2] ++ List.replicate (3 - (lg_sl [.ref (ad 0), .int a1, .int a2]).length) Slot.unset).toArray = ls at hl ⊢
  have hl : lv_has ls 3 [(0, .ref (ad 0)), (1, .int a1), (2, .int a2)] := hl
  clear hfr hargs B
  show W p l e rmX7_bargeOf s m args below meth c s.heap [] 0 0 (MQ below (Qiw (dC, dI) 16 ad (layM ad cy) res.1 res.2) args s 0 0 (WA 16 ad)) (F0 m 0 ls [])
  unfold fX7_bargeOf at hf
  obtain ⟨H, eH⟩ : ∃ H : Heap, H = s.heap := ⟨_, rfl⟩
  rw [← eH] at hP
  have hS : va_S (WA 16 ad) s.heap H [] := by rw [eH]; exact hS
  suffices K : W p l e rmX7_bargeOf s m args below meth c H [] 0 0 (MQ below (Qiw (dC, dI) 16 ad (layM ad cy) res.1 res.2) args s 0 0 (WA 16 ad)) (F0 m 0 ls []) by rw [eH] at K; exact K
  clear eH
  obtain ⟨locs, elocs⟩ : ∃ z : List Loc, z = [] := ⟨_, rfl⟩
  rw [← elocs] at hS ⊢
  refine lv_aload_n hx hb dX7_bargeOf_0 rfl (lv_at hl 0 rfl) ?_
  refine lv_iload_n hx hb dX7_bargeOf_1 rfl (lv_at hl 1 rfl) ?_
  obtain ⟨r1, qr1, hf⟩ := bd_some hf
  refine xt_callVi (As := [.int a1]) (rest := []) (C := RX7) (ci := 7) ⟨hx, hb, hml, hown, hts⟩ 0 (mX7_isBarge l dC dI ad cy hJ σ a1 r1 qr1) (cwV 1 hts gX7_bargeOf_X7_isBarge rfl rfl rfl dmX7_isBarge ⟨Nat.le_of_ble_eq_true rfl, Nat.le_of_ble_eq_true rfl⟩) hK hP hS (by decide) (LX7_obj ad cy _) rfl rfl rfl hl.1 (Nat.le_of_ble_eq_true rfl) ⟨Nat.zero_le _, Nat.zero_le _⟩ dX7_bargeOf_2 (fun H locs hP hS => ?_)
  refine lv_if_ne (tgt := 11) hx hb dX7_bargeOf_5 (by decide) (fun c2 => ?_) (fun c2 => ?_)
  · have hf := (if_neg c2).symm.trans hf
    refine lv_aload_n hx hb dX7_bargeOf_11 rfl (lv_at hl 0 rfl) ?_
    obtain ⟨r3, qr3, hf⟩ := bd_some hf
    refine xt_callVv (As := []) (rest := []) (C := RX7) (ci := 7) ⟨hx, hb, hml, hown, hts⟩ 0 (mX7_lays l dC dI ad cy hJ σ r3 qr3) (cwV 0 hts gX7_bargeOf_X7_lays rfl rfl rfl dmX7_lays ⟨Nat.le_of_ble_eq_true rfl, Nat.le_of_ble_eq_true rfl⟩) hK hP hS (by decide) (LX7_obj ad cy _) rfl rfl rfl hl.1 (Nat.le_of_ble_eq_true rfl) ⟨Nat.zero_le _, Nat.zero_le _⟩ dX7_bargeOf_12 (fun H locs hP hS => ?_)
    refine lv_iload_n hx hb dX7_bargeOf_15 rfl (lv_at hl 2 rfl) ?_
    by_cases c4 : a2 = 0
    · have hf := (if_pos c4).symm.trans hf
      refine lv_tableIn (tgt := 52) (off := 36) hx hb dX7_bargeOf_16 (by rw [c4]; decide) (by rw [c4]; decide) (by rw [c4]; rfl) (by decide) ?_
      refine lv_aload_n hx hb dX7_bargeOf_52 rfl (lv_at hl 0 rfl) ?_
      refine lv_iload_n hx hb dX7_bargeOf_53 rfl (lv_at hl 1 rfl) ?_
      refine lv_iload_n hx hb dX7_bargeOf_54 rfl (lv_at hl 2 rfl) ?_
      obtain ⟨r5, qr5, hf⟩ := bd_some hf
      refine xt_callVi (As := [.int a1, .int a2]) (rest := []) (C := RX7) (ci := 7) ⟨hx, hb, hml, hown, hts⟩ 0 (mX7_b l dC dI ad cy hJ r3 a1 a2 r5 qr5) (cwV 2 hts gX7_bargeOf_X7_b rfl rfl rfl dmX7_b ⟨Nat.le_of_ble_eq_true rfl, Nat.le_of_ble_eq_true rfl⟩) hK hP hS (by decide) (LX7_obj ad cy _) rfl rfl rfl hl.1 (Nat.le_of_ble_eq_true rfl) ⟨Nat.zero_le _, Nat.zero_le _⟩ dX7_bargeOf_55 (fun H locs hP hS => ?_)
      exact xt_iret hx hb hr hP hS (rs_1 hf) (rs_2 hf) dX7_bargeOf_58 hlocks
    · have hf := (if_neg c4).symm.trans hf
      by_cases c6 : a2 = 1
      · have hf := (if_pos c6).symm.trans hf
        refine lv_tableIn (tgt := 52) (off := 36) hx hb dX7_bargeOf_16 (by rw [c6]; decide) (by rw [c6]; decide) (by rw [c6]; rfl) (by decide) ?_
        refine lv_aload_n hx hb dX7_bargeOf_52 rfl (lv_at hl 0 rfl) ?_
        refine lv_iload_n hx hb dX7_bargeOf_53 rfl (lv_at hl 1 rfl) ?_
        refine lv_iload_n hx hb dX7_bargeOf_54 rfl (lv_at hl 2 rfl) ?_
        obtain ⟨r7, qr7, hf⟩ := bd_some hf
        refine xt_callVi (As := [.int a1, .int a2]) (rest := []) (C := RX7) (ci := 7) ⟨hx, hb, hml, hown, hts⟩ 0 (mX7_b l dC dI ad cy hJ r3 a1 a2 r7 qr7) (cwV 2 hts gX7_bargeOf_X7_b rfl rfl rfl dmX7_b ⟨Nat.le_of_ble_eq_true rfl, Nat.le_of_ble_eq_true rfl⟩) hK hP hS (by decide) (LX7_obj ad cy _) rfl rfl rfl hl.1 (Nat.le_of_ble_eq_true rfl) ⟨Nat.zero_le _, Nat.zero_le _⟩ dX7_bargeOf_55 (fun H locs hP hS => ?_)
        exact xt_iret hx hb hr hP hS (rs_1 hf) (rs_2 hf) dX7_bargeOf_58 hlocks
      · have hf := (if_neg c6).symm.trans hf
        by_cases c8 : a2 = 2
        · have hf := (if_pos c8).symm.trans hf
          refine lv_tableIn (tgt := 59) (off := 43) hx hb dX7_bargeOf_16 (by rw [c8]; decide) (by rw [c8]; decide) (by rw [c8]; rfl) (by decide) ?_
          refine lv_aload_n hx hb dX7_bargeOf_59 rfl (lv_at hl 0 rfl) ?_
          refine lv_iload_n hx hb dX7_bargeOf_60 rfl (lv_at hl 1 rfl) ?_
          refine lv_iconst (v := 0) hx hb dX7_bargeOf_61 (by decide) ?_
          obtain ⟨r9, qr9, hf⟩ := bd_some hf
          refine xt_callVi (As := [.int a1, .int 0]) (rest := []) (C := RX7) (ci := 7) ⟨hx, hb, hml, hown, hts⟩ 0 (mX7_b l dC dI ad cy hJ r3 a1 0 r9 qr9) (cwV 2 hts gX7_bargeOf_X7_b rfl rfl rfl dmX7_b ⟨Nat.le_of_ble_eq_true rfl, Nat.le_of_ble_eq_true rfl⟩) hK hP hS (by decide) (LX7_obj ad cy _) rfl rfl rfl hl.1 (Nat.le_of_ble_eq_true rfl) ⟨Nat.zero_le _, Nat.zero_le _⟩ dX7_bargeOf_62 (fun H locs hP hS => ?_)
          obtain ⟨r10, qr10, hf⟩ := bd_some hf
          refine xt_callSi (As := [.int r9]) (rest := []) ⟨hx, hb, hml, hown, hts⟩ (mX7_placeOf l dC dI ad cy hJ r3 r9 r10 qr10) (va_cwS 1 hts gX7_bargeOf_X7_placeOf rfl rfl rfl dmX7_placeOf ⟨Nat.le_of_ble_eq_true rfl, Nat.le_of_ble_eq_true rfl⟩) hK hP hS rfl rfl hl.1 (Nat.le_of_ble_eq_true rfl) ⟨Nat.zero_le _, Nat.zero_le _⟩ dX7_bargeOf_65 (fun H locs hP hS => ?_)
          exact xt_iret hx hb hr hP hS (rs_1 hf) (rs_2 hf) dX7_bargeOf_68 hlocks
        · have hf := (if_neg c8).symm.trans hf
          by_cases c11 : a2 = 3
          · have hf := (if_pos c11).symm.trans hf
            refine lv_tableIn (tgt := 69) (off := 53) hx hb dX7_bargeOf_16 (by rw [c11]; decide) (by rw [c11]; decide) (by rw [c11]; rfl) (by decide) ?_
            refine lv_aload_n hx hb dX7_bargeOf_69 rfl (lv_at hl 0 rfl) ?_
            refine xt_get (ci := 7) (C := RX7) (T := TX7) (n := 25) (v := .ref (ad 5)) hx hb hts iX7_bargeOf_X7 hown hK hP 0 (by decide) (LX7_obj ad cy _) rfl 8 (by decide) w1 rfl dX7_bargeOf_70 ?_
            refine lv_iload_n hx hb dX7_bargeOf_73 rfl (lv_at hl 1 rfl) ?_
            obtain ⟨g12, hf⟩ := gd_some hf
            refine xt_iald hx hb hK hP 5 (by decide) 0 (LX7_lies ad cy _) rfl g12 dX7_bargeOf_74 ?_
            refine lv_iconst (v := (-1)) hx hb dX7_bargeOf_75 (by decide) ?_
            refine lv_icmp_ne (tgt := 84) hx hb dX7_bargeOf_76 (by decide) (fun c13 => ?_) (fun c13 => ?_)
            · have hf := (if_neg c13).symm.trans hf
              refine lv_aload_n hx hb dX7_bargeOf_84 rfl (lv_at hl 0 rfl) ?_
              refine xt_get (ci := 7) (C := RX7) (T := TX7) (n := 25) (v := .ref (ad 5)) hx hb hts iX7_bargeOf_X7 hown hK hP 0 (by decide) (LX7_obj ad cy _) rfl 8 (by decide) w1 rfl dX7_bargeOf_85 ?_
              refine lv_iload_n hx hb dX7_bargeOf_88 rfl (lv_at hl 1 rfl) ?_
              obtain ⟨g14, hf⟩ := gd_some hf
              refine xt_iald hx hb hK hP 5 (by decide) 0 (LX7_lies ad cy _) rfl g14 dX7_bargeOf_89 ?_
              exact xt_iret hx hb hr hP hS (rs_1 hf) (rs_2 hf) dX7_bargeOf_90 hlocks
            · have hf := (if_pos c13).symm.trans hf
              refine lv_bipush (v := (-15)) hx hb dX7_bargeOf_79 (by decide) ?_
              refine lv_goto (tgt := 90) hx hb dX7_bargeOf_81 (by decide) ?_
              exact xt_iret hx hb hr hP hS (rs_1 hf) (rs_2 hf) dX7_bargeOf_90 hlocks
          · have hf := (if_neg c11).symm.trans hf
            by_cases c15 : a2 = 4
            · have hf := (if_pos c15).symm.trans hf
              refine lv_tableIn (tgt := 91) (off := 75) hx hb dX7_bargeOf_16 (by rw [c15]; decide) (by rw [c15]; decide) (by rw [c15]; rfl) (by decide) ?_
              refine lv_aload_n hx hb dX7_bargeOf_91 rfl (lv_at hl 0 rfl) ?_
              refine xt_get (ci := 7) (C := RX7) (T := TX7) (n := 25) (v := .ref (ad 6)) hx hb hts iX7_bargeOf_X7 hown hK hP 0 (by decide) (LX7_obj ad cy _) rfl 9 (by decide) w2 rfl dX7_bargeOf_92 ?_
              refine lv_iload_n hx hb dX7_bargeOf_95 rfl (lv_at hl 1 rfl) ?_
              obtain ⟨g16, hf⟩ := gd_some hf
              refine xt_iald hx hb hK hP 6 (by decide) 0 (LX7_passed ad cy _) rfl g16 dX7_bargeOf_96 ?_
              exact xt_iret hx hb hr hP hS (rs_1 hf) (rs_2 hf) dX7_bargeOf_97 hlocks
            · have hf := (if_neg c15).symm.trans hf
              refine lv_tableOut (tgt := 98) hx hb dX7_bargeOf_16 (by have ic4 : ¬ Int32.toInt a2 = 0 := lv_neT c4 (by decide); have ic6 : ¬ Int32.toInt a2 = 1 := lv_neT c6 (by decide); have ic8 : ¬ Int32.toInt a2 = 2 := lv_neT c8 (by decide); have ic11 : ¬ Int32.toInt a2 = 3 := lv_neT c11 (by decide); have ic15 : ¬ Int32.toInt a2 = 4 := lv_neT c15 (by decide); omega) (by decide) ?_
              refine lv_bipush (v := (-12)) hx hb dX7_bargeOf_98 (by decide) ?_
              exact xt_iret hx hb hr hP hS (rs_1 hf) (rs_2 hf) dX7_bargeOf_100 hlocks
  · have hf := (if_pos c2).symm.trans hf
    refine lv_bipush (v := (-11)) hx hb dX7_bargeOf_8 (by decide) ?_
    exact xt_iret hx hb hr hP hS (rs_1 hf) (rs_2 hf) dX7_bargeOf_10 hlocks
def fX7_homeOf (σ : St) (a1 : Int32) : Option (Int32 × St) :=
  bd (fX7_in σ a1 0 359) fun r1 => if r1 = 0 then (some ((-11), σ)) else (bd (fX7_laysRing σ) fun r3 => gd (okI a1 360) <| if (r3 3 a1.toNatClampNeg) = (-1 : Int32) then (some ((-15), r3)) else (gd (okI a1 360) <| some ((r3 3 a1.toNatClampNeg), r3)))
abbrev rmX7_homeOf : Room := { frames := 4, cells := 0, slots := 0, locals := 86 }
theorem dmX7_homeOf : yX7_homeOf.cls = RX7 ∧ yX7_homeOf.cls ≠ "java/lang/invoke/MethodHandle" ∧ yX7_homeOf.cls ≠ "java/lang/invoke/VarHandle" ∧ (parseMethodDescriptor yX7_homeOf.desc).map (fun d => d.parameters.length) = some 1 := by decide +kernel
theorem iX7_homeOf_X7 : ∀ w ∈ wsX70, w ∈ wsX7_homeOf := fun w h => List.mem_cons_of_mem _ (List.mem_append_right _ (h))
set_option maxHeartbeats 8000000 in
set_option maxRecDepth 100000 in
theorem mX7_homeOf (l : Launch) (dC : Nat → ClassId) (dI : Nat → Nat → Nat) (ad : Nat → Nat) (cy : Nat → ClassId) (hJ : WJ 16 ad) (σ : St) (a1 : Int32) (res : (Int32 × St)) (hf : fX7_homeOf σ a1 = some res) : CMi l yX7_homeOf wsX7_homeOf rmX7_homeOf (dC, dI) (tysX cy) 16 ad (layM ad cy) [.ref (ad 0), .int a1] σ res.1 res.2 := by
  refine Met.ofW (cc := cX7_homeOf) (maxL := 2) (ret := (some .int)) (by decide) rfl ?_
  intro p e s m args below meth c s₁ B hml hv
  obtain ⟨hargs, hP, hK⟩ := hv
  have hx := B.exec
  have hb := B.bytes
  have hr := B.returns
  have hts := atoms_spec (ws := wsX7_homeOf) B.pre
  have hown : s.vm.findClass RX7 = some m.cls := findClass_of_methodNamed B.named
  have hlocks := B.notSynchronized
  have w1 := hts (.fieldLink RX7 16 "PierRingsModel" "homes" "[I") (List.mem_of_getElem? (i := 1) rfl)
  have hS : va_S (WA 16 ad) s.heap s.heap [] := va_S.rf
  have hfr : entryFrame m args 2 = F0 m 0 ((lg_sl [.ref (ad 0), .int a1] ++ List.replicate (2 - (lg_sl [.ref (ad 0), .int a1]).length) Slot.unset).toArray) [] := by rw [hargs]; exact lg_entry_eq _ _ _
  rw [hfr]
  have hl := lv_entry ([.ref (ad 0), .int a1]) (n := 2) (Nat.le_of_ble_eq_true rfl)
  generalize (lg_sl [.ref (ad 0), .int a1] ++ List.replicate (2 - (lg_sl [.ref (ad 0), .int a1]).length) Slot.unset).toArray = ls at hl ⊢
  have hl : lv_has ls 2 [(0, .ref (ad 0)), (1, .int a1)] := hl
  clear hfr hargs B
  show W p l e rmX7_homeOf s m args below meth c s.heap [] 0 0 (MQ below (Qiw (dC, dI) 16 ad (layM ad cy) res.1 res.2) args s 0 0 (WA 16 ad)) (F0 m 0 ls [])
  unfold fX7_homeOf at hf
  obtain ⟨H, eH⟩ : ∃ H : Heap, H = s.heap := ⟨_, rfl⟩
  rw [← eH] at hP
  have hS : va_S (WA 16 ad) s.heap H [] := by rw [eH]; exact hS
  suffices K : W p l e rmX7_homeOf s m args below meth c H [] 0 0 (MQ below (Qiw (dC, dI) 16 ad (layM ad cy) res.1 res.2) args s 0 0 (WA 16 ad)) (F0 m 0 ls []) by rw [eH] at K; exact K
  clear eH
  obtain ⟨locs, elocs⟩ : ∃ z : List Loc, z = [] := ⟨_, rfl⟩
  rw [← elocs] at hS ⊢
  refine lv_iload_n hx hb dX7_homeOf_0 rfl (lv_at hl 1 rfl) ?_
  refine lv_iconst (v := 0) hx hb dX7_homeOf_1 (by decide) ?_
  refine lv_sipush (v := 359) hx hb dX7_homeOf_2 (by decide) ?_
  obtain ⟨r1, qr1, hf⟩ := bd_some hf
  refine xt_callSi (As := [.int a1, .int 0, .int 359]) (rest := []) ⟨hx, hb, hml, hown, hts⟩ (mX7_in l dC dI ad cy hJ σ a1 0 359 r1 qr1) (va_cwS 3 hts gX7_homeOf_X7_in rfl rfl rfl dmX7_in ⟨Nat.le_of_ble_eq_true rfl, Nat.le_of_ble_eq_true rfl⟩) hK hP hS rfl rfl hl.1 (Nat.le_of_ble_eq_true rfl) ⟨Nat.zero_le _, Nat.zero_le _⟩ dX7_homeOf_5 (fun H locs hP hS => ?_)
  refine lv_if_ne (tgt := 14) hx hb dX7_homeOf_8 (by decide) (fun c2 => ?_) (fun c2 => ?_)
  · have hf := (if_neg c2).symm.trans hf
    refine lv_aload_n hx hb dX7_homeOf_14 rfl (lv_at hl 0 rfl) ?_
    obtain ⟨r3, qr3, hf⟩ := bd_some hf
    refine xt_callVv (As := []) (rest := []) (C := RX7) (ci := 7) ⟨hx, hb, hml, hown, hts⟩ 0 (mX7_laysRing l dC dI ad cy hJ σ r3 qr3) (cwV 0 hts gX7_homeOf_X7_laysRing rfl rfl rfl dmX7_laysRing ⟨Nat.le_of_ble_eq_true rfl, Nat.le_of_ble_eq_true rfl⟩) hK hP hS (by decide) (LX7_obj ad cy _) rfl rfl rfl hl.1 (Nat.le_of_ble_eq_true rfl) ⟨Nat.zero_le _, Nat.zero_le _⟩ dX7_homeOf_15 (fun H locs hP hS => ?_)
    refine lv_aload_n hx hb dX7_homeOf_18 rfl (lv_at hl 0 rfl) ?_
    refine xt_get (ci := 7) (C := RX7) (T := TX7) (n := 25) (v := .ref (ad 3)) hx hb hts iX7_homeOf_X7 hown hK hP 0 (by decide) (LX7_obj ad cy _) rfl 6 (by decide) w1 rfl dX7_homeOf_19 ?_
    refine lv_iload_n hx hb dX7_homeOf_22 rfl (lv_at hl 1 rfl) ?_
    obtain ⟨g4, hf⟩ := gd_some hf
    refine xt_iald hx hb hK hP 3 (by decide) 0 (LX7_homes ad cy _) rfl g4 dX7_homeOf_23 ?_
    refine lv_iconst (v := (-1)) hx hb dX7_homeOf_24 (by decide) ?_
    refine lv_icmp_ne (tgt := 33) hx hb dX7_homeOf_25 (by decide) (fun c5 => ?_) (fun c5 => ?_)
    · have hf := (if_neg c5).symm.trans hf
      refine lv_aload_n hx hb dX7_homeOf_33 rfl (lv_at hl 0 rfl) ?_
      refine xt_get (ci := 7) (C := RX7) (T := TX7) (n := 25) (v := .ref (ad 3)) hx hb hts iX7_homeOf_X7 hown hK hP 0 (by decide) (LX7_obj ad cy _) rfl 6 (by decide) w1 rfl dX7_homeOf_34 ?_
      refine lv_iload_n hx hb dX7_homeOf_37 rfl (lv_at hl 1 rfl) ?_
      obtain ⟨g6, hf⟩ := gd_some hf
      refine xt_iald hx hb hK hP 3 (by decide) 0 (LX7_homes ad cy _) rfl g6 dX7_homeOf_38 ?_
      exact xt_iret hx hb hr hP hS (rs_1 hf) (rs_2 hf) dX7_homeOf_39 hlocks
    · have hf := (if_pos c5).symm.trans hf
      refine lv_bipush (v := (-15)) hx hb dX7_homeOf_28 (by decide) ?_
      refine lv_goto (tgt := 39) hx hb dX7_homeOf_30 (by decide) ?_
      exact xt_iret hx hb hr hP hS (rs_1 hf) (rs_2 hf) dX7_homeOf_39 hlocks
  · have hf := (if_pos c2).symm.trans hf
    refine lv_bipush (v := (-11)) hx hb dX7_homeOf_11 (by decide) ?_
    exact xt_iret hx hb hr hP hS (rs_1 hf) (rs_2 hf) dX7_homeOf_13 hlocks
def fX7_home (σ : St) (a1 : Int32) : Option (Int32 × St) :=
  bd (fX7_isBarge σ a1) fun r1 => if r1 = 0 then (some ((-11), σ)) else (bd (fX7_b σ a1 0) fun r3 => bd (fX7_placeOf σ r3) fun r4 => bd (fX7_homeOf σ r4) fun r5 => some (r5.1, r5.2))
abbrev rmX7_home : Room := { frames := 5, cells := 0, slots := 0, locals := 107 }
theorem dmX7_home : yX7_home.cls = RX7 ∧ yX7_home.cls ≠ "java/lang/invoke/MethodHandle" ∧ yX7_home.cls ≠ "java/lang/invoke/VarHandle" ∧ (parseMethodDescriptor yX7_home.desc).map (fun d => d.parameters.length) = some 1 := by decide +kernel
set_option maxHeartbeats 8000000 in
set_option maxRecDepth 100000 in
theorem mX7_home (l : Launch) (dC : Nat → ClassId) (dI : Nat → Nat → Nat) (ad : Nat → Nat) (cy : Nat → ClassId) (hJ : WJ 16 ad) (σ : St) (a1 : Int32) (res : (Int32 × St)) (hf : fX7_home σ a1 = some res) : CMi l yX7_home wsX7_home rmX7_home (dC, dI) (tysX cy) 16 ad (layM ad cy) [.ref (ad 0), .int a1] σ res.1 res.2 := by
  refine Met.ofW (cc := cX7_home) (maxL := 2) (ret := (some .int)) (by decide) rfl ?_
  intro p e s m args below meth c s₁ B hml hv
  obtain ⟨hargs, hP, hK⟩ := hv
  have hx := B.exec
  have hb := B.bytes
  have hr := B.returns
  have hts := atoms_spec (ws := wsX7_home) B.pre
  have hown : s.vm.findClass RX7 = some m.cls := findClass_of_methodNamed B.named
  have hlocks := B.notSynchronized
  have hS : va_S (WA 16 ad) s.heap s.heap [] := va_S.rf
  have hfr : entryFrame m args 2 = F0 m 0 ((lg_sl [.ref (ad 0), .int a1] ++ List.replicate (2 - (lg_sl [.ref (ad 0), .int a1]).length) Slot.unset).toArray) [] := by rw [hargs]; exact lg_entry_eq _ _ _
  rw [hfr]
  have hl := lv_entry ([.ref (ad 0), .int a1]) (n := 2) (Nat.le_of_ble_eq_true rfl)
  generalize (lg_sl [.ref (ad 0), .int a1] ++ List.replicate (2 - (lg_sl [.ref (ad 0), .int a1]).length) Slot.unset).toArray = ls at hl ⊢
  have hl : lv_has ls 2 [(0, .ref (ad 0)), (1, .int a1)] := hl
  clear hfr hargs B
  show W p l e rmX7_home s m args below meth c s.heap [] 0 0 (MQ below (Qiw (dC, dI) 16 ad (layM ad cy) res.1 res.2) args s 0 0 (WA 16 ad)) (F0 m 0 ls [])
  unfold fX7_home at hf
  obtain ⟨H, eH⟩ : ∃ H : Heap, H = s.heap := ⟨_, rfl⟩
  rw [← eH] at hP
  have hS : va_S (WA 16 ad) s.heap H [] := by rw [eH]; exact hS
  suffices K : W p l e rmX7_home s m args below meth c H [] 0 0 (MQ below (Qiw (dC, dI) 16 ad (layM ad cy) res.1 res.2) args s 0 0 (WA 16 ad)) (F0 m 0 ls []) by rw [eH] at K; exact K
  clear eH
  obtain ⟨locs, elocs⟩ : ∃ z : List Loc, z = [] := ⟨_, rfl⟩
  rw [← elocs] at hS ⊢
  refine lv_aload_n hx hb dX7_home_0 rfl (lv_at hl 0 rfl) ?_
  refine lv_iload_n hx hb dX7_home_1 rfl (lv_at hl 1 rfl) ?_
  obtain ⟨r1, qr1, hf⟩ := bd_some hf
  refine xt_callVi (As := [.int a1]) (rest := []) (C := RX7) (ci := 7) ⟨hx, hb, hml, hown, hts⟩ 0 (mX7_isBarge l dC dI ad cy hJ σ a1 r1 qr1) (cwV 1 hts gX7_home_X7_isBarge rfl rfl rfl dmX7_isBarge ⟨Nat.le_of_ble_eq_true rfl, Nat.le_of_ble_eq_true rfl⟩) hK hP hS (by decide) (LX7_obj ad cy _) rfl rfl rfl hl.1 (Nat.le_of_ble_eq_true rfl) ⟨Nat.zero_le _, Nat.zero_le _⟩ dX7_home_2 (fun H locs hP hS => ?_)
  refine lv_if_eq (tgt := 24) hx hb dX7_home_5 (by decide) (fun c2 => ?_) (fun c2 => ?_)
  · have hf := (if_pos c2).symm.trans hf
    refine lv_bipush (v := (-11)) hx hb dX7_home_24 (by decide) ?_
    exact xt_iret hx hb hr hP hS (rs_1 hf) (rs_2 hf) dX7_home_26 hlocks
  · have hf := (if_neg c2).symm.trans hf
    refine lv_aload_n hx hb dX7_home_8 rfl (lv_at hl 0 rfl) ?_
    refine lv_aload_n hx hb dX7_home_9 rfl (lv_at hl 0 rfl) ?_
    refine lv_iload_n hx hb dX7_home_10 rfl (lv_at hl 1 rfl) ?_
    refine lv_iconst (v := 0) hx hb dX7_home_11 (by decide) ?_
    obtain ⟨r3, qr3, hf⟩ := bd_some hf
    refine xt_callVi (As := [.int a1, .int 0]) (rest := [.ref (ad 0)]) (C := RX7) (ci := 7) ⟨hx, hb, hml, hown, hts⟩ 0 (mX7_b l dC dI ad cy hJ σ a1 0 r3 qr3) (cwV 2 hts gX7_home_X7_b rfl rfl rfl dmX7_b ⟨Nat.le_of_ble_eq_true rfl, Nat.le_of_ble_eq_true rfl⟩) hK hP hS (by decide) (LX7_obj ad cy _) rfl rfl rfl hl.1 (Nat.le_of_ble_eq_true rfl) ⟨Nat.zero_le _, Nat.zero_le _⟩ dX7_home_12 (fun H locs hP hS => ?_)
    obtain ⟨r4, qr4, hf⟩ := bd_some hf
    refine xt_callSi (As := [.int r3]) (rest := [.ref (ad 0)]) ⟨hx, hb, hml, hown, hts⟩ (mX7_placeOf l dC dI ad cy hJ σ r3 r4 qr4) (va_cwS 1 hts gX7_home_X7_placeOf rfl rfl rfl dmX7_placeOf ⟨Nat.le_of_ble_eq_true rfl, Nat.le_of_ble_eq_true rfl⟩) hK hP hS rfl rfl hl.1 (Nat.le_of_ble_eq_true rfl) ⟨Nat.zero_le _, Nat.zero_le _⟩ dX7_home_15 (fun H locs hP hS => ?_)
    obtain ⟨r5, qr5, hf⟩ := bd_some hf
    refine xt_callVi (As := [.int r4]) (rest := []) (C := RX7) (ci := 7) ⟨hx, hb, hml, hown, hts⟩ 0 (mX7_homeOf l dC dI ad cy hJ σ r4 r5 qr5) (cwV 1 hts gX7_home_X7_homeOf rfl rfl rfl dmX7_homeOf ⟨Nat.le_of_ble_eq_true rfl, Nat.le_of_ble_eq_true rfl⟩) hK hP hS (by decide) (LX7_obj ad cy _) rfl rfl rfl hl.1 (Nat.le_of_ble_eq_true rfl) ⟨Nat.zero_le _, Nat.zero_le _⟩ dX7_home_18 (fun H locs hP hS => ?_)
    refine lv_goto (tgt := 26) hx hb dX7_home_21 (by decide) ?_
    exact xt_iret hx hb hr hP hS (rs_1 hf) (rs_2 hf) dX7_home_26 hlocks
def fX7_homeAgain (σ : St) (a1 : Int32) : Option (Int32 × St) :=
  bd (fX7_home σ a1) fun r1 => some (r1.1, r1.2)
abbrev rmX7_homeAgain : Room := { frames := 6, cells := 0, slots := 0, locals := 128 }
theorem dmX7_homeAgain : yX7_homeAgain.cls = RX7 ∧ yX7_homeAgain.cls ≠ "java/lang/invoke/MethodHandle" ∧ yX7_homeAgain.cls ≠ "java/lang/invoke/VarHandle" ∧ (parseMethodDescriptor yX7_homeAgain.desc).map (fun d => d.parameters.length) = some 1 := by decide +kernel
set_option maxHeartbeats 8000000 in
set_option maxRecDepth 100000 in
theorem mX7_homeAgain (l : Launch) (dC : Nat → ClassId) (dI : Nat → Nat → Nat) (ad : Nat → Nat) (cy : Nat → ClassId) (hJ : WJ 16 ad) (σ : St) (a1 : Int32) (res : (Int32 × St)) (hf : fX7_homeAgain σ a1 = some res) : CMi l yX7_homeAgain wsX7_homeAgain rmX7_homeAgain (dC, dI) (tysX cy) 16 ad (layM ad cy) [.ref (ad 0), .int a1] σ res.1 res.2 := by
  refine Met.ofW (cc := cX7_homeAgain) (maxL := 2) (ret := (some .int)) (by decide) rfl ?_
  intro p e s m args below meth c s₁ B hml hv
  obtain ⟨hargs, hP, hK⟩ := hv
  have hx := B.exec
  have hb := B.bytes
  have hr := B.returns
  have hts := atoms_spec (ws := wsX7_homeAgain) B.pre
  have hown : s.vm.findClass RX7 = some m.cls := findClass_of_methodNamed B.named
  have hlocks := B.notSynchronized
  have hS : va_S (WA 16 ad) s.heap s.heap [] := va_S.rf
  have hfr : entryFrame m args 2 = F0 m 0 ((lg_sl [.ref (ad 0), .int a1] ++ List.replicate (2 - (lg_sl [.ref (ad 0), .int a1]).length) Slot.unset).toArray) [] := by rw [hargs]; exact lg_entry_eq _ _ _
  rw [hfr]
  have hl := lv_entry ([.ref (ad 0), .int a1]) (n := 2) (Nat.le_of_ble_eq_true rfl)
  generalize (lg_sl [.ref (ad 0), .int a1] ++ List.replicate (2 - (lg_sl [.ref (ad 0), .int a1]).length) Slot.unset).toArray = ls at hl ⊢
  have hl : lv_has ls 2 [(0, .ref (ad 0)), (1, .int a1)] := hl
  clear hfr hargs B
  show W p l e rmX7_homeAgain s m args below meth c s.heap [] 0 0 (MQ below (Qiw (dC, dI) 16 ad (layM ad cy) res.1 res.2) args s 0 0 (WA 16 ad)) (F0 m 0 ls [])
  unfold fX7_homeAgain at hf
  obtain ⟨H, eH⟩ : ∃ H : Heap, H = s.heap := ⟨_, rfl⟩
  rw [← eH] at hP
  have hS : va_S (WA 16 ad) s.heap H [] := by rw [eH]; exact hS
  suffices K : W p l e rmX7_homeAgain s m args below meth c H [] 0 0 (MQ below (Qiw (dC, dI) 16 ad (layM ad cy) res.1 res.2) args s 0 0 (WA 16 ad)) (F0 m 0 ls []) by rw [eH] at K; exact K
  clear eH
  obtain ⟨locs, elocs⟩ : ∃ z : List Loc, z = [] := ⟨_, rfl⟩
  rw [← elocs] at hS ⊢
  refine lv_aload_n hx hb dX7_homeAgain_0 rfl (lv_at hl 0 rfl) ?_
  refine lv_iload_n hx hb dX7_homeAgain_1 rfl (lv_at hl 1 rfl) ?_
  obtain ⟨r1, qr1, hf⟩ := bd_some hf
  refine xt_callVi (As := [.int a1]) (rest := []) (C := RX7) (ci := 7) ⟨hx, hb, hml, hown, hts⟩ 0 (mX7_home l dC dI ad cy hJ σ a1 r1 qr1) (cwV 1 hts gX7_homeAgain_X7_home rfl rfl rfl dmX7_home ⟨Nat.le_of_ble_eq_true rfl, Nat.le_of_ble_eq_true rfl⟩) hK hP hS (by decide) (LX7_obj ad cy _) rfl rfl rfl hl.1 (Nat.le_of_ble_eq_true rfl) ⟨Nat.zero_le _, Nat.zero_le _⟩ dX7_homeAgain_2 (fun H locs hP hS => ?_)
  exact xt_iret hx hb hr hP hS (rs_1 hf) (rs_2 hf) dX7_homeAgain_5 hlocks
def fX7_puts_B102 (σ : St) (x1 : Int32) (x2 : Int32) (x3 : Int32) : Option St :=
  gd (okI x3 80) <| if (σ 9 x3.toNatClampNeg) ≤ x1 then (gd (okI x3 80) <| nm (su σ 11 x3.toNatClampNeg x2) fun σ4 => some σ4) else (gd (okI x3 80) <| nm (su σ 10 x3.toNatClampNeg x2) fun σ6 => some σ6)
def fX7_puts_L53 (x1 : Int32) (K53_102 : St → Int32 → Option St) : Nat → St → Int32 → Int32 → Option St
  | 0, _, _, _ => none
  | n53 + 1, σ, x3, x4 => if x4 = (-1 : Int32) then (K53_102 σ x3) else (gd (okI x1 360) <| gd (okI x1 360) <| nm (su σ 12 x1.toNatClampNeg ((σ 12 x1.toNatClampNeg) + 1)) fun σ10 => gd (okI x4 80) <| if (σ10 9 x4.toNatClampNeg) ≤ x1 then (gd (okI x4 80) <| nm (σ10 11 x4.toNatClampNeg) fun v14 => (fX7_puts_L53 x1 K53_102 n53) σ10 x4 v14) else (gd (okI x4 80) <| nm (σ10 10 x4.toNatClampNeg) fun v16 => (fX7_puts_L53 x1 K53_102 n53) σ10 x4 v16))
def fX7_puts (σ : St) (a1 : Int32) : Option St :=
  nm (σ 0 16) fun v17 => gd (okI v17 80) <| nm (su σ 9 v17.toNatClampNeg a1) fun σ19 => gd (okI v17 80) <| nm (su σ19 10 v17.toNatClampNeg (-1)) fun σ21 => gd (okI v17 80) <| nm (su σ21 11 v17.toNatClampNeg (-1)) fun σ23 => nm (su σ23 0 16 ((σ23 0 16) + 1)) fun σ24 => gd (okI a1 360) <| nm (su σ24 12 a1.toNatClampNeg 0) fun σ26 => if v17 = 0 then (some σ26) else (fX7_puts_L53 a1 (fun σ y3 => fX7_puts_B102 σ a1 v17 y3) 1000 σ26 0 0)
abbrev rmX7_puts : Room := { frames := 0, cells := 0, slots := 0, locals := 0 }
theorem dmX7_puts : yX7_puts.cls = RX7 ∧ yX7_puts.cls ≠ "java/lang/invoke/MethodHandle" ∧ yX7_puts.cls ≠ "java/lang/invoke/VarHandle" ∧ (parseMethodDescriptor yX7_puts.desc).map (fun d => d.parameters.length) = some 1 := by decide +kernel
theorem iX7_puts_X7 : ∀ w ∈ wsX70, w ∈ wsX7_puts := fun w h => List.mem_cons_of_mem _ (List.mem_append_right _ (h))
set_option maxHeartbeats 8000000 in
set_option maxRecDepth 100000 in
theorem mX7_puts (l : Launch) (dC : Nat → ClassId) (dI : Nat → Nat → Nat) (ad : Nat → Nat) (cy : Nat → ClassId) (hJ : WJ 16 ad) (σ : St) (a1 : Int32) (res : St) (hf : fX7_puts σ a1 = some res) : CMv l yX7_puts wsX7_puts rmX7_puts (dC, dI) (tysX cy) 16 ad (layM ad cy) [.ref (ad 0), .int a1] σ res := by
  refine Met.ofW (cc := cX7_puts) (maxL := 5) (ret := none) (by decide) rfl ?_
  intro p e s m args below meth c s₁ B hml hv
  obtain ⟨hargs, hP, hK⟩ := hv
  have hx := B.exec
  have hb := B.bytes
  have hr := B.returns
  have hts := atoms_spec (ws := wsX7_puts) B.pre
  have hown : s.vm.findClass RX7 = some m.cls := findClass_of_methodNamed B.named
  have hlocks := B.notSynchronized
  have w1 := hts (.fieldLink RX7 177 "PierRingsModel" "nodeMany" "I") (List.mem_of_getElem? (i := 1) rfl)
  have w2 := hts (.fieldLink RX7 34 "PierRingsModel" "node" "[I") (List.mem_of_getElem? (i := 2) rfl)
  have w3 := hts (.fieldLink RX7 37 "PierRingsModel" "left" "[I") (List.mem_of_getElem? (i := 3) rfl)
  have w4 := hts (.fieldLink RX7 40 "PierRingsModel" "right" "[I") (List.mem_of_getElem? (i := 4) rfl)
  have w5 := hts (.fieldLink RX7 43 "PierRingsModel" "above" "[I") (List.mem_of_getElem? (i := 5) rfl)
  have hS : va_S (WA 16 ad) s.heap s.heap [] := va_S.rf
  have hfr : entryFrame m args 5 = F0 m 0 ((lg_sl [.ref (ad 0), .int a1] ++ List.replicate (5 - (lg_sl [.ref (ad 0), .int a1]).length) Slot.unset).toArray) [] := by rw [hargs]; exact lg_entry_eq _ _ _
  rw [hfr]
  have hl := lv_entry ([.ref (ad 0), .int a1]) (n := 5) (Nat.le_of_ble_eq_true rfl)
  generalize (lg_sl [.ref (ad 0), .int a1] ++ List.replicate (5 - (lg_sl [.ref (ad 0), .int a1]).length) Slot.unset).toArray = ls at hl ⊢
  have hl : lv_has ls 5 [(0, .ref (ad 0)), (1, .int a1)] := hl
  clear hfr hargs B
  show W p l e rmX7_puts s m args below meth c s.heap [] 0 0 (MQ below (Qvw (dC, dI) 16 ad (layM ad cy) res) args s 0 0 (WA 16 ad)) (F0 m 0 ls [])
  have kB102 : ∀ (σ : St) (x1 : Int32) (x2 : Int32) (x3 : Int32), fX7_puts_B102 σ x1 x2 x3 = some res → ∀ (H : Heap) (locs : List Loc), va_P (dC, dI) vwCl (wd 16 ad (layM ad cy) σ) H → va_S (WA 16 ad) s.heap H locs → ∀ (ls : Array Slot), lv_has ls 5 [(0, .ref (ad 0)), (1, .int x1), (2, .int x2), (3, .int x3)] → W p l e rmX7_puts s m args below meth c H locs 0 0 (MQ below (Qvw (dC, dI) 16 ad (layM ad cy) res) args s 0 0 (WA 16 ad)) (F0 m 102 ls []) := by
    intro σ x1 x2 x3 hf H locs hP hS ls hl
    unfold fX7_puts_B102 at hf
    refine lv_iload_n hx hb dX7_puts_102 rfl (lv_at hl 1 rfl) ?_
    refine lv_aload_n hx hb dX7_puts_103 rfl (lv_at hl 0 rfl) ?_
    refine xt_get (ci := 7) (C := RX7) (T := TX7) (n := 25) (v := .ref (ad 9)) hx hb hts iX7_puts_X7 hown hK hP 0 (by decide) (LX7_obj ad cy _) rfl 12 (by decide) w2 rfl dX7_puts_104 ?_
    refine lv_iload_n hx hb dX7_puts_107 rfl (lv_at hl 3 rfl) ?_
    obtain ⟨g1, hf⟩ := gd_some hf
    refine xt_iald hx hb hK hP 9 (by decide) 0 (LX7_node ad cy _) rfl g1 dX7_puts_108 ?_
    refine lv_icmp_ge (tgt := 122) hx hb dX7_puts_109 (by decide) (fun c2 => ?_) (fun c2 => ?_)
    · have hf := (if_pos c2).symm.trans hf
      refine lv_aload_n hx hb dX7_puts_122 rfl (lv_at hl 0 rfl) ?_
      refine xt_get (ci := 7) (C := RX7) (T := TX7) (n := 25) (v := .ref (ad 11)) hx hb hts iX7_puts_X7 hown hK hP 0 (by decide) (LX7_obj ad cy _) rfl 14 (by decide) w4 rfl dX7_puts_123 ?_
      refine lv_iload_n hx hb dX7_puts_126 rfl (lv_at hl 3 rfl) ?_
      refine lv_iload_n hx hb dX7_puts_127 rfl (lv_at hl 2 rfl) ?_
      obtain ⟨g3, hf⟩ := gd_some hf
      refine xt_iast hx hb hK hP hJ hS 11 (by decide) 0 (LX7_right ad cy) rfl g3 dX7_puts_128 (fun H locs hP hS => ?_)
      obtain ⟨σ4, eσ4⟩ : ∃ z : St, z = su σ 11 x3.toNatClampNeg x2 := ⟨_, rfl⟩
      rw [← eσ4] at hP
      have hf := nm_to hf eσ4
      exact xt_vret hx hb hr hP hS (Option.some.inj hf) dX7_puts_129 hlocks
    · have hf := (if_neg c2).symm.trans hf
      refine lv_aload_n hx hb dX7_puts_112 rfl (lv_at hl 0 rfl) ?_
      refine xt_get (ci := 7) (C := RX7) (T := TX7) (n := 25) (v := .ref (ad 10)) hx hb hts iX7_puts_X7 hown hK hP 0 (by decide) (LX7_obj ad cy _) rfl 13 (by decide) w3 rfl dX7_puts_113 ?_
      refine lv_iload_n hx hb dX7_puts_116 rfl (lv_at hl 3 rfl) ?_
      refine lv_iload_n hx hb dX7_puts_117 rfl (lv_at hl 2 rfl) ?_
      obtain ⟨g5, hf⟩ := gd_some hf
      refine xt_iast hx hb hK hP hJ hS 10 (by decide) 0 (LX7_left ad cy) rfl g5 dX7_puts_118 (fun H locs hP hS => ?_)
      obtain ⟨σ6, eσ6⟩ : ∃ z : St, z = su σ 10 x3.toNatClampNeg x2 := ⟨_, rfl⟩
      rw [← eσ6] at hP
      have hf := nm_to hf eσ6
      refine lv_goto (tgt := 129) hx hb dX7_puts_119 (by decide) ?_
      exact xt_vret hx hb hr hP hS (Option.some.inj hf) dX7_puts_129 hlocks
  have loop53 : ∀ (x1 : Int32) (x2 : Int32) (n53 : Nat) (σ : St) (x3 : Int32) (x4 : Int32), fX7_puts_L53 x1 (fun σ y3 => fX7_puts_B102 σ x1 x2 y3) n53 σ x3 x4 = some res → ∀ (H : Heap) (locs : List Loc), va_P (dC, dI) vwCl (wd 16 ad (layM ad cy) σ) H → va_S (WA 16 ad) s.heap H locs → ∀ (ls : Array Slot), lv_has ls 5 [(0, .ref (ad 0)), (1, .int x1), (2, .int x2), (3, .int x3), (4, .int x4)] → W p l e rmX7_puts s m args below meth c H locs 0 0 (MQ below (Qvw (dC, dI) 16 ad (layM ad cy) res) args s 0 0 (WA 16 ad)) (F0 m 53 ls []) := by
    intro x1 x2 n53
    induction n53 with
    | zero => intro σ x3 x4 hf; simp [fX7_puts_L53] at hf
    | succ n53 ih53 =>
      intro σ x3 x4 hf H locs hP hS ls hl
      rw [fX7_puts_L53] at hf
      refine lv_iload hx hb dX7_puts_53 (lv_at hl 4 rfl) ?_
      refine lv_iconst (v := (-1)) hx hb dX7_puts_55 (by decide) ?_
      refine lv_icmp_eq (tgt := 102) hx hb dX7_puts_56 (by decide) (fun c7 => ?_) (fun c7 => ?_)
      · have hf := (if_pos c7).symm.trans hf
        exact kB102 σ x1 x2 x3 hf H locs hP hS ls (lv_sub hl [0, 1, 2, 3] rfl)
      · have hf := (if_neg c7).symm.trans hf
        refine lv_iload hx hb dX7_puts_59 (lv_at hl 4 rfl) ?_
        refine lv_istore_n (lv' := [(3, .int x4), (0, .ref (ad 0)), (1, .int x1), (2, .int x2), (4, .int x4)]) hx hb dX7_puts_61 rfl hl (by decide) rfl (fun ls hl => ?_)
        refine lv_aload_n hx hb dX7_puts_62 rfl (lv_at hl 1 rfl) ?_
        refine xt_get (ci := 7) (C := RX7) (T := TX7) (n := 25) (v := .ref (ad 12)) hx hb hts iX7_puts_X7 hown hK hP 0 (by decide) (LX7_obj ad cy _) rfl 15 (by decide) w5 rfl dX7_puts_63 ?_
        refine lv_iload_n hx hb dX7_puts_66 rfl (lv_at hl 2 rfl) ?_
        refine lv_dup2_11 hx hb dX7_puts_67 rfl rfl ?_
        obtain ⟨g8, hf⟩ := gd_some hf
        refine xt_iald hx hb hK hP 12 (by decide) 0 (LX7_above ad cy _) rfl g8 dX7_puts_68 ?_
        refine lv_iconst (v := 1) hx hb dX7_puts_69 (by decide) ?_
        refine lv_iadd hx hb dX7_puts_70 ?_
        obtain ⟨g9, hf⟩ := gd_some hf
        refine xt_iast hx hb hK hP hJ hS 12 (by decide) 0 (LX7_above ad cy) rfl g9 dX7_puts_71 (fun H locs hP hS => ?_)
        obtain ⟨σ10, eσ10⟩ : ∃ z : St, z = su σ 12 x1.toNatClampNeg ((σ 12 x1.toNatClampNeg) + 1) := ⟨_, rfl⟩
        rw [← eσ10] at hP
        have hf := nm_to hf eσ10
        refine lv_iload_n hx hb dX7_puts_72 rfl (lv_at hl 2 rfl) ?_
        refine lv_aload_n hx hb dX7_puts_73 rfl (lv_at hl 1 rfl) ?_
        refine xt_get (ci := 7) (C := RX7) (T := TX7) (n := 25) (v := .ref (ad 9)) hx hb hts iX7_puts_X7 hown hK hP 0 (by decide) (LX7_obj ad cy _) rfl 12 (by decide) w2 rfl dX7_puts_74 ?_
        refine lv_iload_n hx hb dX7_puts_77 rfl (lv_at hl 0 rfl) ?_
        obtain ⟨g11, hf⟩ := gd_some hf
        refine xt_iald hx hb hK hP 9 (by decide) 0 (LX7_node ad cy _) rfl g11 dX7_puts_78 ?_
        refine lv_icmp_ge (tgt := 91) hx hb dX7_puts_79 (by decide) (fun c12 => ?_) (fun c12 => ?_)
        · have hf := (if_pos c12).symm.trans hf
          refine lv_aload_n hx hb dX7_puts_91 rfl (lv_at hl 1 rfl) ?_
          refine xt_get (ci := 7) (C := RX7) (T := TX7) (n := 25) (v := .ref (ad 11)) hx hb hts iX7_puts_X7 hown hK hP 0 (by decide) (LX7_obj ad cy _) rfl 14 (by decide) w4 rfl dX7_puts_92 ?_
          refine lv_iload_n hx hb dX7_puts_95 rfl (lv_at hl 0 rfl) ?_
          obtain ⟨g13, hf⟩ := gd_some hf
          refine xt_iald hx hb hK hP 11 (by decide) 0 (LX7_right ad cy _) rfl g13 dX7_puts_96 ?_
          refine lv_topi (fun v14 ev14 => ?_)
          have hf := nm_to hf ev14
          refine lv_istore (lv' := [(4, .int v14), (3, .int x4), (0, .ref (ad 0)), (1, .int x1), (2, .int x2)]) hx hb dX7_puts_97 hl (by decide) rfl (fun ls hl => ?_)
          refine lv_goto (tgt := 53) hx hb dX7_puts_99 (by decide) ?_
          exact ih53 σ10 x4 v14 hf H locs hP hS ls (lv_sub hl [2, 3, 4, 1, 0] rfl)
        · have hf := (if_neg c12).symm.trans hf
          refine lv_aload_n hx hb dX7_puts_82 rfl (lv_at hl 1 rfl) ?_
          refine xt_get (ci := 7) (C := RX7) (T := TX7) (n := 25) (v := .ref (ad 10)) hx hb hts iX7_puts_X7 hown hK hP 0 (by decide) (LX7_obj ad cy _) rfl 13 (by decide) w3 rfl dX7_puts_83 ?_
          refine lv_iload_n hx hb dX7_puts_86 rfl (lv_at hl 0 rfl) ?_
          obtain ⟨g15, hf⟩ := gd_some hf
          refine xt_iald hx hb hK hP 10 (by decide) 0 (LX7_left ad cy _) rfl g15 dX7_puts_87 ?_
          refine lv_goto (tgt := 97) hx hb dX7_puts_88 (by decide) ?_
          refine lv_topi (fun v16 ev16 => ?_)
          have hf := nm_to hf ev16
          refine lv_istore (lv' := [(4, .int v16), (3, .int x4), (0, .ref (ad 0)), (1, .int x1), (2, .int x2)]) hx hb dX7_puts_97 hl (by decide) rfl (fun ls hl => ?_)
          refine lv_goto (tgt := 53) hx hb dX7_puts_99 (by decide) ?_
          exact ih53 σ10 x4 v16 hf H locs hP hS ls (lv_sub hl [2, 3, 4, 1, 0] rfl)
  unfold fX7_puts at hf
  obtain ⟨H, eH⟩ : ∃ H : Heap, H = s.heap := ⟨_, rfl⟩
  rw [← eH] at hP
  have hS : va_S (WA 16 ad) s.heap H [] := by rw [eH]; exact hS
  suffices K : W p l e rmX7_puts s m args below meth c H [] 0 0 (MQ below (Qvw (dC, dI) 16 ad (layM ad cy) res) args s 0 0 (WA 16 ad)) (F0 m 0 ls []) by rw [eH] at K; exact K
  clear eH
  obtain ⟨locs, elocs⟩ : ∃ z : List Loc, z = [] := ⟨_, rfl⟩
  rw [← elocs] at hS ⊢
  refine lv_aload_n hx hb dX7_puts_0 rfl (lv_at hl 0 rfl) ?_
  refine xt_get (ci := 7) (C := RX7) (T := TX7) (n := 25) (v := .int (σ 0 16)) hx hb hts iX7_puts_X7 hown hK hP 0 (by decide) (LX7_obj ad cy _) rfl 16 (by decide) w1 rfl dX7_puts_1 ?_
  refine lv_topi (fun v17 ev17 => ?_)
  have hf := nm_to hf ev17
  refine lv_istore_n (lv' := [(2, .int v17), (0, .ref (ad 0)), (1, .int a1)]) hx hb dX7_puts_4 rfl hl (by decide) rfl (fun ls hl => ?_)
  refine lv_aload_n hx hb dX7_puts_5 rfl (lv_at hl 1 rfl) ?_
  refine xt_get (ci := 7) (C := RX7) (T := TX7) (n := 25) (v := .ref (ad 9)) hx hb hts iX7_puts_X7 hown hK hP 0 (by decide) (LX7_obj ad cy _) rfl 12 (by decide) w2 rfl dX7_puts_6 ?_
  refine lv_iload_n hx hb dX7_puts_9 rfl (lv_at hl 0 rfl) ?_
  refine lv_iload_n hx hb dX7_puts_10 rfl (lv_at hl 2 rfl) ?_
  obtain ⟨g18, hf⟩ := gd_some hf
  refine xt_iast hx hb hK hP hJ hS 9 (by decide) 0 (LX7_node ad cy) rfl g18 dX7_puts_11 (fun H locs hP hS => ?_)
  obtain ⟨σ19, eσ19⟩ : ∃ z : St, z = su σ 9 v17.toNatClampNeg a1 := ⟨_, rfl⟩
  rw [← eσ19] at hP
  have hf := nm_to hf eσ19
  refine lv_aload_n hx hb dX7_puts_12 rfl (lv_at hl 1 rfl) ?_
  refine xt_get (ci := 7) (C := RX7) (T := TX7) (n := 25) (v := .ref (ad 10)) hx hb hts iX7_puts_X7 hown hK hP 0 (by decide) (LX7_obj ad cy _) rfl 13 (by decide) w3 rfl dX7_puts_13 ?_
  refine lv_iload_n hx hb dX7_puts_16 rfl (lv_at hl 0 rfl) ?_
  refine lv_iconst (v := (-1)) hx hb dX7_puts_17 (by decide) ?_
  obtain ⟨g20, hf⟩ := gd_some hf
  refine xt_iast hx hb hK hP hJ hS 10 (by decide) 0 (LX7_left ad cy) rfl g20 dX7_puts_18 (fun H locs hP hS => ?_)
  obtain ⟨σ21, eσ21⟩ : ∃ z : St, z = su σ19 10 v17.toNatClampNeg (-1) := ⟨_, rfl⟩
  rw [← eσ21] at hP
  have hf := nm_to hf eσ21
  refine lv_aload_n hx hb dX7_puts_19 rfl (lv_at hl 1 rfl) ?_
  refine xt_get (ci := 7) (C := RX7) (T := TX7) (n := 25) (v := .ref (ad 11)) hx hb hts iX7_puts_X7 hown hK hP 0 (by decide) (LX7_obj ad cy _) rfl 14 (by decide) w4 rfl dX7_puts_20 ?_
  refine lv_iload_n hx hb dX7_puts_23 rfl (lv_at hl 0 rfl) ?_
  refine lv_iconst (v := (-1)) hx hb dX7_puts_24 (by decide) ?_
  obtain ⟨g22, hf⟩ := gd_some hf
  refine xt_iast hx hb hK hP hJ hS 11 (by decide) 0 (LX7_right ad cy) rfl g22 dX7_puts_25 (fun H locs hP hS => ?_)
  obtain ⟨σ23, eσ23⟩ : ∃ z : St, z = su σ21 11 v17.toNatClampNeg (-1) := ⟨_, rfl⟩
  rw [← eσ23] at hP
  have hf := nm_to hf eσ23
  refine lv_aload_n hx hb dX7_puts_26 rfl (lv_at hl 1 rfl) ?_
  refine lv_dup hx hb dX7_puts_27 rfl ?_
  refine xt_get (ci := 7) (C := RX7) (T := TX7) (n := 25) (v := .int (σ23 0 16)) hx hb hts iX7_puts_X7 hown hK hP 0 (by decide) (LX7_obj ad cy _) rfl 16 (by decide) w1 rfl dX7_puts_28 ?_
  refine lv_iconst (v := 1) hx hb dX7_puts_31 (by decide) ?_
  refine lv_iadd hx hb dX7_puts_32 ?_
  refine xt_put (ci := 7) (C := RX7) (T := TX7) (n := 25) hx hb hts iX7_puts_X7 tyX7 tyX7_ok nmX7 hown hK hP hJ hS 0 (by decide) (LX7_obj ad cy _) rfl 16 (by decide) w1 rfl (v := ((σ23 0 16) + 1)) rfl rfl (Nat.le_of_ble_eq_true rfl) (LX7_obj ad cy _) dX7_puts_33 (fun H locs hP hS => ?_)
  obtain ⟨σ24, eσ24⟩ : ∃ z : St, z = su σ23 0 16 ((σ23 0 16) + 1) := ⟨_, rfl⟩
  rw [← eσ24] at hP
  have hf := nm_to hf eσ24
  refine lv_aload_n hx hb dX7_puts_36 rfl (lv_at hl 1 rfl) ?_
  refine xt_get (ci := 7) (C := RX7) (T := TX7) (n := 25) (v := .ref (ad 12)) hx hb hts iX7_puts_X7 hown hK hP 0 (by decide) (LX7_obj ad cy _) rfl 15 (by decide) w5 rfl dX7_puts_37 ?_
  refine lv_iload_n hx hb dX7_puts_40 rfl (lv_at hl 2 rfl) ?_
  refine lv_iconst (v := 0) hx hb dX7_puts_41 (by decide) ?_
  obtain ⟨g25, hf⟩ := gd_some hf
  refine xt_iast hx hb hK hP hJ hS 12 (by decide) 0 (LX7_above ad cy) rfl g25 dX7_puts_42 (fun H locs hP hS => ?_)
  obtain ⟨σ26, eσ26⟩ : ∃ z : St, z = su σ24 12 a1.toNatClampNeg 0 := ⟨_, rfl⟩
  rw [← eσ26] at hP
  have hf := nm_to hf eσ26
  refine lv_iload_n hx hb dX7_puts_43 rfl (lv_at hl 0 rfl) ?_
  refine lv_if_ne (tgt := 48) hx hb dX7_puts_44 (by decide) (fun c27 => ?_) (fun c27 => ?_)
  · have hf := (if_neg c27).symm.trans hf
    refine lv_iconst (v := 0) hx hb dX7_puts_48 (by decide) ?_
    refine lv_istore_n (lv' := [(3, .int 0), (2, .int v17), (0, .ref (ad 0)), (1, .int a1)]) hx hb dX7_puts_49 rfl hl (by decide) rfl (fun ls hl => ?_)
    refine lv_iconst (v := 0) hx hb dX7_puts_50 (by decide) ?_
    refine lv_istore (lv' := [(4, .int 0), (3, .int 0), (2, .int v17), (0, .ref (ad 0)), (1, .int a1)]) hx hb dX7_puts_51 hl (by decide) rfl (fun ls hl => ?_)
    exact loop53 a1 v17 1000 σ26 0 0 hf H locs hP hS ls (lv_sub hl [3, 4, 2, 1, 0] rfl)
  · have hf := (if_pos c27).symm.trans hf
    exact xt_vret hx hb hr hP hS (Option.some.inj hf) dX7_puts_47 hlocks
def fX7_laysTree_B49 (σ : St) : Option St :=
  some σ
def fX7_laysTree_B43 (G7 : St → Int32 → Option St) (K7_49 : St → Option St) (σ : St) (x1 : Int32) : Option St :=
  nm (x1 + 1) fun v1 => G7 σ v1
def fX7_laysTree_L19 (x1 : Int32) (K19_43 : St → Option St) : Nat → St → Int32 → Option St
  | 0, _, _ => none
  | n19 + 1, σ, x2 => bd (fX7_points σ x1) fun r2 => if r2 ≤ x2 then (K19_43 σ) else (bd (fX7_pointOf σ x1 x2) fun r4 => bd (fX7_puts σ r4) fun r5 => nm (x2 + 1) fun v6 => (fX7_laysTree_L19 x1 K19_43 n19) r5 v6)
def fX7_laysTree_L7 (K7_49 : St → Option St) : Nat → St → Int32 → Option St
  | 0, _, _ => none
  | n7 + 1, σ, x1 => if (σ 1 (0 : Int32).toNatClampNeg) ≤ x1 then (K7_49 σ) else (fX7_laysTree_L19 x1 (fun σ => fX7_laysTree_B43 (fX7_laysTree_L7 K7_49 n7) K7_49 σ x1) 1000 σ 0)
def fX7_laysTree (σ : St) : Option St :=
  nm (su σ 0 16 0) fun σ8 => fX7_laysTree_L7 (fun σ => fX7_laysTree_B49 σ) 1000 σ8 0
abbrev rmX7_laysTree : Room := { frames := 3, cells := 0, slots := 0, locals := 64 }
theorem dmX7_laysTree : yX7_laysTree.cls = RX7 ∧ yX7_laysTree.cls ≠ "java/lang/invoke/MethodHandle" ∧ yX7_laysTree.cls ≠ "java/lang/invoke/VarHandle" ∧ (parseMethodDescriptor yX7_laysTree.desc).map (fun d => d.parameters.length) = some 0 := by decide +kernel
theorem iX7_laysTree_X7 : ∀ w ∈ wsX70, w ∈ wsX7_laysTree := fun w h => List.mem_cons_of_mem _ (List.mem_append_right _ (h))
set_option maxHeartbeats 8000000 in
set_option maxRecDepth 100000 in
theorem mX7_laysTree (l : Launch) (dC : Nat → ClassId) (dI : Nat → Nat → Nat) (ad : Nat → Nat) (cy : Nat → ClassId) (hJ : WJ 16 ad) (σ : St) (res : St) (hf : fX7_laysTree σ = some res) : CMv l yX7_laysTree wsX7_laysTree rmX7_laysTree (dC, dI) (tysX cy) 16 ad (layM ad cy) [.ref (ad 0)] σ res := by
  refine Met.ofW (cc := cX7_laysTree) (maxL := 3) (ret := none) (by decide) rfl ?_
  intro p e s m args below meth c s₁ B hml hv
  obtain ⟨hargs, hP, hK⟩ := hv
  have hx := B.exec
  have hb := B.bytes
  have hr := B.returns
  have hts := atoms_spec (ws := wsX7_laysTree) B.pre
  have hown : s.vm.findClass RX7 = some m.cls := findClass_of_methodNamed B.named
  have hlocks := B.notSynchronized
  have w1 := hts (.fieldLink RX7 177 "PierRingsModel" "nodeMany" "I") (List.mem_of_getElem? (i := 1) rfl)
  have w2 := hts (.fieldLink RX7 9 "PierRingsModel" "all" "[I") (List.mem_of_getElem? (i := 2) rfl)
  have hS : va_S (WA 16 ad) s.heap s.heap [] := va_S.rf
  have hfr : entryFrame m args 3 = F0 m 0 ((lg_sl [.ref (ad 0)] ++ List.replicate (3 - (lg_sl [.ref (ad 0)]).length) Slot.unset).toArray) [] := by rw [hargs]; exact lg_entry_eq _ _ _
  rw [hfr]
  have hl := lv_entry ([.ref (ad 0)]) (n := 3) (Nat.le_of_ble_eq_true rfl)
  generalize (lg_sl [.ref (ad 0)] ++ List.replicate (3 - (lg_sl [.ref (ad 0)]).length) Slot.unset).toArray = ls at hl ⊢
  have hl : lv_has ls 3 [(0, .ref (ad 0))] := hl
  clear hfr hargs B
  show W p l e rmX7_laysTree s m args below meth c s.heap [] 0 0 (MQ below (Qvw (dC, dI) 16 ad (layM ad cy) res) args s 0 0 (WA 16 ad)) (F0 m 0 ls [])
  have kB49 : ∀ (σ : St), fX7_laysTree_B49 σ = some res → ∀ (H : Heap) (locs : List Loc), va_P (dC, dI) vwCl (wd 16 ad (layM ad cy) σ) H → va_S (WA 16 ad) s.heap H locs → ∀ (ls : Array Slot), lv_has ls 3 [] → W p l e rmX7_laysTree s m args below meth c H locs 0 0 (MQ below (Qvw (dC, dI) 16 ad (layM ad cy) res) args s 0 0 (WA 16 ad)) (F0 m 49 ls []) := by
    intro σ hf H locs hP hS ls hl
    unfold fX7_laysTree_B49 at hf
    exact xt_vret hx hb hr hP hS (Option.some.inj hf) dX7_laysTree_49 hlocks
  have loop7 : ∀ (n7 : Nat) (σ : St) (x1 : Int32), fX7_laysTree_L7 (fun σ => fX7_laysTree_B49 σ) n7 σ x1 = some res → ∀ (H : Heap) (locs : List Loc), va_P (dC, dI) vwCl (wd 16 ad (layM ad cy) σ) H → va_S (WA 16 ad) s.heap H locs → ∀ (ls : Array Slot), lv_has ls 3 [(0, .ref (ad 0)), (1, .int x1)] → W p l e rmX7_laysTree s m args below meth c H locs 0 0 (MQ below (Qvw (dC, dI) 16 ad (layM ad cy) res) args s 0 0 (WA 16 ad)) (F0 m 7 ls []) := by
    intro n7
    induction n7 with
    | zero => intro σ x1 hf; simp [fX7_laysTree_L7] at hf
    | succ n7 ih7 =>
      intro σ x1 hf H locs hP hS ls hl
      rw [fX7_laysTree_L7] at hf
      have kB43 : ∀ (σ : St) (x1 : Int32), fX7_laysTree_B43 (fX7_laysTree_L7 (fun σ => fX7_laysTree_B49 σ) n7) (fun σ => fX7_laysTree_B49 σ) σ x1 = some res → ∀ (H : Heap) (locs : List Loc), va_P (dC, dI) vwCl (wd 16 ad (layM ad cy) σ) H → va_S (WA 16 ad) s.heap H locs → ∀ (ls : Array Slot), lv_has ls 3 [(0, .ref (ad 0)), (1, .int x1)] → W p l e rmX7_laysTree s m args below meth c H locs 0 0 (MQ below (Qvw (dC, dI) 16 ad (layM ad cy) res) args s 0 0 (WA 16 ad)) (F0 m 43 ls []) := by
        intro σ x1 hf H locs hP hS ls hl
        unfold fX7_laysTree_B43 at hf
        obtain ⟨v1, ev1⟩ : ∃ y : Int32, y = x1 + 1 := ⟨_, rfl⟩
        have hf := nm_to hf ev1
        refine lv_iinc (v := v1) (lv' := [(1, .int v1), (0, .ref (ad 0))]) hx hb dX7_laysTree_43 hl (k := 1) rfl (by rw [ev1]; rfl) (by decide) rfl (fun ls hl => ?_)
        refine lv_goto (tgt := 7) hx hb dX7_laysTree_46 (by decide) ?_
        exact ih7 σ v1 hf H locs hP hS ls (lv_sub hl [1, 0] rfl)
      have loop19 : ∀ (x1 : Int32) (n19 : Nat) (σ : St) (x2 : Int32), fX7_laysTree_L19 x1 (fun σ => fX7_laysTree_B43 (fX7_laysTree_L7 (fun σ => fX7_laysTree_B49 σ) n7) (fun σ => fX7_laysTree_B49 σ) σ x1) n19 σ x2 = some res → ∀ (H : Heap) (locs : List Loc), va_P (dC, dI) vwCl (wd 16 ad (layM ad cy) σ) H → va_S (WA 16 ad) s.heap H locs → ∀ (ls : Array Slot), lv_has ls 3 [(0, .ref (ad 0)), (1, .int x1), (2, .int x2)] → W p l e rmX7_laysTree s m args below meth c H locs 0 0 (MQ below (Qvw (dC, dI) 16 ad (layM ad cy) res) args s 0 0 (WA 16 ad)) (F0 m 19 ls []) := by
        intro x1 n19
        induction n19 with
        | zero => intro σ x2 hf; simp [fX7_laysTree_L19] at hf
        | succ n19 ih19 =>
          intro σ x2 hf H locs hP hS ls hl
          rw [fX7_laysTree_L19] at hf
          refine lv_iload_n hx hb dX7_laysTree_19 rfl (lv_at hl 2 rfl) ?_
          refine lv_aload_n hx hb dX7_laysTree_20 rfl (lv_at hl 0 rfl) ?_
          refine lv_iload_n hx hb dX7_laysTree_21 rfl (lv_at hl 1 rfl) ?_
          obtain ⟨r2, qr2, hf⟩ := bd_some hf
          refine xt_callVi (As := [.int x1]) (rest := [.int x2]) (C := RX7) (ci := 7) ⟨hx, hb, hml, hown, hts⟩ 0 (mX7_points l dC dI ad cy hJ σ x1 r2 qr2) (cwV 1 hts gX7_laysTree_X7_points rfl rfl rfl dmX7_points ⟨Nat.le_of_ble_eq_true rfl, Nat.le_of_ble_eq_true rfl⟩) hK hP hS (by decide) (LX7_obj ad cy _) rfl rfl rfl hl.1 (Nat.le_of_ble_eq_true rfl) ⟨Nat.zero_le _, Nat.zero_le _⟩ dX7_laysTree_22 (fun H locs hP hS => ?_)
          refine lv_icmp_ge (tgt := 43) hx hb dX7_laysTree_25 (by decide) (fun c3 => ?_) (fun c3 => ?_)
          · have hf := (if_pos c3).symm.trans hf
            exact kB43 σ x1 hf H locs hP hS ls (lv_sub hl [0, 1] rfl)
          · have hf := (if_neg c3).symm.trans hf
            refine lv_aload_n hx hb dX7_laysTree_28 rfl (lv_at hl 0 rfl) ?_
            refine lv_iload_n hx hb dX7_laysTree_29 rfl (lv_at hl 1 rfl) ?_
            refine lv_iload_n hx hb dX7_laysTree_30 rfl (lv_at hl 2 rfl) ?_
            obtain ⟨r4, qr4, hf⟩ := bd_some hf
            refine xt_callSi (As := [.int x1, .int x2]) (rest := [.ref (ad 0)]) ⟨hx, hb, hml, hown, hts⟩ (mX7_pointOf l dC dI ad cy hJ σ x1 x2 r4 qr4) (va_cwS 2 hts gX7_laysTree_X7_pointOf rfl rfl rfl dmX7_pointOf ⟨Nat.le_of_ble_eq_true rfl, Nat.le_of_ble_eq_true rfl⟩) hK hP hS rfl rfl hl.1 (Nat.le_of_ble_eq_true rfl) ⟨Nat.zero_le _, Nat.zero_le _⟩ dX7_laysTree_31 (fun H locs hP hS => ?_)
            obtain ⟨r5, qr5, hf⟩ := bd_some hf
            refine xt_callVv (As := [.int r4]) (rest := []) (C := RX7) (ci := 7) ⟨hx, hb, hml, hown, hts⟩ 0 (mX7_puts l dC dI ad cy hJ σ r4 r5 qr5) (cwV 1 hts gX7_laysTree_X7_puts rfl rfl rfl dmX7_puts ⟨Nat.le_of_ble_eq_true rfl, Nat.le_of_ble_eq_true rfl⟩) hK hP hS (by decide) (LX7_obj ad cy _) rfl rfl rfl hl.1 (Nat.le_of_ble_eq_true rfl) ⟨Nat.zero_le _, Nat.zero_le _⟩ dX7_laysTree_34 (fun H locs hP hS => ?_)
            obtain ⟨v6, ev6⟩ : ∃ y : Int32, y = x2 + 1 := ⟨_, rfl⟩
            have hf := nm_to hf ev6
            refine lv_iinc (v := v6) (lv' := [(2, .int v6), (0, .ref (ad 0)), (1, .int x1)]) hx hb dX7_laysTree_37 hl (k := 2) rfl (by rw [ev6]; rfl) (by decide) rfl (fun ls hl => ?_)
            refine lv_goto (tgt := 19) hx hb dX7_laysTree_40 (by decide) ?_
            exact ih19 r5 v6 hf H locs hP hS ls (lv_sub hl [1, 2, 0] rfl)
      refine lv_iload_n hx hb dX7_laysTree_7 rfl (lv_at hl 1 rfl) ?_
      refine lv_aload_n hx hb dX7_laysTree_8 rfl (lv_at hl 0 rfl) ?_
      refine xt_get (ci := 7) (C := RX7) (T := TX7) (n := 25) (v := .ref (ad 1)) hx hb hts iX7_laysTree_X7 hown hK hP 0 (by decide) (LX7_obj ad cy _) rfl 0 (by decide) w2 rfl dX7_laysTree_9 ?_
      refine lv_iconst (v := 0) hx hb dX7_laysTree_12 (by decide) ?_
      refine xt_iald hx hb hK hP 1 (by decide) 0 (LX7_all ad cy _) rfl (by decide) dX7_laysTree_13 ?_
      refine lv_icmp_ge (tgt := 49) hx hb dX7_laysTree_14 (by decide) (fun c7 => ?_) (fun c7 => ?_)
      · have hf := (if_pos c7).symm.trans hf
        exact kB49 σ hf H locs hP hS ls (lv_sub hl [] rfl)
      · have hf := (if_neg c7).symm.trans hf
        refine lv_iconst (v := 0) hx hb dX7_laysTree_17 (by decide) ?_
        refine lv_istore_n (lv' := [(2, .int 0), (0, .ref (ad 0)), (1, .int x1)]) hx hb dX7_laysTree_18 rfl hl (by decide) rfl (fun ls hl => ?_)
        exact loop19 x1 1000 σ 0 hf H locs hP hS ls (lv_sub hl [1, 2, 0] rfl)
  unfold fX7_laysTree at hf
  obtain ⟨H, eH⟩ : ∃ H : Heap, H = s.heap := ⟨_, rfl⟩
  rw [← eH] at hP
  have hS : va_S (WA 16 ad) s.heap H [] := by rw [eH]; exact hS
  suffices K : W p l e rmX7_laysTree s m args below meth c H [] 0 0 (MQ below (Qvw (dC, dI) 16 ad (layM ad cy) res) args s 0 0 (WA 16 ad)) (F0 m 0 ls []) by rw [eH] at K; exact K
  clear eH
  obtain ⟨locs, elocs⟩ : ∃ z : List Loc, z = [] := ⟨_, rfl⟩
  rw [← elocs] at hS ⊢
  refine lv_aload_n hx hb dX7_laysTree_0 rfl (lv_at hl 0 rfl) ?_
  refine lv_iconst (v := 0) hx hb dX7_laysTree_1 (by decide) ?_
  refine xt_put (ci := 7) (C := RX7) (T := TX7) (n := 25) hx hb hts iX7_laysTree_X7 tyX7 tyX7_ok nmX7 hown hK hP hJ hS 0 (by decide) (LX7_obj ad cy _) rfl 16 (by decide) w1 rfl (v := 0) rfl rfl (Nat.le_of_ble_eq_true rfl) (LX7_obj ad cy _) dX7_laysTree_2 (fun H locs hP hS => ?_)
  obtain ⟨σ8, eσ8⟩ : ∃ z : St, z = su σ 0 16 0 := ⟨_, rfl⟩
  rw [← eσ8] at hP
  have hf := nm_to hf eσ8
  refine lv_iconst (v := 0) hx hb dX7_laysTree_5 (by decide) ?_
  refine lv_istore_n (lv' := [(1, .int 0), (0, .ref (ad 0))]) hx hb dX7_laysTree_6 rfl hl (by decide) rfl (fun ls hl => ?_)
  exact loop7 1000 σ8 0 hf H locs hP hS ls (lv_sub hl [1, 0] rfl)
def fX7_ring_B60 (σ : St) (x2 : Int32) (x3 : Int32) : Option (Int32 × St) :=
  if x3 = (-1 : Int32) then (some ((-11), σ)) else (if x2 = 0 then (some (x3, σ)) else (if x2 = 1 then (gd (okI x3 360) <| some ((jrem (σ 2 x3.toNatClampNeg) 8), σ)) else (if x2 = 2 then (gd (okI x3 360) <| some (((σ 2 x3.toNatClampNeg) / 8), σ)) else (if x2 = 3 then (gd (okI x3 360) <| some ((σ 12 x3.toNatClampNeg), σ)) else (some ((-12), σ))))))
def fX7_ring_L16 (x1 : Int32) (K16_60 : St → Int32 → Option (Int32 × St)) : Nat → St → Int32 → Int32 → Int32 → Option (Int32 × St)
  | 0, _, _, _, _ => none
  | n16 + 1, σ, x3, x4, x5 => if (360 : Int32) ≤ x5 then (K16_60 σ x3) else (gd (okI x5 360) <| if (σ 2 x5.toNatClampNeg) = (-1 : Int32) then (nm (x5 + 1) fun v17 => (fX7_ring_L16 x1 K16_60 n16) σ x3 x4 v17) else (if x4 = x1 then (nm (x4 + 1) fun v15 => nm (x5 + 1) fun v16 => (fX7_ring_L16 x1 K16_60 n16) σ x5 v15 v16) else (nm (x4 + 1) fun v13 => nm (x5 + 1) fun v14 => (fX7_ring_L16 x1 K16_60 n16) σ x3 v13 v14)))
def fX7_ring (σ : St) (a1 : Int32) (a2 : Int32) : Option (Int32 × St) :=
  bd (fX7_laysRing σ) fun r18 => bd (fX7_laysTree r18) fun r19 => fX7_ring_L16 a1 (fun σ y3 => fX7_ring_B60 σ a2 y3) 1000 r19 (-1) 0 0
abbrev rmX7_ring : Room := { frames := 4, cells := 0, slots := 0, locals := 86 }
theorem dmX7_ring : yX7_ring.cls = RX7 ∧ yX7_ring.cls ≠ "java/lang/invoke/MethodHandle" ∧ yX7_ring.cls ≠ "java/lang/invoke/VarHandle" ∧ (parseMethodDescriptor yX7_ring.desc).map (fun d => d.parameters.length) = some 2 := by decide +kernel
theorem iX7_ring_X7 : ∀ w ∈ wsX70, w ∈ wsX7_ring := fun w h => List.mem_cons_of_mem _ (List.mem_append_right _ (h))
set_option maxHeartbeats 8000000 in
set_option maxRecDepth 100000 in
theorem mX7_ring (l : Launch) (dC : Nat → ClassId) (dI : Nat → Nat → Nat) (ad : Nat → Nat) (cy : Nat → ClassId) (hJ : WJ 16 ad) (σ : St) (a1 : Int32) (a2 : Int32) (res : (Int32 × St)) (hf : fX7_ring σ a1 a2 = some res) : CMi l yX7_ring wsX7_ring rmX7_ring (dC, dI) (tysX cy) 16 ad (layM ad cy) [.ref (ad 0), .int a1, .int a2] σ res.1 res.2 := by
  refine Met.ofW (cc := cX7_ring) (maxL := 6) (ret := (some .int)) (by decide) rfl ?_
  intro p e s m args below meth c s₁ B hml hv
  obtain ⟨hargs, hP, hK⟩ := hv
  have hx := B.exec
  have hb := B.bytes
  have hr := B.returns
  have hts := atoms_spec (ws := wsX7_ring) B.pre
  have hown : s.vm.findClass RX7 = some m.cls := findClass_of_methodNamed B.named
  have hlocks := B.notSynchronized
  have w1 := hts (.fieldLink RX7 13 "PierRingsModel" "owner" "[I") (List.mem_of_getElem? (i := 1) rfl)
  have w2 := hts (.fieldLink RX7 43 "PierRingsModel" "above" "[I") (List.mem_of_getElem? (i := 2) rfl)
  have hS : va_S (WA 16 ad) s.heap s.heap [] := va_S.rf
  have hfr : entryFrame m args 6 = F0 m 0 ((lg_sl [.ref (ad 0), .int a1, .int a2] ++ List.replicate (6 - (lg_sl [.ref (ad 0), .int a1, .int a2]).length) Slot.unset).toArray) [] := by rw [hargs]; exact lg_entry_eq _ _ _
  rw [hfr]
  have hl := lv_entry ([.ref (ad 0), .int a1, .int a2]) (n := 6) (Nat.le_of_ble_eq_true rfl)
  generalize (lg_sl [.ref (ad 0), .int a1, .int a2] ++ List.replicate (6 - (lg_sl [.ref (ad 0), .int a1, .int a2]).length) Slot.unset).toArray = ls at hl ⊢
  have hl : lv_has ls 6 [(0, .ref (ad 0)), (1, .int a1), (2, .int a2)] := hl
  clear hfr hargs B
  show W p l e rmX7_ring s m args below meth c s.heap [] 0 0 (MQ below (Qiw (dC, dI) 16 ad (layM ad cy) res.1 res.2) args s 0 0 (WA 16 ad)) (F0 m 0 ls [])
  have kB60 : ∀ (σ : St) (x2 : Int32) (x3 : Int32), fX7_ring_B60 σ x2 x3 = some res → ∀ (H : Heap) (locs : List Loc), va_P (dC, dI) vwCl (wd 16 ad (layM ad cy) σ) H → va_S (WA 16 ad) s.heap H locs → ∀ (ls : Array Slot), lv_has ls 6 [(0, .ref (ad 0)), (2, .int x2), (3, .int x3)] → W p l e rmX7_ring s m args below meth c H locs 0 0 (MQ below (Qiw (dC, dI) 16 ad (layM ad cy) res.1 res.2) args s 0 0 (WA 16 ad)) (F0 m 60 ls []) := by
    intro σ x2 x3 hf H locs hP hS ls hl
    unfold fX7_ring_B60 at hf
    refine lv_iload_n hx hb dX7_ring_60 rfl (lv_at hl 2 rfl) ?_
    refine lv_iconst (v := (-1)) hx hb dX7_ring_61 (by decide) ?_
    refine lv_icmp_ne (tgt := 68) hx hb dX7_ring_62 (by decide) (fun c1 => ?_) (fun c1 => ?_)
    · have hf := (if_neg c1).symm.trans hf
      refine lv_iload_n hx hb dX7_ring_68 rfl (lv_at hl 1 rfl) ?_
      by_cases c2 : x2 = 0
      · have hf := (if_pos c2).symm.trans hf
        refine lv_tableIn (tgt := 100) (off := 31) hx hb dX7_ring_69 (by rw [c2]; decide) (by rw [c2]; decide) (by rw [c2]; rfl) (by decide) ?_
        refine lv_iload_n hx hb dX7_ring_100 rfl (lv_at hl 2 rfl) ?_
        exact xt_iret hx hb hr hP hS (rs_1 hf) (rs_2 hf) dX7_ring_101 hlocks
      · have hf := (if_neg c2).symm.trans hf
        by_cases c3 : x2 = 1
        · have hf := (if_pos c3).symm.trans hf
          refine lv_tableIn (tgt := 102) (off := 33) hx hb dX7_ring_69 (by rw [c3]; decide) (by rw [c3]; decide) (by rw [c3]; rfl) (by decide) ?_
          refine lv_aload_n hx hb dX7_ring_102 rfl (lv_at hl 0 rfl) ?_
          refine xt_get (ci := 7) (C := RX7) (T := TX7) (n := 25) (v := .ref (ad 2)) hx hb hts iX7_ring_X7 hown hK hP 0 (by decide) (LX7_obj ad cy _) rfl 5 (by decide) w1 rfl dX7_ring_103 ?_
          refine lv_iload_n hx hb dX7_ring_106 rfl (lv_at hl 2 rfl) ?_
          obtain ⟨g4, hf⟩ := gd_some hf
          refine xt_iald hx hb hK hP 2 (by decide) 0 (LX7_owner ad cy _) rfl g4 dX7_ring_107 ?_
          refine lv_bipush (v := 8) hx hb dX7_ring_108 (by decide) ?_
          refine xt_irem hx hb dX7_ring_110 (by decide) ?_
          exact xt_iret hx hb hr hP hS (rs_1 hf) (rs_2 hf) dX7_ring_111 hlocks
        · have hf := (if_neg c3).symm.trans hf
          by_cases c5 : x2 = 2
          · have hf := (if_pos c5).symm.trans hf
            refine lv_tableIn (tgt := 112) (off := 43) hx hb dX7_ring_69 (by rw [c5]; decide) (by rw [c5]; decide) (by rw [c5]; rfl) (by decide) ?_
            refine lv_aload_n hx hb dX7_ring_112 rfl (lv_at hl 0 rfl) ?_
            refine xt_get (ci := 7) (C := RX7) (T := TX7) (n := 25) (v := .ref (ad 2)) hx hb hts iX7_ring_X7 hown hK hP 0 (by decide) (LX7_obj ad cy _) rfl 5 (by decide) w1 rfl dX7_ring_113 ?_
            refine lv_iload_n hx hb dX7_ring_116 rfl (lv_at hl 2 rfl) ?_
            obtain ⟨g6, hf⟩ := gd_some hf
            refine xt_iald hx hb hK hP 2 (by decide) 0 (LX7_owner ad cy _) rfl g6 dX7_ring_117 ?_
            refine lv_bipush (v := 8) hx hb dX7_ring_118 (by decide) ?_
            refine lv_idiv hx hb dX7_ring_120 (by decide) ?_
            exact xt_iret hx hb hr hP hS (rs_1 hf) (rs_2 hf) dX7_ring_121 hlocks
          · have hf := (if_neg c5).symm.trans hf
            by_cases c7 : x2 = 3
            · have hf := (if_pos c7).symm.trans hf
              refine lv_tableIn (tgt := 122) (off := 53) hx hb dX7_ring_69 (by rw [c7]; decide) (by rw [c7]; decide) (by rw [c7]; rfl) (by decide) ?_
              refine lv_aload_n hx hb dX7_ring_122 rfl (lv_at hl 0 rfl) ?_
              refine xt_get (ci := 7) (C := RX7) (T := TX7) (n := 25) (v := .ref (ad 12)) hx hb hts iX7_ring_X7 hown hK hP 0 (by decide) (LX7_obj ad cy _) rfl 15 (by decide) w2 rfl dX7_ring_123 ?_
              refine lv_iload_n hx hb dX7_ring_126 rfl (lv_at hl 2 rfl) ?_
              obtain ⟨g8, hf⟩ := gd_some hf
              refine xt_iald hx hb hK hP 12 (by decide) 0 (LX7_above ad cy _) rfl g8 dX7_ring_127 ?_
              exact xt_iret hx hb hr hP hS (rs_1 hf) (rs_2 hf) dX7_ring_128 hlocks
            · have hf := (if_neg c7).symm.trans hf
              refine lv_tableOut (tgt := 129) hx hb dX7_ring_69 (by have ic2 : ¬ Int32.toInt x2 = 0 := lv_neT c2 (by decide); have ic3 : ¬ Int32.toInt x2 = 1 := lv_neT c3 (by decide); have ic5 : ¬ Int32.toInt x2 = 2 := lv_neT c5 (by decide); have ic7 : ¬ Int32.toInt x2 = 3 := lv_neT c7 (by decide); omega) (by decide) ?_
              refine lv_bipush (v := (-12)) hx hb dX7_ring_129 (by decide) ?_
              exact xt_iret hx hb hr hP hS (rs_1 hf) (rs_2 hf) dX7_ring_131 hlocks
    · have hf := (if_pos c1).symm.trans hf
      refine lv_bipush (v := (-11)) hx hb dX7_ring_65 (by decide) ?_
      exact xt_iret hx hb hr hP hS (rs_1 hf) (rs_2 hf) dX7_ring_67 hlocks
  have loop16 : ∀ (x1 : Int32) (x2 : Int32) (n16 : Nat) (σ : St) (x3 : Int32) (x4 : Int32) (x5 : Int32), fX7_ring_L16 x1 (fun σ y3 => fX7_ring_B60 σ x2 y3) n16 σ x3 x4 x5 = some res → ∀ (H : Heap) (locs : List Loc), va_P (dC, dI) vwCl (wd 16 ad (layM ad cy) σ) H → va_S (WA 16 ad) s.heap H locs → ∀ (ls : Array Slot), lv_has ls 6 [(0, .ref (ad 0)), (1, .int x1), (2, .int x2), (3, .int x3), (4, .int x4), (5, .int x5)] → W p l e rmX7_ring s m args below meth c H locs 0 0 (MQ below (Qiw (dC, dI) 16 ad (layM ad cy) res.1 res.2) args s 0 0 (WA 16 ad)) (F0 m 16 ls []) := by
    intro x1 x2 n16
    induction n16 with
    | zero => intro σ x3 x4 x5 hf; simp [fX7_ring_L16] at hf
    | succ n16 ih16 =>
      intro σ x3 x4 x5 hf H locs hP hS ls hl
      rw [fX7_ring_L16] at hf
      refine lv_iload hx hb dX7_ring_16 (lv_at hl 5 rfl) ?_
      refine lv_sipush (v := 360) hx hb dX7_ring_18 (by decide) ?_
      refine lv_icmp_ge (tgt := 60) hx hb dX7_ring_21 (by decide) (fun c9 => ?_) (fun c9 => ?_)
      · have hf := (if_pos c9).symm.trans hf
        exact kB60 σ x2 x3 hf H locs hP hS ls (lv_sub hl [0, 2, 3] rfl)
      · have hf := (if_neg c9).symm.trans hf
        refine lv_aload_n hx hb dX7_ring_24 rfl (lv_at hl 0 rfl) ?_
        refine xt_get (ci := 7) (C := RX7) (T := TX7) (n := 25) (v := .ref (ad 2)) hx hb hts iX7_ring_X7 hown hK hP 0 (by decide) (LX7_obj ad cy _) rfl 5 (by decide) w1 rfl dX7_ring_25 ?_
        refine lv_iload hx hb dX7_ring_28 (lv_at hl 5 rfl) ?_
        obtain ⟨g10, hf⟩ := gd_some hf
        refine xt_iald hx hb hK hP 2 (by decide) 0 (LX7_owner ad cy _) rfl g10 dX7_ring_30 ?_
        refine lv_iconst (v := (-1)) hx hb dX7_ring_31 (by decide) ?_
        refine lv_icmp_ne (tgt := 38) hx hb dX7_ring_32 (by decide) (fun c11 => ?_) (fun c11 => ?_)
        · have hf := (if_neg c11).symm.trans hf
          refine lv_iload hx hb dX7_ring_38 (lv_at hl 4 rfl) ?_
          refine lv_iload_n hx hb dX7_ring_40 rfl (lv_at hl 1 rfl) ?_
          refine lv_icmp_ne (tgt := 49) hx hb dX7_ring_41 (by decide) (fun c12 => ?_) (fun c12 => ?_)
          · have hf := (if_neg c12).symm.trans hf
            refine lv_iload_n hx hb dX7_ring_49 rfl (lv_at hl 3 rfl) ?_
            refine lv_istore_n (lv' := [(3, .int x3), (0, .ref (ad 0)), (1, .int x1), (2, .int x2), (4, .int x4), (5, .int x5)]) hx hb dX7_ring_50 rfl hl (by decide) rfl (fun ls hl => ?_)
            obtain ⟨v13, ev13⟩ : ∃ y : Int32, y = x4 + 1 := ⟨_, rfl⟩
            have hf := nm_to hf ev13
            refine lv_iinc (v := v13) (lv' := [(4, .int v13), (3, .int x3), (0, .ref (ad 0)), (1, .int x1), (2, .int x2), (5, .int x5)]) hx hb dX7_ring_51 hl (k := 4) rfl (by rw [ev13]; rfl) (by decide) rfl (fun ls hl => ?_)
            obtain ⟨v14, ev14⟩ : ∃ y : Int32, y = x5 + 1 := ⟨_, rfl⟩
            have hf := nm_to hf ev14
            refine lv_iinc (v := v14) (lv' := [(5, .int v14), (4, .int v13), (3, .int x3), (0, .ref (ad 0)), (1, .int x1), (2, .int x2)]) hx hb dX7_ring_54 hl (k := 5) rfl (by rw [ev14]; rfl) (by decide) rfl (fun ls hl => ?_)
            refine lv_goto (tgt := 16) hx hb dX7_ring_57 (by decide) ?_
            exact ih16 σ x3 v13 v14 hf H locs hP hS ls (lv_sub hl [3, 4, 5, 2, 1, 0] rfl)
          · have hf := (if_pos c12).symm.trans hf
            refine lv_iload hx hb dX7_ring_44 (lv_at hl 5 rfl) ?_
            refine lv_goto (tgt := 50) hx hb dX7_ring_46 (by decide) ?_
            refine lv_istore_n (lv' := [(3, .int x5), (0, .ref (ad 0)), (1, .int x1), (2, .int x2), (4, .int x4), (5, .int x5)]) hx hb dX7_ring_50 rfl hl (by decide) rfl (fun ls hl => ?_)
            obtain ⟨v15, ev15⟩ : ∃ y : Int32, y = x4 + 1 := ⟨_, rfl⟩
            have hf := nm_to hf ev15
            refine lv_iinc (v := v15) (lv' := [(4, .int v15), (3, .int x5), (0, .ref (ad 0)), (1, .int x1), (2, .int x2), (5, .int x5)]) hx hb dX7_ring_51 hl (k := 4) rfl (by rw [ev15]; rfl) (by decide) rfl (fun ls hl => ?_)
            obtain ⟨v16, ev16⟩ : ∃ y : Int32, y = x5 + 1 := ⟨_, rfl⟩
            have hf := nm_to hf ev16
            refine lv_iinc (v := v16) (lv' := [(5, .int v16), (4, .int v15), (3, .int x5), (0, .ref (ad 0)), (1, .int x1), (2, .int x2)]) hx hb dX7_ring_54 hl (k := 5) rfl (by rw [ev16]; rfl) (by decide) rfl (fun ls hl => ?_)
            refine lv_goto (tgt := 16) hx hb dX7_ring_57 (by decide) ?_
            exact ih16 σ x5 v15 v16 hf H locs hP hS ls (lv_sub hl [3, 4, 5, 2, 1, 0] rfl)
        · have hf := (if_pos c11).symm.trans hf
          refine lv_goto (tgt := 54) hx hb dX7_ring_35 (by decide) ?_
          obtain ⟨v17, ev17⟩ : ∃ y : Int32, y = x5 + 1 := ⟨_, rfl⟩
          have hf := nm_to hf ev17
          refine lv_iinc (v := v17) (lv' := [(5, .int v17), (0, .ref (ad 0)), (1, .int x1), (2, .int x2), (3, .int x3), (4, .int x4)]) hx hb dX7_ring_54 hl (k := 5) rfl (by rw [ev17]; rfl) (by decide) rfl (fun ls hl => ?_)
          refine lv_goto (tgt := 16) hx hb dX7_ring_57 (by decide) ?_
          exact ih16 σ x3 x4 v17 hf H locs hP hS ls (lv_sub hl [1, 2, 3, 4, 5, 0] rfl)
  unfold fX7_ring at hf
  obtain ⟨H, eH⟩ : ∃ H : Heap, H = s.heap := ⟨_, rfl⟩
  rw [← eH] at hP
  have hS : va_S (WA 16 ad) s.heap H [] := by rw [eH]; exact hS
  suffices K : W p l e rmX7_ring s m args below meth c H [] 0 0 (MQ below (Qiw (dC, dI) 16 ad (layM ad cy) res.1 res.2) args s 0 0 (WA 16 ad)) (F0 m 0 ls []) by rw [eH] at K; exact K
  clear eH
  obtain ⟨locs, elocs⟩ : ∃ z : List Loc, z = [] := ⟨_, rfl⟩
  rw [← elocs] at hS ⊢
  refine lv_aload_n hx hb dX7_ring_0 rfl (lv_at hl 0 rfl) ?_
  obtain ⟨r18, qr18, hf⟩ := bd_some hf
  refine xt_callVv (As := []) (rest := []) (C := RX7) (ci := 7) ⟨hx, hb, hml, hown, hts⟩ 0 (mX7_laysRing l dC dI ad cy hJ σ r18 qr18) (cwV 0 hts gX7_ring_X7_laysRing rfl rfl rfl dmX7_laysRing ⟨Nat.le_of_ble_eq_true rfl, Nat.le_of_ble_eq_true rfl⟩) hK hP hS (by decide) (LX7_obj ad cy _) rfl rfl rfl hl.1 (Nat.le_of_ble_eq_true rfl) ⟨Nat.zero_le _, Nat.zero_le _⟩ dX7_ring_1 (fun H locs hP hS => ?_)
  refine lv_aload_n hx hb dX7_ring_4 rfl (lv_at hl 0 rfl) ?_
  obtain ⟨r19, qr19, hf⟩ := bd_some hf
  refine xt_callVv (As := []) (rest := []) (C := RX7) (ci := 7) ⟨hx, hb, hml, hown, hts⟩ 0 (mX7_laysTree l dC dI ad cy hJ r18 r19 qr19) (cwV 0 hts gX7_ring_X7_laysTree rfl rfl rfl dmX7_laysTree ⟨Nat.le_of_ble_eq_true rfl, Nat.le_of_ble_eq_true rfl⟩) hK hP hS (by decide) (LX7_obj ad cy _) rfl rfl rfl hl.1 (Nat.le_of_ble_eq_true rfl) ⟨Nat.zero_le _, Nat.zero_le _⟩ dX7_ring_5 (fun H locs hP hS => ?_)
  refine lv_iconst (v := (-1)) hx hb dX7_ring_8 (by decide) ?_
  refine lv_istore_n (lv' := [(3, .int (-1)), (0, .ref (ad 0)), (1, .int a1), (2, .int a2)]) hx hb dX7_ring_9 rfl hl (by decide) rfl (fun ls hl => ?_)
  refine lv_iconst (v := 0) hx hb dX7_ring_10 (by decide) ?_
  refine lv_istore (lv' := [(4, .int 0), (3, .int (-1)), (0, .ref (ad 0)), (1, .int a1), (2, .int a2)]) hx hb dX7_ring_11 hl (by decide) rfl (fun ls hl => ?_)
  refine lv_iconst (v := 0) hx hb dX7_ring_13 (by decide) ?_
  refine lv_istore (lv' := [(5, .int 0), (4, .int 0), (3, .int (-1)), (0, .ref (ad 0)), (1, .int a1), (2, .int a2)]) hx hb dX7_ring_14 hl (by decide) rfl (fun ls hl => ?_)
  exact loop16 a1 a2 1000 r19 (-1) 0 0 hf H locs hP hS ls (lv_sub hl [3, 4, 5, 2, 1, 0] rfl)
def fX7_deep_B57 (σ : St) (x1 : Int32) : Option (Int32 × St) :=
  some (x1, σ)
def fX7_deep_L8 (K8_57 : St → Int32 → Option (Int32 × St)) : Nat → St → Int32 → Int32 → Option (Int32 × St)
  | 0, _, _, _ => none
  | n8 + 1, σ, x1, x2 => if (σ 0 16) ≤ x2 then (K8_57 σ x1) else (gd (okI x2 80) <| gd (okI (σ 9 x2.toNatClampNeg) 360) <| if ((σ 12 (σ 9 x2.toNatClampNeg).toNatClampNeg) + 1) ≤ x1 then (nm (x2 + 1) fun v5 => (fX7_deep_L8 K8_57 n8) σ x1 v5) else (gd (okI x2 80) <| gd (okI (σ 9 x2.toNatClampNeg) 360) <| nm ((σ 12 (σ 9 x2.toNatClampNeg).toNatClampNeg) + 1) fun v8 => nm (x2 + 1) fun v9 => (fX7_deep_L8 K8_57 n8) σ v8 v9))
def fX7_deep (σ : St) : Option (Int32 × St) :=
  bd (fX7_laysTree σ) fun r10 => fX7_deep_L8 (fun σ y1 => fX7_deep_B57 σ y1) 1000 r10 0 0
abbrev rmX7_deep : Room := { frames := 4, cells := 0, slots := 0, locals := 86 }
theorem dmX7_deep : yX7_deep.cls = RX7 ∧ yX7_deep.cls ≠ "java/lang/invoke/MethodHandle" ∧ yX7_deep.cls ≠ "java/lang/invoke/VarHandle" ∧ (parseMethodDescriptor yX7_deep.desc).map (fun d => d.parameters.length) = some 0 := by decide +kernel
theorem iX7_deep_X7 : ∀ w ∈ wsX70, w ∈ wsX7_deep := fun w h => List.mem_cons_of_mem _ (List.mem_append_right _ (h))
set_option maxHeartbeats 8000000 in
set_option maxRecDepth 100000 in
theorem mX7_deep (l : Launch) (dC : Nat → ClassId) (dI : Nat → Nat → Nat) (ad : Nat → Nat) (cy : Nat → ClassId) (hJ : WJ 16 ad) (σ : St) (res : (Int32 × St)) (hf : fX7_deep σ = some res) : CMi l yX7_deep wsX7_deep rmX7_deep (dC, dI) (tysX cy) 16 ad (layM ad cy) [.ref (ad 0)] σ res.1 res.2 := by
  refine Met.ofW (cc := cX7_deep) (maxL := 3) (ret := (some .int)) (by decide) rfl ?_
  intro p e s m args below meth c s₁ B hml hv
  obtain ⟨hargs, hP, hK⟩ := hv
  have hx := B.exec
  have hb := B.bytes
  have hr := B.returns
  have hts := atoms_spec (ws := wsX7_deep) B.pre
  have hown : s.vm.findClass RX7 = some m.cls := findClass_of_methodNamed B.named
  have hlocks := B.notSynchronized
  have w1 := hts (.fieldLink RX7 177 "PierRingsModel" "nodeMany" "I") (List.mem_of_getElem? (i := 1) rfl)
  have w2 := hts (.fieldLink RX7 43 "PierRingsModel" "above" "[I") (List.mem_of_getElem? (i := 2) rfl)
  have w3 := hts (.fieldLink RX7 34 "PierRingsModel" "node" "[I") (List.mem_of_getElem? (i := 3) rfl)
  have hS : va_S (WA 16 ad) s.heap s.heap [] := va_S.rf
  have hfr : entryFrame m args 3 = F0 m 0 ((lg_sl [.ref (ad 0)] ++ List.replicate (3 - (lg_sl [.ref (ad 0)]).length) Slot.unset).toArray) [] := by rw [hargs]; exact lg_entry_eq _ _ _
  rw [hfr]
  have hl := lv_entry ([.ref (ad 0)]) (n := 3) (Nat.le_of_ble_eq_true rfl)
  generalize (lg_sl [.ref (ad 0)] ++ List.replicate (3 - (lg_sl [.ref (ad 0)]).length) Slot.unset).toArray = ls at hl ⊢
  have hl : lv_has ls 3 [(0, .ref (ad 0))] := hl
  clear hfr hargs B
  show W p l e rmX7_deep s m args below meth c s.heap [] 0 0 (MQ below (Qiw (dC, dI) 16 ad (layM ad cy) res.1 res.2) args s 0 0 (WA 16 ad)) (F0 m 0 ls [])
  have kB57 : ∀ (σ : St) (x1 : Int32), fX7_deep_B57 σ x1 = some res → ∀ (H : Heap) (locs : List Loc), va_P (dC, dI) vwCl (wd 16 ad (layM ad cy) σ) H → va_S (WA 16 ad) s.heap H locs → ∀ (ls : Array Slot), lv_has ls 3 [(1, .int x1)] → W p l e rmX7_deep s m args below meth c H locs 0 0 (MQ below (Qiw (dC, dI) 16 ad (layM ad cy) res.1 res.2) args s 0 0 (WA 16 ad)) (F0 m 57 ls []) := by
    intro σ x1 hf H locs hP hS ls hl
    unfold fX7_deep_B57 at hf
    refine lv_iload_n hx hb dX7_deep_57 rfl (lv_at hl 0 rfl) ?_
    exact xt_iret hx hb hr hP hS (rs_1 hf) (rs_2 hf) dX7_deep_58 hlocks
  have loop8 : ∀ (n8 : Nat) (σ : St) (x1 : Int32) (x2 : Int32), fX7_deep_L8 (fun σ y1 => fX7_deep_B57 σ y1) n8 σ x1 x2 = some res → ∀ (H : Heap) (locs : List Loc), va_P (dC, dI) vwCl (wd 16 ad (layM ad cy) σ) H → va_S (WA 16 ad) s.heap H locs → ∀ (ls : Array Slot), lv_has ls 3 [(0, .ref (ad 0)), (1, .int x1), (2, .int x2)] → W p l e rmX7_deep s m args below meth c H locs 0 0 (MQ below (Qiw (dC, dI) 16 ad (layM ad cy) res.1 res.2) args s 0 0 (WA 16 ad)) (F0 m 8 ls []) := by
    intro n8
    induction n8 with
    | zero => intro σ x1 x2 hf; simp [fX7_deep_L8] at hf
    | succ n8 ih8 =>
      intro σ x1 x2 hf H locs hP hS ls hl
      rw [fX7_deep_L8] at hf
      refine lv_iload_n hx hb dX7_deep_8 rfl (lv_at hl 2 rfl) ?_
      refine lv_aload_n hx hb dX7_deep_9 rfl (lv_at hl 0 rfl) ?_
      refine xt_get (ci := 7) (C := RX7) (T := TX7) (n := 25) (v := .int (σ 0 16)) hx hb hts iX7_deep_X7 hown hK hP 0 (by decide) (LX7_obj ad cy _) rfl 16 (by decide) w1 rfl dX7_deep_10 ?_
      refine lv_icmp_ge (tgt := 57) hx hb dX7_deep_13 (by decide) (fun c1 => ?_) (fun c1 => ?_)
      · have hf := (if_pos c1).symm.trans hf
        exact kB57 σ x1 hf H locs hP hS ls (lv_sub hl [1] rfl)
      · have hf := (if_neg c1).symm.trans hf
        refine lv_aload_n hx hb dX7_deep_16 rfl (lv_at hl 0 rfl) ?_
        refine xt_get (ci := 7) (C := RX7) (T := TX7) (n := 25) (v := .ref (ad 12)) hx hb hts iX7_deep_X7 hown hK hP 0 (by decide) (LX7_obj ad cy _) rfl 15 (by decide) w2 rfl dX7_deep_17 ?_
        refine lv_aload_n hx hb dX7_deep_20 rfl (lv_at hl 0 rfl) ?_
        refine xt_get (ci := 7) (C := RX7) (T := TX7) (n := 25) (v := .ref (ad 9)) hx hb hts iX7_deep_X7 hown hK hP 0 (by decide) (LX7_obj ad cy _) rfl 12 (by decide) w3 rfl dX7_deep_21 ?_
        refine lv_iload_n hx hb dX7_deep_24 rfl (lv_at hl 2 rfl) ?_
        obtain ⟨g2, hf⟩ := gd_some hf
        refine xt_iald hx hb hK hP 9 (by decide) 0 (LX7_node ad cy _) rfl g2 dX7_deep_25 ?_
        obtain ⟨g3, hf⟩ := gd_some hf
        refine xt_iald hx hb hK hP 12 (by decide) 0 (LX7_above ad cy _) rfl g3 dX7_deep_26 ?_
        refine lv_iconst (v := 1) hx hb dX7_deep_27 (by decide) ?_
        refine lv_iadd hx hb dX7_deep_28 ?_
        refine lv_iload_n hx hb dX7_deep_29 rfl (lv_at hl 1 rfl) ?_
        refine lv_icmp_le (tgt := 49) hx hb dX7_deep_30 (by decide) (fun c4 => ?_) (fun c4 => ?_)
        · have hf := (if_pos c4).symm.trans hf
          refine lv_iload_n hx hb dX7_deep_49 rfl (lv_at hl 1 rfl) ?_
          refine lv_istore_n (lv' := [(1, .int x1), (0, .ref (ad 0)), (2, .int x2)]) hx hb dX7_deep_50 rfl hl (by decide) rfl (fun ls hl => ?_)
          obtain ⟨v5, ev5⟩ : ∃ y : Int32, y = x2 + 1 := ⟨_, rfl⟩
          have hf := nm_to hf ev5
          refine lv_iinc (v := v5) (lv' := [(2, .int v5), (1, .int x1), (0, .ref (ad 0))]) hx hb dX7_deep_51 hl (k := 2) rfl (by rw [ev5]; rfl) (by decide) rfl (fun ls hl => ?_)
          refine lv_goto (tgt := 8) hx hb dX7_deep_54 (by decide) ?_
          exact ih8 σ x1 v5 hf H locs hP hS ls (lv_sub hl [2, 1, 0] rfl)
        · have hf := (if_neg c4).symm.trans hf
          refine lv_aload_n hx hb dX7_deep_33 rfl (lv_at hl 0 rfl) ?_
          refine xt_get (ci := 7) (C := RX7) (T := TX7) (n := 25) (v := .ref (ad 12)) hx hb hts iX7_deep_X7 hown hK hP 0 (by decide) (LX7_obj ad cy _) rfl 15 (by decide) w2 rfl dX7_deep_34 ?_
          refine lv_aload_n hx hb dX7_deep_37 rfl (lv_at hl 0 rfl) ?_
          refine xt_get (ci := 7) (C := RX7) (T := TX7) (n := 25) (v := .ref (ad 9)) hx hb hts iX7_deep_X7 hown hK hP 0 (by decide) (LX7_obj ad cy _) rfl 12 (by decide) w3 rfl dX7_deep_38 ?_
          refine lv_iload_n hx hb dX7_deep_41 rfl (lv_at hl 2 rfl) ?_
          obtain ⟨g6, hf⟩ := gd_some hf
          refine xt_iald hx hb hK hP 9 (by decide) 0 (LX7_node ad cy _) rfl g6 dX7_deep_42 ?_
          obtain ⟨g7, hf⟩ := gd_some hf
          refine xt_iald hx hb hK hP 12 (by decide) 0 (LX7_above ad cy _) rfl g7 dX7_deep_43 ?_
          refine lv_iconst (v := 1) hx hb dX7_deep_44 (by decide) ?_
          refine lv_iadd hx hb dX7_deep_45 ?_
          refine lv_goto (tgt := 50) hx hb dX7_deep_46 (by decide) ?_
          refine lv_topi (fun v8 ev8 => ?_)
          have hf := nm_to hf ev8
          refine lv_istore_n (lv' := [(1, .int v8), (0, .ref (ad 0)), (2, .int x2)]) hx hb dX7_deep_50 rfl hl (by decide) rfl (fun ls hl => ?_)
          obtain ⟨v9, ev9⟩ : ∃ y : Int32, y = x2 + 1 := ⟨_, rfl⟩
          have hf := nm_to hf ev9
          refine lv_iinc (v := v9) (lv' := [(2, .int v9), (1, .int v8), (0, .ref (ad 0))]) hx hb dX7_deep_51 hl (k := 2) rfl (by rw [ev9]; rfl) (by decide) rfl (fun ls hl => ?_)
          refine lv_goto (tgt := 8) hx hb dX7_deep_54 (by decide) ?_
          exact ih8 σ v8 v9 hf H locs hP hS ls (lv_sub hl [2, 1, 0] rfl)
  unfold fX7_deep at hf
  obtain ⟨H, eH⟩ : ∃ H : Heap, H = s.heap := ⟨_, rfl⟩
  rw [← eH] at hP
  have hS : va_S (WA 16 ad) s.heap H [] := by rw [eH]; exact hS
  suffices K : W p l e rmX7_deep s m args below meth c H [] 0 0 (MQ below (Qiw (dC, dI) 16 ad (layM ad cy) res.1 res.2) args s 0 0 (WA 16 ad)) (F0 m 0 ls []) by rw [eH] at K; exact K
  clear eH
  obtain ⟨locs, elocs⟩ : ∃ z : List Loc, z = [] := ⟨_, rfl⟩
  rw [← elocs] at hS ⊢
  refine lv_aload_n hx hb dX7_deep_0 rfl (lv_at hl 0 rfl) ?_
  obtain ⟨r10, qr10, hf⟩ := bd_some hf
  refine xt_callVv (As := []) (rest := []) (C := RX7) (ci := 7) ⟨hx, hb, hml, hown, hts⟩ 0 (mX7_laysTree l dC dI ad cy hJ σ r10 qr10) (cwV 0 hts gX7_deep_X7_laysTree rfl rfl rfl dmX7_laysTree ⟨Nat.le_of_ble_eq_true rfl, Nat.le_of_ble_eq_true rfl⟩) hK hP hS (by decide) (LX7_obj ad cy _) rfl rfl rfl hl.1 (Nat.le_of_ble_eq_true rfl) ⟨Nat.zero_le _, Nat.zero_le _⟩ dX7_deep_1 (fun H locs hP hS => ?_)
  refine lv_iconst (v := 0) hx hb dX7_deep_4 (by decide) ?_
  refine lv_istore_n (lv' := [(1, .int 0), (0, .ref (ad 0))]) hx hb dX7_deep_5 rfl hl (by decide) rfl (fun ls hl => ?_)
  refine lv_iconst (v := 0) hx hb dX7_deep_6 (by decide) ?_
  refine lv_istore_n (lv' := [(2, .int 0), (1, .int 0), (0, .ref (ad 0))]) hx hb dX7_deep_7 rfl hl (by decide) rfl (fun ls hl => ?_)
  exact loop8 1000 r10 0 0 hf H locs hP hS ls (lv_sub hl [2, 1, 0] rfl)
def fX7_wouldMove (σ : St) (a1 : Int32) : Option (Int32 × St) :=
  bd (fX7_in σ a1 1 5) fun r1 => if r1 = 0 then (some ((-12), σ)) else (nm (σ 1 (0 : Int32).toNatClampNeg) fun v3 => if v3 = (8 : Int32) then (some ((-13), σ)) else (bd (fX7_copies σ 0 11) fun r5 => bd (fX7_looksAtHomes r5) fun r6 => gd (okI ((4 + (2 * v3)) + 0) 816) <| nm (su r6 1 ((4 + (2 * v3)) + 0).toNatClampNeg a1) fun σ8 => gd (okI ((4 + (2 * v3)) + 1) 816) <| nm (su σ8 1 ((4 + (2 * v3)) + 1).toNatClampNeg 1) fun σ10 => nm (su σ10 1 (0 : Int32).toNatClampNeg ((σ10 1 (0 : Int32).toNatClampNeg) + 1)) fun σ11 => bd (fX7_moved σ11) fun r12 => bd (fX7_copies r12.2 11 0) fun r13 => some (r12.1, r13)))
abbrev rmX7_wouldMove : Room := { frames := 5, cells := 0, slots := 0, locals := 108 }
theorem dmX7_wouldMove : yX7_wouldMove.cls = RX7 ∧ yX7_wouldMove.cls ≠ "java/lang/invoke/MethodHandle" ∧ yX7_wouldMove.cls ≠ "java/lang/invoke/VarHandle" ∧ (parseMethodDescriptor yX7_wouldMove.desc).map (fun d => d.parameters.length) = some 1 := by decide +kernel
theorem iX7_wouldMove_X7 : ∀ w ∈ wsX70, w ∈ wsX7_wouldMove := fun w h => List.mem_cons_of_mem _ (List.mem_append_right _ (h))
set_option maxHeartbeats 8000000 in
set_option maxRecDepth 100000 in
theorem mX7_wouldMove (l : Launch) (dC : Nat → ClassId) (dI : Nat → Nat → Nat) (ad : Nat → Nat) (cy : Nat → ClassId) (hJ : WJ 16 ad) (σ : St) (a1 : Int32) (res : (Int32 × St)) (hf : fX7_wouldMove σ a1 = some res) : CMi l yX7_wouldMove wsX7_wouldMove rmX7_wouldMove (dC, dI) (tysX cy) 16 ad (layM ad cy) [.ref (ad 0), .int a1] σ res.1 res.2 := by
  refine Met.ofW (cc := cX7_wouldMove) (maxL := 4) (ret := (some .int)) (by decide) rfl ?_
  intro p e s m args below meth c s₁ B hml hv
  obtain ⟨hargs, hP, hK⟩ := hv
  have hx := B.exec
  have hb := B.bytes
  have hr := B.returns
  have hts := atoms_spec (ws := wsX7_wouldMove) B.pre
  have hown : s.vm.findClass RX7 = some m.cls := findClass_of_methodNamed B.named
  have hlocks := B.notSynchronized
  have w1 := hts (.fieldLink RX7 9 "PierRingsModel" "all" "[I") (List.mem_of_getElem? (i := 1) rfl)
  have hS : va_S (WA 16 ad) s.heap s.heap [] := va_S.rf
  have hfr : entryFrame m args 4 = F0 m 0 ((lg_sl [.ref (ad 0), .int a1] ++ List.replicate (4 - (lg_sl [.ref (ad 0), .int a1]).length) Slot.unset).toArray) [] := by rw [hargs]; exact lg_entry_eq _ _ _
  rw [hfr]
  have hl := lv_entry ([.ref (ad 0), .int a1]) (n := 4) (Nat.le_of_ble_eq_true rfl)
  generalize (lg_sl [.ref (ad 0), .int a1] ++ List.replicate (4 - (lg_sl [.ref (ad 0), .int a1]).length) Slot.unset).toArray = ls at hl ⊢
  have hl : lv_has ls 4 [(0, .ref (ad 0)), (1, .int a1)] := hl
  clear hfr hargs B
  show W p l e rmX7_wouldMove s m args below meth c s.heap [] 0 0 (MQ below (Qiw (dC, dI) 16 ad (layM ad cy) res.1 res.2) args s 0 0 (WA 16 ad)) (F0 m 0 ls [])
  unfold fX7_wouldMove at hf
  obtain ⟨H, eH⟩ : ∃ H : Heap, H = s.heap := ⟨_, rfl⟩
  rw [← eH] at hP
  have hS : va_S (WA 16 ad) s.heap H [] := by rw [eH]; exact hS
  suffices K : W p l e rmX7_wouldMove s m args below meth c H [] 0 0 (MQ below (Qiw (dC, dI) 16 ad (layM ad cy) res.1 res.2) args s 0 0 (WA 16 ad)) (F0 m 0 ls []) by rw [eH] at K; exact K
  clear eH
  obtain ⟨locs, elocs⟩ : ∃ z : List Loc, z = [] := ⟨_, rfl⟩
  rw [← elocs] at hS ⊢
  refine lv_iload_n hx hb dX7_wouldMove_0 rfl (lv_at hl 1 rfl) ?_
  refine lv_iconst (v := 1) hx hb dX7_wouldMove_1 (by decide) ?_
  refine lv_iconst (v := 5) hx hb dX7_wouldMove_2 (by decide) ?_
  obtain ⟨r1, qr1, hf⟩ := bd_some hf
  refine xt_callSi (As := [.int a1, .int 1, .int 5]) (rest := []) ⟨hx, hb, hml, hown, hts⟩ (mX7_in l dC dI ad cy hJ σ a1 1 5 r1 qr1) (va_cwS 3 hts gX7_wouldMove_X7_in rfl rfl rfl dmX7_in ⟨Nat.le_of_ble_eq_true rfl, Nat.le_of_ble_eq_true rfl⟩) hK hP hS rfl rfl hl.1 (Nat.le_of_ble_eq_true rfl) ⟨Nat.zero_le _, Nat.zero_le _⟩ dX7_wouldMove_3 (fun H locs hP hS => ?_)
  refine lv_if_ne (tgt := 12) hx hb dX7_wouldMove_6 (by decide) (fun c2 => ?_) (fun c2 => ?_)
  · have hf := (if_neg c2).symm.trans hf
    refine lv_aload_n hx hb dX7_wouldMove_12 rfl (lv_at hl 0 rfl) ?_
    refine xt_get (ci := 7) (C := RX7) (T := TX7) (n := 25) (v := .ref (ad 1)) hx hb hts iX7_wouldMove_X7 hown hK hP 0 (by decide) (LX7_obj ad cy _) rfl 0 (by decide) w1 rfl dX7_wouldMove_13 ?_
    refine lv_iconst (v := 0) hx hb dX7_wouldMove_16 (by decide) ?_
    refine xt_iald hx hb hK hP 1 (by decide) 0 (LX7_all ad cy _) rfl (by decide) dX7_wouldMove_17 ?_
    refine lv_topi (fun v3 ev3 => ?_)
    have hf := nm_to hf ev3
    refine lv_istore_n (lv' := [(2, .int v3), (0, .ref (ad 0)), (1, .int a1)]) hx hb dX7_wouldMove_18 rfl hl (by decide) rfl (fun ls hl => ?_)
    refine lv_iload_n hx hb dX7_wouldMove_19 rfl (lv_at hl 0 rfl) ?_
    refine lv_bipush (v := 8) hx hb dX7_wouldMove_20 (by decide) ?_
    refine lv_icmp_ne (tgt := 28) hx hb dX7_wouldMove_22 (by decide) (fun c4 => ?_) (fun c4 => ?_)
    · have hf := (if_neg c4).symm.trans hf
      refine lv_aload_n hx hb dX7_wouldMove_28 rfl (lv_at hl 1 rfl) ?_
      refine lv_iconst (v := 0) hx hb dX7_wouldMove_29 (by decide) ?_
      refine lv_bipush (v := 11) hx hb dX7_wouldMove_30 (by decide) ?_
      obtain ⟨r5, qr5, hf⟩ := bd_some hf
      refine xt_callVv (As := [.int 0, .int 11]) (rest := []) (C := RX7) (ci := 7) ⟨hx, hb, hml, hown, hts⟩ 0 (mX7_copies l dC dI ad cy hJ σ 0 11 r5 qr5) (cwV 2 hts gX7_wouldMove_X7_copies rfl rfl rfl dmX7_copies ⟨Nat.le_of_ble_eq_true rfl, Nat.le_of_ble_eq_true rfl⟩) hK hP hS (by decide) (LX7_obj ad cy _) rfl rfl rfl hl.1 (Nat.le_of_ble_eq_true rfl) ⟨Nat.zero_le _, Nat.zero_le _⟩ dX7_wouldMove_32 (fun H locs hP hS => ?_)
      refine lv_aload_n hx hb dX7_wouldMove_35 rfl (lv_at hl 1 rfl) ?_
      obtain ⟨r6, qr6, hf⟩ := bd_some hf
      refine xt_callVv (As := []) (rest := []) (C := RX7) (ci := 7) ⟨hx, hb, hml, hown, hts⟩ 0 (mX7_looksAtHomes l dC dI ad cy hJ r5 r6 qr6) (cwV 0 hts gX7_wouldMove_X7_looksAtHomes rfl rfl rfl dmX7_looksAtHomes ⟨Nat.le_of_ble_eq_true rfl, Nat.le_of_ble_eq_true rfl⟩) hK hP hS (by decide) (LX7_obj ad cy _) rfl rfl rfl hl.1 (Nat.le_of_ble_eq_true rfl) ⟨Nat.zero_le _, Nat.zero_le _⟩ dX7_wouldMove_36 (fun H locs hP hS => ?_)
      refine lv_aload_n hx hb dX7_wouldMove_39 rfl (lv_at hl 1 rfl) ?_
      refine xt_get (ci := 7) (C := RX7) (T := TX7) (n := 25) (v := .ref (ad 1)) hx hb hts iX7_wouldMove_X7 hown hK hP 0 (by decide) (LX7_obj ad cy _) rfl 0 (by decide) w1 rfl dX7_wouldMove_40 ?_
      refine lv_iconst (v := 4) hx hb dX7_wouldMove_43 (by decide) ?_
      refine lv_iconst (v := 2) hx hb dX7_wouldMove_44 (by decide) ?_
      refine lv_iload_n hx hb dX7_wouldMove_45 rfl (lv_at hl 0 rfl) ?_
      refine lv_imul hx hb dX7_wouldMove_46 ?_
      refine lv_iadd hx hb dX7_wouldMove_47 ?_
      refine lv_iconst (v := 0) hx hb dX7_wouldMove_48 (by decide) ?_
      refine lv_iadd hx hb dX7_wouldMove_49 ?_
      refine lv_iload_n hx hb dX7_wouldMove_50 rfl (lv_at hl 2 rfl) ?_
      obtain ⟨g7, hf⟩ := gd_some hf
      refine xt_iast hx hb hK hP hJ hS 1 (by decide) 0 (LX7_all ad cy) rfl g7 dX7_wouldMove_51 (fun H locs hP hS => ?_)
      obtain ⟨σ8, eσ8⟩ : ∃ z : St, z = su r6 1 ((4 + (2 * v3)) + 0).toNatClampNeg a1 := ⟨_, rfl⟩
      rw [← eσ8] at hP
      have hf := nm_to hf eσ8
      refine lv_aload_n hx hb dX7_wouldMove_52 rfl (lv_at hl 1 rfl) ?_
      refine xt_get (ci := 7) (C := RX7) (T := TX7) (n := 25) (v := .ref (ad 1)) hx hb hts iX7_wouldMove_X7 hown hK hP 0 (by decide) (LX7_obj ad cy _) rfl 0 (by decide) w1 rfl dX7_wouldMove_53 ?_
      refine lv_iconst (v := 4) hx hb dX7_wouldMove_56 (by decide) ?_
      refine lv_iconst (v := 2) hx hb dX7_wouldMove_57 (by decide) ?_
      refine lv_iload_n hx hb dX7_wouldMove_58 rfl (lv_at hl 0 rfl) ?_
      refine lv_imul hx hb dX7_wouldMove_59 ?_
      refine lv_iadd hx hb dX7_wouldMove_60 ?_
      refine lv_iconst (v := 1) hx hb dX7_wouldMove_61 (by decide) ?_
      refine lv_iadd hx hb dX7_wouldMove_62 ?_
      refine lv_iconst (v := 1) hx hb dX7_wouldMove_63 (by decide) ?_
      obtain ⟨g9, hf⟩ := gd_some hf
      refine xt_iast hx hb hK hP hJ hS 1 (by decide) 0 (LX7_all ad cy) rfl g9 dX7_wouldMove_64 (fun H locs hP hS => ?_)
      obtain ⟨σ10, eσ10⟩ : ∃ z : St, z = su σ8 1 ((4 + (2 * v3)) + 1).toNatClampNeg 1 := ⟨_, rfl⟩
      rw [← eσ10] at hP
      have hf := nm_to hf eσ10
      refine lv_aload_n hx hb dX7_wouldMove_65 rfl (lv_at hl 1 rfl) ?_
      refine xt_get (ci := 7) (C := RX7) (T := TX7) (n := 25) (v := .ref (ad 1)) hx hb hts iX7_wouldMove_X7 hown hK hP 0 (by decide) (LX7_obj ad cy _) rfl 0 (by decide) w1 rfl dX7_wouldMove_66 ?_
      refine lv_iconst (v := 0) hx hb dX7_wouldMove_69 (by decide) ?_
      refine lv_dup2_11 hx hb dX7_wouldMove_70 rfl rfl ?_
      refine xt_iald hx hb hK hP 1 (by decide) 0 (LX7_all ad cy _) rfl (by decide) dX7_wouldMove_71 ?_
      refine lv_iconst (v := 1) hx hb dX7_wouldMove_72 (by decide) ?_
      refine lv_iadd hx hb dX7_wouldMove_73 ?_
      refine xt_iast hx hb hK hP hJ hS 1 (by decide) 0 (LX7_all ad cy) rfl (by decide) dX7_wouldMove_74 (fun H locs hP hS => ?_)
      obtain ⟨σ11, eσ11⟩ : ∃ z : St, z = su σ10 1 (0 : Int32).toNatClampNeg ((σ10 1 (0 : Int32).toNatClampNeg) + 1) := ⟨_, rfl⟩
      rw [← eσ11] at hP
      have hf := nm_to hf eσ11
      refine lv_aload_n hx hb dX7_wouldMove_75 rfl (lv_at hl 1 rfl) ?_
      obtain ⟨r12, qr12, hf⟩ := bd_some hf
      refine xt_callVi (As := []) (rest := []) (C := RX7) (ci := 7) ⟨hx, hb, hml, hown, hts⟩ 0 (mX7_moved l dC dI ad cy hJ σ11 r12 qr12) (cwV 0 hts gX7_wouldMove_X7_moved rfl rfl rfl dmX7_moved ⟨Nat.le_of_ble_eq_true rfl, Nat.le_of_ble_eq_true rfl⟩) hK hP hS (by decide) (LX7_obj ad cy _) rfl rfl rfl hl.1 (Nat.le_of_ble_eq_true rfl) ⟨Nat.zero_le _, Nat.zero_le _⟩ dX7_wouldMove_76 (fun H locs hP hS => ?_)
      refine lv_istore_n (lv' := [(3, .int r12.1), (2, .int v3), (0, .ref (ad 0)), (1, .int a1)]) hx hb dX7_wouldMove_79 rfl hl (by decide) rfl (fun ls hl => ?_)
      refine lv_aload_n hx hb dX7_wouldMove_80 rfl (lv_at hl 2 rfl) ?_
      refine lv_bipush (v := 11) hx hb dX7_wouldMove_81 (by decide) ?_
      refine lv_iconst (v := 0) hx hb dX7_wouldMove_83 (by decide) ?_
      obtain ⟨r13, qr13, hf⟩ := bd_some hf
      refine xt_callVv (As := [.int 11, .int 0]) (rest := []) (C := RX7) (ci := 7) ⟨hx, hb, hml, hown, hts⟩ 0 (mX7_copies l dC dI ad cy hJ r12.2 11 0 r13 qr13) (cwV 2 hts gX7_wouldMove_X7_copies rfl rfl rfl dmX7_copies ⟨Nat.le_of_ble_eq_true rfl, Nat.le_of_ble_eq_true rfl⟩) hK hP hS (by decide) (LX7_obj ad cy _) rfl rfl rfl hl.1 (Nat.le_of_ble_eq_true rfl) ⟨Nat.zero_le _, Nat.zero_le _⟩ dX7_wouldMove_84 (fun H locs hP hS => ?_)
      refine lv_iload_n hx hb dX7_wouldMove_87 rfl (lv_at hl 0 rfl) ?_
      exact xt_iret hx hb hr hP hS (rs_1 hf) (rs_2 hf) dX7_wouldMove_88 hlocks
    · have hf := (if_pos c4).symm.trans hf
      refine lv_bipush (v := (-13)) hx hb dX7_wouldMove_25 (by decide) ?_
      exact xt_iret hx hb hr hP hS (rs_1 hf) (rs_2 hf) dX7_wouldMove_27 hlocks
  · have hf := (if_pos c2).symm.trans hf
    refine lv_bipush (v := (-12)) hx hb dX7_wouldMove_9 (by decide) ?_
    exact xt_iret hx hb hr hP hS (rs_1 hf) (rs_2 hf) dX7_wouldMove_11 hlocks
def fX7_wouldClose (σ : St) (a1 : Int32) : Option (Int32 × St) :=
  bd (fX7_isPier σ a1) fun r1 => if r1 = 0 then (some ((-11), σ)) else (bd (fX7_isOpen σ a1) fun r3 => if r3 = 0 then (some ((-15), σ)) else (bd (fX7_looksAtHomes σ) fun r5 => gd (okI ((4 + (2 * a1)) + 1) 816) <| nm (su r5 1 ((4 + (2 * a1)) + 1).toNatClampNeg 0) fun σ7 => bd (fX7_moved σ7) fun r8 => gd (okI ((4 + (2 * a1)) + 1) 816) <| nm (su r8.2 1 ((4 + (2 * a1)) + 1).toNatClampNeg 1) fun σ10 => some (r8.1, σ10)))
abbrev rmX7_wouldClose : Room := { frames := 5, cells := 0, slots := 0, locals := 108 }
theorem dmX7_wouldClose : yX7_wouldClose.cls = RX7 ∧ yX7_wouldClose.cls ≠ "java/lang/invoke/MethodHandle" ∧ yX7_wouldClose.cls ≠ "java/lang/invoke/VarHandle" ∧ (parseMethodDescriptor yX7_wouldClose.desc).map (fun d => d.parameters.length) = some 1 := by decide +kernel
theorem iX7_wouldClose_X7 : ∀ w ∈ wsX70, w ∈ wsX7_wouldClose := fun w h => List.mem_cons_of_mem _ (List.mem_append_right _ (h))
set_option maxHeartbeats 8000000 in
set_option maxRecDepth 100000 in
theorem mX7_wouldClose (l : Launch) (dC : Nat → ClassId) (dI : Nat → Nat → Nat) (ad : Nat → Nat) (cy : Nat → ClassId) (hJ : WJ 16 ad) (σ : St) (a1 : Int32) (res : (Int32 × St)) (hf : fX7_wouldClose σ a1 = some res) : CMi l yX7_wouldClose wsX7_wouldClose rmX7_wouldClose (dC, dI) (tysX cy) 16 ad (layM ad cy) [.ref (ad 0), .int a1] σ res.1 res.2 := by
  refine Met.ofW (cc := cX7_wouldClose) (maxL := 3) (ret := (some .int)) (by decide) rfl ?_
  intro p e s m args below meth c s₁ B hml hv
  obtain ⟨hargs, hP, hK⟩ := hv
  have hx := B.exec
  have hb := B.bytes
  have hr := B.returns
  have hts := atoms_spec (ws := wsX7_wouldClose) B.pre
  have hown : s.vm.findClass RX7 = some m.cls := findClass_of_methodNamed B.named
  have hlocks := B.notSynchronized
  have w1 := hts (.fieldLink RX7 9 "PierRingsModel" "all" "[I") (List.mem_of_getElem? (i := 1) rfl)
  have hS : va_S (WA 16 ad) s.heap s.heap [] := va_S.rf
  have hfr : entryFrame m args 3 = F0 m 0 ((lg_sl [.ref (ad 0), .int a1] ++ List.replicate (3 - (lg_sl [.ref (ad 0), .int a1]).length) Slot.unset).toArray) [] := by rw [hargs]; exact lg_entry_eq _ _ _
  rw [hfr]
  have hl := lv_entry ([.ref (ad 0), .int a1]) (n := 3) (Nat.le_of_ble_eq_true rfl)
  generalize (lg_sl [.ref (ad 0), .int a1] ++ List.replicate (3 - (lg_sl [.ref (ad 0), .int a1]).length) Slot.unset).toArray = ls at hl ⊢
  have hl : lv_has ls 3 [(0, .ref (ad 0)), (1, .int a1)] := hl
  clear hfr hargs B
  show W p l e rmX7_wouldClose s m args below meth c s.heap [] 0 0 (MQ below (Qiw (dC, dI) 16 ad (layM ad cy) res.1 res.2) args s 0 0 (WA 16 ad)) (F0 m 0 ls [])
  unfold fX7_wouldClose at hf
  obtain ⟨H, eH⟩ : ∃ H : Heap, H = s.heap := ⟨_, rfl⟩
  rw [← eH] at hP
  have hS : va_S (WA 16 ad) s.heap H [] := by rw [eH]; exact hS
  suffices K : W p l e rmX7_wouldClose s m args below meth c H [] 0 0 (MQ below (Qiw (dC, dI) 16 ad (layM ad cy) res.1 res.2) args s 0 0 (WA 16 ad)) (F0 m 0 ls []) by rw [eH] at K; exact K
  clear eH
  obtain ⟨locs, elocs⟩ : ∃ z : List Loc, z = [] := ⟨_, rfl⟩
  rw [← elocs] at hS ⊢
  refine lv_aload_n hx hb dX7_wouldClose_0 rfl (lv_at hl 0 rfl) ?_
  refine lv_iload_n hx hb dX7_wouldClose_1 rfl (lv_at hl 1 rfl) ?_
  obtain ⟨r1, qr1, hf⟩ := bd_some hf
  refine xt_callVi (As := [.int a1]) (rest := []) (C := RX7) (ci := 7) ⟨hx, hb, hml, hown, hts⟩ 0 (mX7_isPier l dC dI ad cy hJ σ a1 r1 qr1) (cwV 1 hts gX7_wouldClose_X7_isPier rfl rfl rfl dmX7_isPier ⟨Nat.le_of_ble_eq_true rfl, Nat.le_of_ble_eq_true rfl⟩) hK hP hS (by decide) (LX7_obj ad cy _) rfl rfl rfl hl.1 (Nat.le_of_ble_eq_true rfl) ⟨Nat.zero_le _, Nat.zero_le _⟩ dX7_wouldClose_2 (fun H locs hP hS => ?_)
  refine lv_if_ne (tgt := 11) hx hb dX7_wouldClose_5 (by decide) (fun c2 => ?_) (fun c2 => ?_)
  · have hf := (if_neg c2).symm.trans hf
    refine lv_aload_n hx hb dX7_wouldClose_11 rfl (lv_at hl 0 rfl) ?_
    refine lv_iload_n hx hb dX7_wouldClose_12 rfl (lv_at hl 1 rfl) ?_
    obtain ⟨r3, qr3, hf⟩ := bd_some hf
    refine xt_callVi (As := [.int a1]) (rest := []) (C := RX7) (ci := 7) ⟨hx, hb, hml, hown, hts⟩ 0 (mX7_isOpen l dC dI ad cy hJ σ a1 r3 qr3) (cwV 1 hts gX7_wouldClose_X7_isOpen rfl rfl rfl dmX7_isOpen ⟨Nat.le_of_ble_eq_true rfl, Nat.le_of_ble_eq_true rfl⟩) hK hP hS (by decide) (LX7_obj ad cy _) rfl rfl rfl hl.1 (Nat.le_of_ble_eq_true rfl) ⟨Nat.zero_le _, Nat.zero_le _⟩ dX7_wouldClose_13 (fun H locs hP hS => ?_)
    refine lv_if_ne (tgt := 22) hx hb dX7_wouldClose_16 (by decide) (fun c4 => ?_) (fun c4 => ?_)
    · have hf := (if_neg c4).symm.trans hf
      refine lv_aload_n hx hb dX7_wouldClose_22 rfl (lv_at hl 0 rfl) ?_
      obtain ⟨r5, qr5, hf⟩ := bd_some hf
      refine xt_callVv (As := []) (rest := []) (C := RX7) (ci := 7) ⟨hx, hb, hml, hown, hts⟩ 0 (mX7_looksAtHomes l dC dI ad cy hJ σ r5 qr5) (cwV 0 hts gX7_wouldClose_X7_looksAtHomes rfl rfl rfl dmX7_looksAtHomes ⟨Nat.le_of_ble_eq_true rfl, Nat.le_of_ble_eq_true rfl⟩) hK hP hS (by decide) (LX7_obj ad cy _) rfl rfl rfl hl.1 (Nat.le_of_ble_eq_true rfl) ⟨Nat.zero_le _, Nat.zero_le _⟩ dX7_wouldClose_23 (fun H locs hP hS => ?_)
      refine lv_aload_n hx hb dX7_wouldClose_26 rfl (lv_at hl 0 rfl) ?_
      refine xt_get (ci := 7) (C := RX7) (T := TX7) (n := 25) (v := .ref (ad 1)) hx hb hts iX7_wouldClose_X7 hown hK hP 0 (by decide) (LX7_obj ad cy _) rfl 0 (by decide) w1 rfl dX7_wouldClose_27 ?_
      refine lv_iconst (v := 4) hx hb dX7_wouldClose_30 (by decide) ?_
      refine lv_iconst (v := 2) hx hb dX7_wouldClose_31 (by decide) ?_
      refine lv_iload_n hx hb dX7_wouldClose_32 rfl (lv_at hl 1 rfl) ?_
      refine lv_imul hx hb dX7_wouldClose_33 ?_
      refine lv_iadd hx hb dX7_wouldClose_34 ?_
      refine lv_iconst (v := 1) hx hb dX7_wouldClose_35 (by decide) ?_
      refine lv_iadd hx hb dX7_wouldClose_36 ?_
      refine lv_iconst (v := 0) hx hb dX7_wouldClose_37 (by decide) ?_
      obtain ⟨g6, hf⟩ := gd_some hf
      refine xt_iast hx hb hK hP hJ hS 1 (by decide) 0 (LX7_all ad cy) rfl g6 dX7_wouldClose_38 (fun H locs hP hS => ?_)
      obtain ⟨σ7, eσ7⟩ : ∃ z : St, z = su r5 1 ((4 + (2 * a1)) + 1).toNatClampNeg 0 := ⟨_, rfl⟩
      rw [← eσ7] at hP
      have hf := nm_to hf eσ7
      refine lv_aload_n hx hb dX7_wouldClose_39 rfl (lv_at hl 0 rfl) ?_
      obtain ⟨r8, qr8, hf⟩ := bd_some hf
      refine xt_callVi (As := []) (rest := []) (C := RX7) (ci := 7) ⟨hx, hb, hml, hown, hts⟩ 0 (mX7_moved l dC dI ad cy hJ σ7 r8 qr8) (cwV 0 hts gX7_wouldClose_X7_moved rfl rfl rfl dmX7_moved ⟨Nat.le_of_ble_eq_true rfl, Nat.le_of_ble_eq_true rfl⟩) hK hP hS (by decide) (LX7_obj ad cy _) rfl rfl rfl hl.1 (Nat.le_of_ble_eq_true rfl) ⟨Nat.zero_le _, Nat.zero_le _⟩ dX7_wouldClose_40 (fun H locs hP hS => ?_)
      refine lv_istore_n (lv' := [(2, .int r8.1), (0, .ref (ad 0)), (1, .int a1)]) hx hb dX7_wouldClose_43 rfl hl (by decide) rfl (fun ls hl => ?_)
      refine lv_aload_n hx hb dX7_wouldClose_44 rfl (lv_at hl 1 rfl) ?_
      refine xt_get (ci := 7) (C := RX7) (T := TX7) (n := 25) (v := .ref (ad 1)) hx hb hts iX7_wouldClose_X7 hown hK hP 0 (by decide) (LX7_obj ad cy _) rfl 0 (by decide) w1 rfl dX7_wouldClose_45 ?_
      refine lv_iconst (v := 4) hx hb dX7_wouldClose_48 (by decide) ?_
      refine lv_iconst (v := 2) hx hb dX7_wouldClose_49 (by decide) ?_
      refine lv_iload_n hx hb dX7_wouldClose_50 rfl (lv_at hl 2 rfl) ?_
      refine lv_imul hx hb dX7_wouldClose_51 ?_
      refine lv_iadd hx hb dX7_wouldClose_52 ?_
      refine lv_iconst (v := 1) hx hb dX7_wouldClose_53 (by decide) ?_
      refine lv_iadd hx hb dX7_wouldClose_54 ?_
      refine lv_iconst (v := 1) hx hb dX7_wouldClose_55 (by decide) ?_
      obtain ⟨g9, hf⟩ := gd_some hf
      refine xt_iast hx hb hK hP hJ hS 1 (by decide) 0 (LX7_all ad cy) rfl g9 dX7_wouldClose_56 (fun H locs hP hS => ?_)
      obtain ⟨σ10, eσ10⟩ : ∃ z : St, z = su r8.2 1 ((4 + (2 * a1)) + 1).toNatClampNeg 1 := ⟨_, rfl⟩
      rw [← eσ10] at hP
      have hf := nm_to hf eσ10
      refine lv_iload_n hx hb dX7_wouldClose_57 rfl (lv_at hl 0 rfl) ?_
      exact xt_iret hx hb hr hP hS (rs_1 hf) (rs_2 hf) dX7_wouldClose_58 hlocks
    · have hf := (if_pos c4).symm.trans hf
      refine lv_bipush (v := (-15)) hx hb dX7_wouldClose_19 (by decide) ?_
      exact xt_iret hx hb hr hP hS (rs_1 hf) (rs_2 hf) dX7_wouldClose_21 hlocks
  · have hf := (if_pos c2).symm.trans hf
    refine lv_bipush (v := (-11)) hx hb dX7_wouldClose_8 (by decide) ?_
    exact xt_iret hx hb hr hP hS (rs_1 hf) (rs_2 hf) dX7_wouldClose_10 hlocks
def fX7_beyond (σ : St) (a1 : Int32) : Option Int32 :=
  bd (fX7_ofHome σ a1 1) fun r1 => bd (fX7_room σ a1) fun r2 => some (r1 - r2)
abbrev rmX7_beyond : Room := { frames := 3, cells := 0, slots := 0, locals := 67 }
theorem dmX7_beyond : yX7_beyond.cls = RX7 ∧ yX7_beyond.cls ≠ "java/lang/invoke/MethodHandle" ∧ yX7_beyond.cls ≠ "java/lang/invoke/VarHandle" ∧ (parseMethodDescriptor yX7_beyond.desc).map (fun d => d.parameters.length) = some 1 := by decide +kernel
set_option maxHeartbeats 8000000 in
set_option maxRecDepth 100000 in
theorem mX7_beyond (l : Launch) (dC : Nat → ClassId) (dI : Nat → Nat → Nat) (ad : Nat → Nat) (cy : Nat → ClassId) (hJ : WJ 16 ad) (σ : St) (a1 : Int32) (res : Int32) (hf : fX7_beyond σ a1 = some res) : CMi l yX7_beyond wsX7_beyond rmX7_beyond (dC, dI) (tysX cy) 16 ad (layM ad cy) [.ref (ad 0), .int a1] σ res σ := by
  refine Met.ofW (cc := cX7_beyond) (maxL := 2) (ret := (some .int)) (by decide) rfl ?_
  intro p e s m args below meth c s₁ B hml hv
  obtain ⟨hargs, hP, hK⟩ := hv
  have hx := B.exec
  have hb := B.bytes
  have hr := B.returns
  have hts := atoms_spec (ws := wsX7_beyond) B.pre
  have hown : s.vm.findClass RX7 = some m.cls := findClass_of_methodNamed B.named
  have hlocks := B.notSynchronized
  have hS : va_S (WA 16 ad) s.heap s.heap [] := va_S.rf
  have hfr : entryFrame m args 2 = F0 m 0 ((lg_sl [.ref (ad 0), .int a1] ++ List.replicate (2 - (lg_sl [.ref (ad 0), .int a1]).length) Slot.unset).toArray) [] := by rw [hargs]; exact lg_entry_eq _ _ _
  rw [hfr]
  have hl := lv_entry ([.ref (ad 0), .int a1]) (n := 2) (Nat.le_of_ble_eq_true rfl)
  generalize (lg_sl [.ref (ad 0), .int a1] ++ List.replicate (2 - (lg_sl [.ref (ad 0), .int a1]).length) Slot.unset).toArray = ls at hl ⊢
  have hl : lv_has ls 2 [(0, .ref (ad 0)), (1, .int a1)] := hl
  clear hfr hargs B
  show W p l e rmX7_beyond s m args below meth c s.heap [] 0 0 (MQ below (Qiw (dC, dI) 16 ad (layM ad cy) res σ) args s 0 0 (WA 16 ad)) (F0 m 0 ls [])
  unfold fX7_beyond at hf
  obtain ⟨H, eH⟩ : ∃ H : Heap, H = s.heap := ⟨_, rfl⟩
  rw [← eH] at hP
  have hS : va_S (WA 16 ad) s.heap H [] := by rw [eH]; exact hS
  suffices K : W p l e rmX7_beyond s m args below meth c H [] 0 0 (MQ below (Qiw (dC, dI) 16 ad (layM ad cy) res σ) args s 0 0 (WA 16 ad)) (F0 m 0 ls []) by rw [eH] at K; exact K
  clear eH
  obtain ⟨locs, elocs⟩ : ∃ z : List Loc, z = [] := ⟨_, rfl⟩
  rw [← elocs] at hS ⊢
  refine lv_aload_n hx hb dX7_beyond_0 rfl (lv_at hl 0 rfl) ?_
  refine lv_iload_n hx hb dX7_beyond_1 rfl (lv_at hl 1 rfl) ?_
  refine lv_iconst (v := 1) hx hb dX7_beyond_2 (by decide) ?_
  obtain ⟨r1, qr1, hf⟩ := bd_some hf
  refine xt_callVi (As := [.int a1, .int 1]) (rest := []) (C := RX7) (ci := 7) ⟨hx, hb, hml, hown, hts⟩ 0 (mX7_ofHome l dC dI ad cy hJ σ a1 1 r1 qr1) (cwV 2 hts gX7_beyond_X7_ofHome rfl rfl rfl dmX7_ofHome ⟨Nat.le_of_ble_eq_true rfl, Nat.le_of_ble_eq_true rfl⟩) hK hP hS (by decide) (LX7_obj ad cy _) rfl rfl rfl hl.1 (Nat.le_of_ble_eq_true rfl) ⟨Nat.zero_le _, Nat.zero_le _⟩ dX7_beyond_3 (fun H locs hP hS => ?_)
  refine lv_aload_n hx hb dX7_beyond_6 rfl (lv_at hl 0 rfl) ?_
  refine lv_iload_n hx hb dX7_beyond_7 rfl (lv_at hl 1 rfl) ?_
  obtain ⟨r2, qr2, hf⟩ := bd_some hf
  refine xt_callVi (As := [.int a1]) (rest := [.int r1]) (C := RX7) (ci := 7) ⟨hx, hb, hml, hown, hts⟩ 0 (mX7_room l dC dI ad cy hJ σ a1 r2 qr2) (cwV 1 hts gX7_beyond_X7_room rfl rfl rfl dmX7_room ⟨Nat.le_of_ble_eq_true rfl, Nat.le_of_ble_eq_true rfl⟩) hK hP hS (by decide) (LX7_obj ad cy _) rfl rfl rfl hl.1 (Nat.le_of_ble_eq_true rfl) ⟨Nat.zero_le _, Nat.zero_le _⟩ dX7_beyond_8 (fun H locs hP hS => ?_)
  refine lv_isub hx hb dX7_beyond_11 ?_
  exact xt_iret hx hb hr hP hS (Option.some.inj hf) rfl dX7_beyond_12 hlocks
def fX7_isAhead (σ : St) (a1 : Int32) (a2 : Int32) : Option Int32 :=
  bd (fX7_beyond σ a1) fun r1 => bd (fX7_beyond σ a2) fun r2 => if r1 = r2 then (bd (fX7_p σ a1 0) fun r4 => bd (fX7_p σ a2 0) fun r5 => if r4 < r5 then (some (1 : Int32)) else (bd (fX7_p σ a1 0) fun r7 => bd (fX7_p σ a2 0) fun r8 => if r7 = r8 then (if a2 ≤ a1 then (some (0 : Int32)) else (some (1 : Int32))) else (some (0 : Int32)))) else (bd (fX7_beyond σ a1) fun r11 => bd (fX7_beyond σ a2) fun r12 => if r11 ≤ r12 then (some (0 : Int32)) else (some (1 : Int32)))
abbrev rmX7_isAhead : Room := { frames := 4, cells := 0, slots := 0, locals := 88 }
theorem dmX7_isAhead : yX7_isAhead.cls = RX7 ∧ yX7_isAhead.cls ≠ "java/lang/invoke/MethodHandle" ∧ yX7_isAhead.cls ≠ "java/lang/invoke/VarHandle" ∧ (parseMethodDescriptor yX7_isAhead.desc).map (fun d => d.parameters.length) = some 2 := by decide +kernel
set_option maxHeartbeats 8000000 in
set_option maxRecDepth 100000 in
theorem mX7_isAhead (l : Launch) (dC : Nat → ClassId) (dI : Nat → Nat → Nat) (ad : Nat → Nat) (cy : Nat → ClassId) (hJ : WJ 16 ad) (σ : St) (a1 : Int32) (a2 : Int32) (res : Int32) (hf : fX7_isAhead σ a1 a2 = some res) : CMi l yX7_isAhead wsX7_isAhead rmX7_isAhead (dC, dI) (tysX cy) 16 ad (layM ad cy) [.ref (ad 0), .int a1, .int a2] σ res σ := by
  refine Met.ofW (cc := cX7_isAhead) (maxL := 3) (ret := (some .boolean)) (by decide) rfl ?_
  intro p e s m args below meth c s₁ B hml hv
  obtain ⟨hargs, hP, hK⟩ := hv
  have hx := B.exec
  have hb := B.bytes
  have hr := B.returns
  have hts := atoms_spec (ws := wsX7_isAhead) B.pre
  have hown : s.vm.findClass RX7 = some m.cls := findClass_of_methodNamed B.named
  have hlocks := B.notSynchronized
  have hS : va_S (WA 16 ad) s.heap s.heap [] := va_S.rf
  have hfr : entryFrame m args 3 = F0 m 0 ((lg_sl [.ref (ad 0), .int a1, .int a2] ++ List.replicate (3 - (lg_sl [.ref (ad 0), .int a1, .int a2]).length) Slot.unset).toArray) [] := by rw [hargs]; exact lg_entry_eq _ _ _
  rw [hfr]
  have hl := lv_entry ([.ref (ad 0), .int a1, .int a2]) (n := 3) (Nat.le_of_ble_eq_true rfl)
  generalize (lg_sl [.ref (ad 0), .int a1, .int a2] ++ List.replicate (3 - (lg_sl [.ref (ad 0), .int a1, .int a2]).length) Slot.unset).toArray = ls at hl ⊢
  have hl : lv_has ls 3 [(0, .ref (ad 0)), (1, .int a1), (2, .int a2)] := hl
  clear hfr hargs B
  show W p l e rmX7_isAhead s m args below meth c s.heap [] 0 0 (MQ below (Qiw (dC, dI) 16 ad (layM ad cy) res σ) args s 0 0 (WA 16 ad)) (F0 m 0 ls [])
  unfold fX7_isAhead at hf
  obtain ⟨H, eH⟩ : ∃ H : Heap, H = s.heap := ⟨_, rfl⟩
  rw [← eH] at hP
  have hS : va_S (WA 16 ad) s.heap H [] := by rw [eH]; exact hS
  suffices K : W p l e rmX7_isAhead s m args below meth c H [] 0 0 (MQ below (Qiw (dC, dI) 16 ad (layM ad cy) res σ) args s 0 0 (WA 16 ad)) (F0 m 0 ls []) by rw [eH] at K; exact K
  clear eH
  obtain ⟨locs, elocs⟩ : ∃ z : List Loc, z = [] := ⟨_, rfl⟩
  rw [← elocs] at hS ⊢
  refine lv_aload_n hx hb dX7_isAhead_0 rfl (lv_at hl 0 rfl) ?_
  refine lv_iload_n hx hb dX7_isAhead_1 rfl (lv_at hl 1 rfl) ?_
  obtain ⟨r1, qr1, hf⟩ := bd_some hf
  refine xt_callVi (As := [.int a1]) (rest := []) (C := RX7) (ci := 7) ⟨hx, hb, hml, hown, hts⟩ 0 (mX7_beyond l dC dI ad cy hJ σ a1 r1 qr1) (cwV 1 hts gX7_isAhead_X7_beyond rfl rfl rfl dmX7_beyond ⟨Nat.le_of_ble_eq_true rfl, Nat.le_of_ble_eq_true rfl⟩) hK hP hS (by decide) (LX7_obj ad cy _) rfl rfl rfl hl.1 (Nat.le_of_ble_eq_true rfl) ⟨Nat.zero_le _, Nat.zero_le _⟩ dX7_isAhead_2 (fun H locs hP hS => ?_)
  refine lv_aload_n hx hb dX7_isAhead_5 rfl (lv_at hl 0 rfl) ?_
  refine lv_iload_n hx hb dX7_isAhead_6 rfl (lv_at hl 2 rfl) ?_
  obtain ⟨r2, qr2, hf⟩ := bd_some hf
  refine xt_callVi (As := [.int a2]) (rest := [.int r1]) (C := RX7) (ci := 7) ⟨hx, hb, hml, hown, hts⟩ 0 (mX7_beyond l dC dI ad cy hJ σ a2 r2 qr2) (cwV 1 hts gX7_isAhead_X7_beyond rfl rfl rfl dmX7_beyond ⟨Nat.le_of_ble_eq_true rfl, Nat.le_of_ble_eq_true rfl⟩) hK hP hS (by decide) (LX7_obj ad cy _) rfl rfl rfl hl.1 (Nat.le_of_ble_eq_true rfl) ⟨Nat.zero_le _, Nat.zero_le _⟩ dX7_isAhead_7 (fun H locs hP hS => ?_)
  refine lv_icmp_eq (tgt := 32) hx hb dX7_isAhead_10 (by decide) (fun c3 => ?_) (fun c3 => ?_)
  · have hf := (if_pos c3).symm.trans hf
    refine lv_aload_n hx hb dX7_isAhead_32 rfl (lv_at hl 0 rfl) ?_
    refine lv_iload_n hx hb dX7_isAhead_33 rfl (lv_at hl 1 rfl) ?_
    refine lv_iconst (v := 0) hx hb dX7_isAhead_34 (by decide) ?_
    obtain ⟨r4, qr4, hf⟩ := bd_some hf
    refine xt_callVi (As := [.int a1, .int 0]) (rest := []) (C := RX7) (ci := 7) ⟨hx, hb, hml, hown, hts⟩ 0 (mX7_p l dC dI ad cy hJ σ a1 0 r4 qr4) (cwV 2 hts gX7_isAhead_X7_p rfl rfl rfl dmX7_p ⟨Nat.le_of_ble_eq_true rfl, Nat.le_of_ble_eq_true rfl⟩) hK hP hS (by decide) (LX7_obj ad cy _) rfl rfl rfl hl.1 (Nat.le_of_ble_eq_true rfl) ⟨Nat.zero_le _, Nat.zero_le _⟩ dX7_isAhead_35 (fun H locs hP hS => ?_)
    refine lv_aload_n hx hb dX7_isAhead_38 rfl (lv_at hl 0 rfl) ?_
    refine lv_iload_n hx hb dX7_isAhead_39 rfl (lv_at hl 2 rfl) ?_
    refine lv_iconst (v := 0) hx hb dX7_isAhead_40 (by decide) ?_
    obtain ⟨r5, qr5, hf⟩ := bd_some hf
    refine xt_callVi (As := [.int a2, .int 0]) (rest := [.int r4]) (C := RX7) (ci := 7) ⟨hx, hb, hml, hown, hts⟩ 0 (mX7_p l dC dI ad cy hJ σ a2 0 r5 qr5) (cwV 2 hts gX7_isAhead_X7_p rfl rfl rfl dmX7_p ⟨Nat.le_of_ble_eq_true rfl, Nat.le_of_ble_eq_true rfl⟩) hK hP hS (by decide) (LX7_obj ad cy _) rfl rfl rfl hl.1 (Nat.le_of_ble_eq_true rfl) ⟨Nat.zero_le _, Nat.zero_le _⟩ dX7_isAhead_41 (fun H locs hP hS => ?_)
    refine lv_icmp_lt (tgt := 67) hx hb dX7_isAhead_44 (by decide) (fun c6 => ?_) (fun c6 => ?_)
    · have hf := (if_pos c6).symm.trans hf
      refine lv_iconst (v := 1) hx hb dX7_isAhead_67 (by decide) ?_
      refine lv_goto (tgt := 72) hx hb dX7_isAhead_68 (by decide) ?_
      exact xt_zret hx hb hr rfl hP hS (Option.some.inj hf) rfl dX7_isAhead_72 hlocks
    · have hf := (if_neg c6).symm.trans hf
      refine lv_aload_n hx hb dX7_isAhead_47 rfl (lv_at hl 0 rfl) ?_
      refine lv_iload_n hx hb dX7_isAhead_48 rfl (lv_at hl 1 rfl) ?_
      refine lv_iconst (v := 0) hx hb dX7_isAhead_49 (by decide) ?_
      obtain ⟨r7, qr7, hf⟩ := bd_some hf
      refine xt_callVi (As := [.int a1, .int 0]) (rest := []) (C := RX7) (ci := 7) ⟨hx, hb, hml, hown, hts⟩ 0 (mX7_p l dC dI ad cy hJ σ a1 0 r7 qr7) (cwV 2 hts gX7_isAhead_X7_p rfl rfl rfl dmX7_p ⟨Nat.le_of_ble_eq_true rfl, Nat.le_of_ble_eq_true rfl⟩) hK hP hS (by decide) (LX7_obj ad cy _) rfl rfl rfl hl.1 (Nat.le_of_ble_eq_true rfl) ⟨Nat.zero_le _, Nat.zero_le _⟩ dX7_isAhead_50 (fun H locs hP hS => ?_)
      refine lv_aload_n hx hb dX7_isAhead_53 rfl (lv_at hl 0 rfl) ?_
      refine lv_iload_n hx hb dX7_isAhead_54 rfl (lv_at hl 2 rfl) ?_
      refine lv_iconst (v := 0) hx hb dX7_isAhead_55 (by decide) ?_
      obtain ⟨r8, qr8, hf⟩ := bd_some hf
      refine xt_callVi (As := [.int a2, .int 0]) (rest := [.int r7]) (C := RX7) (ci := 7) ⟨hx, hb, hml, hown, hts⟩ 0 (mX7_p l dC dI ad cy hJ σ a2 0 r8 qr8) (cwV 2 hts gX7_isAhead_X7_p rfl rfl rfl dmX7_p ⟨Nat.le_of_ble_eq_true rfl, Nat.le_of_ble_eq_true rfl⟩) hK hP hS (by decide) (LX7_obj ad cy _) rfl rfl rfl hl.1 (Nat.le_of_ble_eq_true rfl) ⟨Nat.zero_le _, Nat.zero_le _⟩ dX7_isAhead_56 (fun H locs hP hS => ?_)
      refine lv_icmp_ne (tgt := 71) hx hb dX7_isAhead_59 (by decide) (fun c9 => ?_) (fun c9 => ?_)
      · have hf := (if_neg c9).symm.trans hf
        refine lv_iconst (v := 0) hx hb dX7_isAhead_71 (by decide) ?_
        exact xt_zret hx hb hr rfl hP hS (Option.some.inj hf) rfl dX7_isAhead_72 hlocks
      · have hf := (if_pos c9).symm.trans hf
        refine lv_iload_n hx hb dX7_isAhead_62 rfl (lv_at hl 1 rfl) ?_
        refine lv_iload_n hx hb dX7_isAhead_63 rfl (lv_at hl 2 rfl) ?_
        refine lv_icmp_ge (tgt := 71) hx hb dX7_isAhead_64 (by decide) (fun c10 => ?_) (fun c10 => ?_)
        · have hf := (if_pos c10).symm.trans hf
          refine lv_iconst (v := 0) hx hb dX7_isAhead_71 (by decide) ?_
          exact xt_zret hx hb hr rfl hP hS (Option.some.inj hf) rfl dX7_isAhead_72 hlocks
        · have hf := (if_neg c10).symm.trans hf
          refine lv_iconst (v := 1) hx hb dX7_isAhead_67 (by decide) ?_
          refine lv_goto (tgt := 72) hx hb dX7_isAhead_68 (by decide) ?_
          exact xt_zret hx hb hr rfl hP hS (Option.some.inj hf) rfl dX7_isAhead_72 hlocks
  · have hf := (if_neg c3).symm.trans hf
    refine lv_aload_n hx hb dX7_isAhead_13 rfl (lv_at hl 0 rfl) ?_
    refine lv_iload_n hx hb dX7_isAhead_14 rfl (lv_at hl 1 rfl) ?_
    obtain ⟨r11, qr11, hf⟩ := bd_some hf
    refine xt_callVi (As := [.int a1]) (rest := []) (C := RX7) (ci := 7) ⟨hx, hb, hml, hown, hts⟩ 0 (mX7_beyond l dC dI ad cy hJ σ a1 r11 qr11) (cwV 1 hts gX7_isAhead_X7_beyond rfl rfl rfl dmX7_beyond ⟨Nat.le_of_ble_eq_true rfl, Nat.le_of_ble_eq_true rfl⟩) hK hP hS (by decide) (LX7_obj ad cy _) rfl rfl rfl hl.1 (Nat.le_of_ble_eq_true rfl) ⟨Nat.zero_le _, Nat.zero_le _⟩ dX7_isAhead_15 (fun H locs hP hS => ?_)
    refine lv_aload_n hx hb dX7_isAhead_18 rfl (lv_at hl 0 rfl) ?_
    refine lv_iload_n hx hb dX7_isAhead_19 rfl (lv_at hl 2 rfl) ?_
    obtain ⟨r12, qr12, hf⟩ := bd_some hf
    refine xt_callVi (As := [.int a2]) (rest := [.int r11]) (C := RX7) (ci := 7) ⟨hx, hb, hml, hown, hts⟩ 0 (mX7_beyond l dC dI ad cy hJ σ a2 r12 qr12) (cwV 1 hts gX7_isAhead_X7_beyond rfl rfl rfl dmX7_beyond ⟨Nat.le_of_ble_eq_true rfl, Nat.le_of_ble_eq_true rfl⟩) hK hP hS (by decide) (LX7_obj ad cy _) rfl rfl rfl hl.1 (Nat.le_of_ble_eq_true rfl) ⟨Nat.zero_le _, Nat.zero_le _⟩ dX7_isAhead_20 (fun H locs hP hS => ?_)
    refine lv_icmp_le (tgt := 30) hx hb dX7_isAhead_23 (by decide) (fun c13 => ?_) (fun c13 => ?_)
    · have hf := (if_pos c13).symm.trans hf
      refine lv_iconst (v := 0) hx hb dX7_isAhead_30 (by decide) ?_
      exact xt_zret hx hb hr rfl hP hS (Option.some.inj hf) rfl dX7_isAhead_31 hlocks
    · have hf := (if_neg c13).symm.trans hf
      refine lv_iconst (v := 1) hx hb dX7_isAhead_26 (by decide) ?_
      refine lv_goto (tgt := 31) hx hb dX7_isAhead_27 (by decide) ?_
      exact xt_zret hx hb hr rfl hP hS (Option.some.inj hf) rfl dX7_isAhead_31 hlocks
def fX7_hottest_B69 (σ : St) : Option (Int32 × St) :=
  some ((-11), σ)
def fX7_hottest_B56 (G6 : St → Int32 → Option (Int32 × St)) (K6_69 : St → Option (Int32 × St)) (σ : St) (x1 : Int32) (x2 : Int32) (x3 : Int32) : Option (Int32 × St) :=
  if x3 = x1 then (some (x2, σ)) else (nm (x2 + 1) fun v2 => G6 σ v2)
def fX7_hottest_L21 (x2 : Int32) (K21_56 : St → Int32 → Option (Int32 × St)) : Nat → St → Int32 → Int32 → Option (Int32 × St)
  | 0, _, _, _ => none
  | n21 + 1, σ, x3, x4 => if (σ 1 (0 : Int32).toNatClampNeg) ≤ x4 then (K21_56 σ x3) else (bd (fX7_isAhead σ x4 x2) fun r4 => if r4 = 0 then (nm (x3 + 0) fun v6 => nm (x4 + 1) fun v7 => (fX7_hottest_L21 x2 K21_56 n21) σ v6 v7) else (nm (x3 + 1) fun v8 => nm (x4 + 1) fun v9 => (fX7_hottest_L21 x2 K21_56 n21) σ v8 v9))
def fX7_hottest_L6 (x1 : Int32) (K6_69 : St → Option (Int32 × St)) : Nat → St → Int32 → Option (Int32 × St)
  | 0, _, _ => none
  | n6 + 1, σ, x2 => if (σ 1 (0 : Int32).toNatClampNeg) ≤ x2 then (K6_69 σ) else (fX7_hottest_L21 x2 (fun σ y3 => fX7_hottest_B56 (fX7_hottest_L6 x1 K6_69 n6) K6_69 σ x1 x2 y3) 1000 σ 0 0)
def fX7_hottest (σ : St) (a1 : Int32) : Option (Int32 × St) :=
  bd (fX7_laysRing σ) fun r11 => fX7_hottest_L6 a1 (fun σ => fX7_hottest_B69 σ) 1000 r11 0
abbrev rmX7_hottest : Room := { frames := 5, cells := 0, slots := 0, locals := 110 }
theorem dmX7_hottest : yX7_hottest.cls = RX7 ∧ yX7_hottest.cls ≠ "java/lang/invoke/MethodHandle" ∧ yX7_hottest.cls ≠ "java/lang/invoke/VarHandle" ∧ (parseMethodDescriptor yX7_hottest.desc).map (fun d => d.parameters.length) = some 1 := by decide +kernel
theorem iX7_hottest_X7 : ∀ w ∈ wsX70, w ∈ wsX7_hottest := fun w h => List.mem_cons_of_mem _ (List.mem_append_right _ (h))
set_option maxHeartbeats 8000000 in
set_option maxRecDepth 100000 in
theorem mX7_hottest (l : Launch) (dC : Nat → ClassId) (dI : Nat → Nat → Nat) (ad : Nat → Nat) (cy : Nat → ClassId) (hJ : WJ 16 ad) (σ : St) (a1 : Int32) (res : (Int32 × St)) (hf : fX7_hottest σ a1 = some res) : CMi l yX7_hottest wsX7_hottest rmX7_hottest (dC, dI) (tysX cy) 16 ad (layM ad cy) [.ref (ad 0), .int a1] σ res.1 res.2 := by
  refine Met.ofW (cc := cX7_hottest) (maxL := 5) (ret := (some .int)) (by decide) rfl ?_
  intro p e s m args below meth c s₁ B hml hv
  obtain ⟨hargs, hP, hK⟩ := hv
  have hx := B.exec
  have hb := B.bytes
  have hr := B.returns
  have hts := atoms_spec (ws := wsX7_hottest) B.pre
  have hown : s.vm.findClass RX7 = some m.cls := findClass_of_methodNamed B.named
  have hlocks := B.notSynchronized
  have w1 := hts (.fieldLink RX7 9 "PierRingsModel" "all" "[I") (List.mem_of_getElem? (i := 1) rfl)
  have hS : va_S (WA 16 ad) s.heap s.heap [] := va_S.rf
  have hfr : entryFrame m args 5 = F0 m 0 ((lg_sl [.ref (ad 0), .int a1] ++ List.replicate (5 - (lg_sl [.ref (ad 0), .int a1]).length) Slot.unset).toArray) [] := by rw [hargs]; exact lg_entry_eq _ _ _
  rw [hfr]
  have hl := lv_entry ([.ref (ad 0), .int a1]) (n := 5) (Nat.le_of_ble_eq_true rfl)
  generalize (lg_sl [.ref (ad 0), .int a1] ++ List.replicate (5 - (lg_sl [.ref (ad 0), .int a1]).length) Slot.unset).toArray = ls at hl ⊢
  have hl : lv_has ls 5 [(0, .ref (ad 0)), (1, .int a1)] := hl
  clear hfr hargs B
  show W p l e rmX7_hottest s m args below meth c s.heap [] 0 0 (MQ below (Qiw (dC, dI) 16 ad (layM ad cy) res.1 res.2) args s 0 0 (WA 16 ad)) (F0 m 0 ls [])
  have kB69 : ∀ (σ : St), fX7_hottest_B69 σ = some res → ∀ (H : Heap) (locs : List Loc), va_P (dC, dI) vwCl (wd 16 ad (layM ad cy) σ) H → va_S (WA 16 ad) s.heap H locs → ∀ (ls : Array Slot), lv_has ls 5 [] → W p l e rmX7_hottest s m args below meth c H locs 0 0 (MQ below (Qiw (dC, dI) 16 ad (layM ad cy) res.1 res.2) args s 0 0 (WA 16 ad)) (F0 m 69 ls []) := by
    intro σ hf H locs hP hS ls hl
    unfold fX7_hottest_B69 at hf
    refine lv_bipush (v := (-11)) hx hb dX7_hottest_69 (by decide) ?_
    exact xt_iret hx hb hr hP hS (rs_1 hf) (rs_2 hf) dX7_hottest_71 hlocks
  have loop6 : ∀ (x1 : Int32) (n6 : Nat) (σ : St) (x2 : Int32), fX7_hottest_L6 x1 (fun σ => fX7_hottest_B69 σ) n6 σ x2 = some res → ∀ (H : Heap) (locs : List Loc), va_P (dC, dI) vwCl (wd 16 ad (layM ad cy) σ) H → va_S (WA 16 ad) s.heap H locs → ∀ (ls : Array Slot), lv_has ls 5 [(0, .ref (ad 0)), (1, .int x1), (2, .int x2)] → W p l e rmX7_hottest s m args below meth c H locs 0 0 (MQ below (Qiw (dC, dI) 16 ad (layM ad cy) res.1 res.2) args s 0 0 (WA 16 ad)) (F0 m 6 ls []) := by
    intro x1 n6
    induction n6 with
    | zero => intro σ x2 hf; simp [fX7_hottest_L6] at hf
    | succ n6 ih6 =>
      intro σ x2 hf H locs hP hS ls hl
      rw [fX7_hottest_L6] at hf
      have kB56 : ∀ (σ : St) (x2 : Int32) (x3 : Int32), fX7_hottest_B56 (fX7_hottest_L6 x1 (fun σ => fX7_hottest_B69 σ) n6) (fun σ => fX7_hottest_B69 σ) σ x1 x2 x3 = some res → ∀ (H : Heap) (locs : List Loc), va_P (dC, dI) vwCl (wd 16 ad (layM ad cy) σ) H → va_S (WA 16 ad) s.heap H locs → ∀ (ls : Array Slot), lv_has ls 5 [(0, .ref (ad 0)), (1, .int x1), (2, .int x2), (3, .int x3)] → W p l e rmX7_hottest s m args below meth c H locs 0 0 (MQ below (Qiw (dC, dI) 16 ad (layM ad cy) res.1 res.2) args s 0 0 (WA 16 ad)) (F0 m 56 ls []) := by
        intro σ x2 x3 hf H locs hP hS ls hl
        unfold fX7_hottest_B56 at hf
        refine lv_iload_n hx hb dX7_hottest_56 rfl (lv_at hl 3 rfl) ?_
        refine lv_iload_n hx hb dX7_hottest_57 rfl (lv_at hl 1 rfl) ?_
        refine lv_icmp_ne (tgt := 63) hx hb dX7_hottest_58 (by decide) (fun c1 => ?_) (fun c1 => ?_)
        · have hf := (if_neg c1).symm.trans hf
          obtain ⟨v2, ev2⟩ : ∃ y : Int32, y = x2 + 1 := ⟨_, rfl⟩
          have hf := nm_to hf ev2
          refine lv_iinc (v := v2) (lv' := [(2, .int v2), (0, .ref (ad 0)), (1, .int x1), (3, .int x3)]) hx hb dX7_hottest_63 hl (k := 2) rfl (by rw [ev2]; rfl) (by decide) rfl (fun ls hl => ?_)
          refine lv_goto (tgt := 6) hx hb dX7_hottest_66 (by decide) ?_
          exact ih6 σ v2 hf H locs hP hS ls (lv_sub hl [1, 2, 0] rfl)
        · have hf := (if_pos c1).symm.trans hf
          refine lv_iload_n hx hb dX7_hottest_61 rfl (lv_at hl 2 rfl) ?_
          exact xt_iret hx hb hr hP hS (rs_1 hf) (rs_2 hf) dX7_hottest_62 hlocks
      have loop21 : ∀ (x2 : Int32) (n21 : Nat) (σ : St) (x3 : Int32) (x4 : Int32), fX7_hottest_L21 x2 (fun σ y3 => fX7_hottest_B56 (fX7_hottest_L6 x1 (fun σ => fX7_hottest_B69 σ) n6) (fun σ => fX7_hottest_B69 σ) σ x1 x2 y3) n21 σ x3 x4 = some res → ∀ (H : Heap) (locs : List Loc), va_P (dC, dI) vwCl (wd 16 ad (layM ad cy) σ) H → va_S (WA 16 ad) s.heap H locs → ∀ (ls : Array Slot), lv_has ls 5 [(0, .ref (ad 0)), (1, .int x1), (2, .int x2), (3, .int x3), (4, .int x4)] → W p l e rmX7_hottest s m args below meth c H locs 0 0 (MQ below (Qiw (dC, dI) 16 ad (layM ad cy) res.1 res.2) args s 0 0 (WA 16 ad)) (F0 m 21 ls []) := by
        intro x2 n21
        induction n21 with
        | zero => intro σ x3 x4 hf; simp [fX7_hottest_L21] at hf
        | succ n21 ih21 =>
          intro σ x3 x4 hf H locs hP hS ls hl
          rw [fX7_hottest_L21] at hf
          refine lv_iload hx hb dX7_hottest_21 (lv_at hl 4 rfl) ?_
          refine lv_aload_n hx hb dX7_hottest_23 rfl (lv_at hl 0 rfl) ?_
          refine xt_get (ci := 7) (C := RX7) (T := TX7) (n := 25) (v := .ref (ad 1)) hx hb hts iX7_hottest_X7 hown hK hP 0 (by decide) (LX7_obj ad cy _) rfl 0 (by decide) w1 rfl dX7_hottest_24 ?_
          refine lv_iconst (v := 0) hx hb dX7_hottest_27 (by decide) ?_
          refine xt_iald hx hb hK hP 1 (by decide) 0 (LX7_all ad cy _) rfl (by decide) dX7_hottest_28 ?_
          refine lv_icmp_ge (tgt := 56) hx hb dX7_hottest_29 (by decide) (fun c3 => ?_) (fun c3 => ?_)
          · have hf := (if_pos c3).symm.trans hf
            exact kB56 σ x2 x3 hf H locs hP hS ls (lv_sub hl [0, 1, 2, 3] rfl)
          · have hf := (if_neg c3).symm.trans hf
            refine lv_iload_n hx hb dX7_hottest_32 rfl (lv_at hl 3 rfl) ?_
            refine lv_aload_n hx hb dX7_hottest_33 rfl (lv_at hl 0 rfl) ?_
            refine lv_iload hx hb dX7_hottest_34 (lv_at hl 4 rfl) ?_
            refine lv_iload_n hx hb dX7_hottest_36 rfl (lv_at hl 2 rfl) ?_
            obtain ⟨r4, qr4, hf⟩ := bd_some hf
            refine xt_callVi (As := [.int x4, .int x2]) (rest := [.int x3]) (C := RX7) (ci := 7) ⟨hx, hb, hml, hown, hts⟩ 0 (mX7_isAhead l dC dI ad cy hJ σ x4 x2 r4 qr4) (cwV 2 hts gX7_hottest_X7_isAhead rfl rfl rfl dmX7_isAhead ⟨Nat.le_of_ble_eq_true rfl, Nat.le_of_ble_eq_true rfl⟩) hK hP hS (by decide) (LX7_obj ad cy _) rfl rfl rfl hl.1 (Nat.le_of_ble_eq_true rfl) ⟨Nat.zero_le _, Nat.zero_le _⟩ dX7_hottest_37 (fun H locs hP hS => ?_)
            refine lv_if_eq (tgt := 47) hx hb dX7_hottest_40 (by decide) (fun c5 => ?_) (fun c5 => ?_)
            · have hf := (if_pos c5).symm.trans hf
              refine lv_iconst (v := 0) hx hb dX7_hottest_47 (by decide) ?_
              refine lv_iadd hx hb dX7_hottest_48 ?_
              refine lv_topi (fun v6 ev6 => ?_)
              have hf := nm_to hf ev6
              refine lv_istore_n (lv' := [(3, .int v6), (0, .ref (ad 0)), (1, .int x1), (2, .int x2), (4, .int x4)]) hx hb dX7_hottest_49 rfl hl (by decide) rfl (fun ls hl => ?_)
              obtain ⟨v7, ev7⟩ : ∃ y : Int32, y = x4 + 1 := ⟨_, rfl⟩
              have hf := nm_to hf ev7
              refine lv_iinc (v := v7) (lv' := [(4, .int v7), (3, .int v6), (0, .ref (ad 0)), (1, .int x1), (2, .int x2)]) hx hb dX7_hottest_50 hl (k := 4) rfl (by rw [ev7]; rfl) (by decide) rfl (fun ls hl => ?_)
              refine lv_goto (tgt := 21) hx hb dX7_hottest_53 (by decide) ?_
              exact ih21 σ v6 v7 hf H locs hP hS ls (lv_sub hl [2, 3, 4, 1, 0] rfl)
            · have hf := (if_neg c5).symm.trans hf
              refine lv_iconst (v := 1) hx hb dX7_hottest_43 (by decide) ?_
              refine lv_goto (tgt := 48) hx hb dX7_hottest_44 (by decide) ?_
              refine lv_iadd hx hb dX7_hottest_48 ?_
              refine lv_topi (fun v8 ev8 => ?_)
              have hf := nm_to hf ev8
              refine lv_istore_n (lv' := [(3, .int v8), (0, .ref (ad 0)), (1, .int x1), (2, .int x2), (4, .int x4)]) hx hb dX7_hottest_49 rfl hl (by decide) rfl (fun ls hl => ?_)
              obtain ⟨v9, ev9⟩ : ∃ y : Int32, y = x4 + 1 := ⟨_, rfl⟩
              have hf := nm_to hf ev9
              refine lv_iinc (v := v9) (lv' := [(4, .int v9), (3, .int v8), (0, .ref (ad 0)), (1, .int x1), (2, .int x2)]) hx hb dX7_hottest_50 hl (k := 4) rfl (by rw [ev9]; rfl) (by decide) rfl (fun ls hl => ?_)
              refine lv_goto (tgt := 21) hx hb dX7_hottest_53 (by decide) ?_
              exact ih21 σ v8 v9 hf H locs hP hS ls (lv_sub hl [2, 3, 4, 1, 0] rfl)
      refine lv_iload_n hx hb dX7_hottest_6 rfl (lv_at hl 2 rfl) ?_
      refine lv_aload_n hx hb dX7_hottest_7 rfl (lv_at hl 0 rfl) ?_
      refine xt_get (ci := 7) (C := RX7) (T := TX7) (n := 25) (v := .ref (ad 1)) hx hb hts iX7_hottest_X7 hown hK hP 0 (by decide) (LX7_obj ad cy _) rfl 0 (by decide) w1 rfl dX7_hottest_8 ?_
      refine lv_iconst (v := 0) hx hb dX7_hottest_11 (by decide) ?_
      refine xt_iald hx hb hK hP 1 (by decide) 0 (LX7_all ad cy _) rfl (by decide) dX7_hottest_12 ?_
      refine lv_icmp_ge (tgt := 69) hx hb dX7_hottest_13 (by decide) (fun c10 => ?_) (fun c10 => ?_)
      · have hf := (if_pos c10).symm.trans hf
        exact kB69 σ hf H locs hP hS ls (lv_sub hl [] rfl)
      · have hf := (if_neg c10).symm.trans hf
        refine lv_iconst (v := 0) hx hb dX7_hottest_16 (by decide) ?_
        refine lv_istore_n (lv' := [(3, .int 0), (0, .ref (ad 0)), (1, .int x1), (2, .int x2)]) hx hb dX7_hottest_17 rfl hl (by decide) rfl (fun ls hl => ?_)
        refine lv_iconst (v := 0) hx hb dX7_hottest_18 (by decide) ?_
        refine lv_istore (lv' := [(4, .int 0), (3, .int 0), (0, .ref (ad 0)), (1, .int x1), (2, .int x2)]) hx hb dX7_hottest_19 hl (by decide) rfl (fun ls hl => ?_)
        exact loop21 x2 1000 σ 0 0 hf H locs hP hS ls (lv_sub hl [2, 3, 4, 1, 0] rfl)
  unfold fX7_hottest at hf
  obtain ⟨H, eH⟩ : ∃ H : Heap, H = s.heap := ⟨_, rfl⟩
  rw [← eH] at hP
  have hS : va_S (WA 16 ad) s.heap H [] := by rw [eH]; exact hS
  suffices K : W p l e rmX7_hottest s m args below meth c H [] 0 0 (MQ below (Qiw (dC, dI) 16 ad (layM ad cy) res.1 res.2) args s 0 0 (WA 16 ad)) (F0 m 0 ls []) by rw [eH] at K; exact K
  clear eH
  obtain ⟨locs, elocs⟩ : ∃ z : List Loc, z = [] := ⟨_, rfl⟩
  rw [← elocs] at hS ⊢
  refine lv_aload_n hx hb dX7_hottest_0 rfl (lv_at hl 0 rfl) ?_
  obtain ⟨r11, qr11, hf⟩ := bd_some hf
  refine xt_callVv (As := []) (rest := []) (C := RX7) (ci := 7) ⟨hx, hb, hml, hown, hts⟩ 0 (mX7_laysRing l dC dI ad cy hJ σ r11 qr11) (cwV 0 hts gX7_hottest_X7_laysRing rfl rfl rfl dmX7_laysRing ⟨Nat.le_of_ble_eq_true rfl, Nat.le_of_ble_eq_true rfl⟩) hK hP hS (by decide) (LX7_obj ad cy _) rfl rfl rfl hl.1 (Nat.le_of_ble_eq_true rfl) ⟨Nat.zero_le _, Nat.zero_le _⟩ dX7_hottest_1 (fun H locs hP hS => ?_)
  refine lv_iconst (v := 0) hx hb dX7_hottest_4 (by decide) ?_
  refine lv_istore_n (lv' := [(2, .int 0), (0, .ref (ad 0)), (1, .int a1)]) hx hb dX7_hottest_5 rfl hl (by decide) rfl (fun ls hl => ?_)
  exact loop6 a1 1000 r11 0 hf H locs hP hS ls (lv_sub hl [1, 2, 0] rfl)
def fX7_append (σ : St) (a1 : Int32) : Option (Int32 × St) :=
  bd (fX7_in σ a1 32 126) fun r1 => if r1 = 0 then (some ((-12), σ)) else (if (σ 0 18) = (60 : Int32) then (some ((-13), σ)) else (gd (okI (σ 0 18) 60) <| nm (su σ 13 (σ 0 18).toNatClampNeg a1) fun σ5 => nm (su σ5 0 18 ((σ5 0 18) + 1)) fun σ6 => some ((σ6 0 18), σ6)))
abbrev rmX7_append : Room := { frames := 1, cells := 0, slots := 0, locals := 22 }
theorem dmX7_append : yX7_append.cls = RX7 ∧ yX7_append.cls ≠ "java/lang/invoke/MethodHandle" ∧ yX7_append.cls ≠ "java/lang/invoke/VarHandle" ∧ (parseMethodDescriptor yX7_append.desc).map (fun d => d.parameters.length) = some 1 := by decide +kernel
theorem iX7_append_X7 : ∀ w ∈ wsX70, w ∈ wsX7_append := fun w h => List.mem_cons_of_mem _ (List.mem_append_right _ (h))
set_option maxHeartbeats 8000000 in
set_option maxRecDepth 100000 in
theorem mX7_append (l : Launch) (dC : Nat → ClassId) (dI : Nat → Nat → Nat) (ad : Nat → Nat) (cy : Nat → ClassId) (hJ : WJ 16 ad) (σ : St) (a1 : Int32) (res : (Int32 × St)) (hf : fX7_append σ a1 = some res) : CMi l yX7_append wsX7_append rmX7_append (dC, dI) (tysX cy) 16 ad (layM ad cy) [.ref (ad 0), .int a1] σ res.1 res.2 := by
  refine Met.ofW (cc := cX7_append) (maxL := 2) (ret := (some .int)) (by decide) rfl ?_
  intro p e s m args below meth c s₁ B hml hv
  obtain ⟨hargs, hP, hK⟩ := hv
  have hx := B.exec
  have hb := B.bytes
  have hr := B.returns
  have hts := atoms_spec (ws := wsX7_append) B.pre
  have hown : s.vm.findClass RX7 = some m.cls := findClass_of_methodNamed B.named
  have hlocks := B.notSynchronized
  have w1 := hts (.fieldLink RX7 193 "PierRingsModel" "textSize" "I") (List.mem_of_getElem? (i := 1) rfl)
  have w2 := hts (.fieldLink RX7 46 "PierRingsModel" "text" "[I") (List.mem_of_getElem? (i := 2) rfl)
  have hS : va_S (WA 16 ad) s.heap s.heap [] := va_S.rf
  have hfr : entryFrame m args 2 = F0 m 0 ((lg_sl [.ref (ad 0), .int a1] ++ List.replicate (2 - (lg_sl [.ref (ad 0), .int a1]).length) Slot.unset).toArray) [] := by rw [hargs]; exact lg_entry_eq _ _ _
  rw [hfr]
  have hl := lv_entry ([.ref (ad 0), .int a1]) (n := 2) (Nat.le_of_ble_eq_true rfl)
  generalize (lg_sl [.ref (ad 0), .int a1] ++ List.replicate (2 - (lg_sl [.ref (ad 0), .int a1]).length) Slot.unset).toArray = ls at hl ⊢
  have hl : lv_has ls 2 [(0, .ref (ad 0)), (1, .int a1)] := hl
  clear hfr hargs B
  show W p l e rmX7_append s m args below meth c s.heap [] 0 0 (MQ below (Qiw (dC, dI) 16 ad (layM ad cy) res.1 res.2) args s 0 0 (WA 16 ad)) (F0 m 0 ls [])
  unfold fX7_append at hf
  obtain ⟨H, eH⟩ : ∃ H : Heap, H = s.heap := ⟨_, rfl⟩
  rw [← eH] at hP
  have hS : va_S (WA 16 ad) s.heap H [] := by rw [eH]; exact hS
  suffices K : W p l e rmX7_append s m args below meth c H [] 0 0 (MQ below (Qiw (dC, dI) 16 ad (layM ad cy) res.1 res.2) args s 0 0 (WA 16 ad)) (F0 m 0 ls []) by rw [eH] at K; exact K
  clear eH
  obtain ⟨locs, elocs⟩ : ∃ z : List Loc, z = [] := ⟨_, rfl⟩
  rw [← elocs] at hS ⊢
  refine lv_iload_n hx hb dX7_append_0 rfl (lv_at hl 1 rfl) ?_
  refine lv_bipush (v := 32) hx hb dX7_append_1 (by decide) ?_
  refine lv_bipush (v := 126) hx hb dX7_append_3 (by decide) ?_
  obtain ⟨r1, qr1, hf⟩ := bd_some hf
  refine xt_callSi (As := [.int a1, .int 32, .int 126]) (rest := []) ⟨hx, hb, hml, hown, hts⟩ (mX7_in l dC dI ad cy hJ σ a1 32 126 r1 qr1) (va_cwS 3 hts gX7_append_X7_in rfl rfl rfl dmX7_in ⟨Nat.le_of_ble_eq_true rfl, Nat.le_of_ble_eq_true rfl⟩) hK hP hS rfl rfl hl.1 (Nat.le_of_ble_eq_true rfl) ⟨Nat.zero_le _, Nat.zero_le _⟩ dX7_append_5 (fun H locs hP hS => ?_)
  refine lv_if_ne (tgt := 14) hx hb dX7_append_8 (by decide) (fun c2 => ?_) (fun c2 => ?_)
  · have hf := (if_neg c2).symm.trans hf
    refine lv_aload_n hx hb dX7_append_14 rfl (lv_at hl 0 rfl) ?_
    refine xt_get (ci := 7) (C := RX7) (T := TX7) (n := 25) (v := .int (σ 0 18)) hx hb hts iX7_append_X7 hown hK hP 0 (by decide) (LX7_obj ad cy _) rfl 18 (by decide) w1 rfl dX7_append_15 ?_
    refine lv_bipush (v := 60) hx hb dX7_append_18 (by decide) ?_
    refine lv_icmp_ne (tgt := 26) hx hb dX7_append_20 (by decide) (fun c3 => ?_) (fun c3 => ?_)
    · have hf := (if_neg c3).symm.trans hf
      refine lv_aload_n hx hb dX7_append_26 rfl (lv_at hl 0 rfl) ?_
      refine xt_get (ci := 7) (C := RX7) (T := TX7) (n := 25) (v := .ref (ad 13)) hx hb hts iX7_append_X7 hown hK hP 0 (by decide) (LX7_obj ad cy _) rfl 17 (by decide) w2 rfl dX7_append_27 ?_
      refine lv_aload_n hx hb dX7_append_30 rfl (lv_at hl 0 rfl) ?_
      refine xt_get (ci := 7) (C := RX7) (T := TX7) (n := 25) (v := .int (σ 0 18)) hx hb hts iX7_append_X7 hown hK hP 0 (by decide) (LX7_obj ad cy _) rfl 18 (by decide) w1 rfl dX7_append_31 ?_
      refine lv_iload_n hx hb dX7_append_34 rfl (lv_at hl 1 rfl) ?_
      obtain ⟨g4, hf⟩ := gd_some hf
      refine xt_iast hx hb hK hP hJ hS 13 (by decide) 0 (LX7_text ad cy) rfl g4 dX7_append_35 (fun H locs hP hS => ?_)
      obtain ⟨σ5, eσ5⟩ : ∃ z : St, z = su σ 13 (σ 0 18).toNatClampNeg a1 := ⟨_, rfl⟩
      rw [← eσ5] at hP
      have hf := nm_to hf eσ5
      refine lv_aload_n hx hb dX7_append_36 rfl (lv_at hl 0 rfl) ?_
      refine lv_dup hx hb dX7_append_37 rfl ?_
      refine xt_get (ci := 7) (C := RX7) (T := TX7) (n := 25) (v := .int (σ5 0 18)) hx hb hts iX7_append_X7 hown hK hP 0 (by decide) (LX7_obj ad cy _) rfl 18 (by decide) w1 rfl dX7_append_38 ?_
      refine lv_iconst (v := 1) hx hb dX7_append_41 (by decide) ?_
      refine lv_iadd hx hb dX7_append_42 ?_
      refine xt_put (ci := 7) (C := RX7) (T := TX7) (n := 25) hx hb hts iX7_append_X7 tyX7 tyX7_ok nmX7 hown hK hP hJ hS 0 (by decide) (LX7_obj ad cy _) rfl 18 (by decide) w1 rfl (v := ((σ5 0 18) + 1)) rfl rfl (Nat.le_of_ble_eq_true rfl) (LX7_obj ad cy _) dX7_append_43 (fun H locs hP hS => ?_)
      obtain ⟨σ6, eσ6⟩ : ∃ z : St, z = su σ5 0 18 ((σ5 0 18) + 1) := ⟨_, rfl⟩
      rw [← eσ6] at hP
      have hf := nm_to hf eσ6
      refine lv_aload_n hx hb dX7_append_46 rfl (lv_at hl 0 rfl) ?_
      refine xt_get (ci := 7) (C := RX7) (T := TX7) (n := 25) (v := .int (σ6 0 18)) hx hb hts iX7_append_X7 hown hK hP 0 (by decide) (LX7_obj ad cy _) rfl 18 (by decide) w1 rfl dX7_append_47 ?_
      exact xt_iret hx hb hr hP hS (rs_1 hf) (rs_2 hf) dX7_append_50 hlocks
    · have hf := (if_pos c3).symm.trans hf
      refine lv_bipush (v := (-13)) hx hb dX7_append_23 (by decide) ?_
      exact xt_iret hx hb hr hP hS (rs_1 hf) (rs_2 hf) dX7_append_25 hlocks
  · have hf := (if_pos c2).symm.trans hf
    refine lv_bipush (v := (-12)) hx hb dX7_append_11 (by decide) ?_
    exact xt_iret hx hb hr hP hS (rs_1 hf) (rs_2 hf) dX7_append_13 hlocks
