def fX0_hang_B117 (cx : Nat) (σ : St) (x1 : Int32) (x4 : Int32) : Option St :=
  gd (okI x1 80) <| nm (su σ ((15 + 9 * cx) + 5) x1.toNatClampNeg x4) fun σ2 => nm (su σ2 (15 + 9 * cx) 6 (if (σ2 (15 + 9 * cx) 6) < (x4 + 1) then (x4 + 1) else (σ2 (15 + 9 * cx) 6))) fun σ3 => some σ3
def fX0_hang_B80 (cx : Nat) (σ : St) (x1 : Int32) (x2 : Int32) (x4 : Int32) : Option St :=
  if x2 = (-1 : Int32) then (fX0_hang_B117 cx σ x1 x4) else (gd (okI x1 80) <| gd (okI x2 80) <| if (σ ((15 + 9 * cx) + 2) x2.toNatClampNeg) ≤ (σ ((15 + 9 * cx) + 2) x1.toNatClampNeg) then (gd (okI x2 80) <| nm (su σ ((15 + 9 * cx) + 8) x2.toNatClampNeg x1) fun σ9 => fX0_hang_B117 cx σ9 x1 x4) else (gd (okI x2 80) <| nm (su σ ((15 + 9 * cx) + 7) x2.toNatClampNeg x1) fun σ11 => fX0_hang_B117 cx σ11 x1 x4))
def fX0_hang_L29 (cx : Nat) (x1 : Int32) (K29_80 : St → Int32 → Int32 → Option St) : Nat → St → Int32 → Int32 → Int32 → Option St
  | 0, _, _, _, _ => none
  | n29 + 1, σ, x2, x3, x4 => if x3 = (-1 : Int32) then (K29_80 σ x2 x4) else (if (80 : Int32) ≤ x4 then (K29_80 σ x2 x4) else (gd (okI x1 80) <| gd (okI x3 80) <| if (σ ((15 + 9 * cx) + 2) x3.toNatClampNeg) ≤ (σ ((15 + 9 * cx) + 2) x1.toNatClampNeg) then (gd (okI x3 80) <| nm (σ ((15 + 9 * cx) + 8) x3.toNatClampNeg) fun v18 => nm (x4 + 1) fun v19 => (fX0_hang_L29 cx x1 K29_80 n29) σ x3 v18 v19) else (gd (okI x3 80) <| nm (σ ((15 + 9 * cx) + 7) x3.toNatClampNeg) fun v21 => nm (x4 + 1) fun v22 => (fX0_hang_L29 cx x1 K29_80 n29) σ x3 v21 v22)))
def fX0_hang_B25 (cx : Nat) (σ : St) (x1 : Int32) (x2 : Int32) (t0 : Int32) : Option St :=
  fX0_hang_L29 cx x1 (fun σ y2 y4 => fX0_hang_B80 cx σ x1 y2 y4) 1000 σ x2 t0 0
def fX0_hang (cx : Nat) (σ : St) (a1 : Int32) : Option St :=
  gd (okI a1 80) <| nm (su σ ((15 + 9 * cx) + 7) a1.toNatClampNeg (-1)) fun σ24 => gd (okI a1 80) <| nm (su σ24 ((15 + 9 * cx) + 8) a1.toNatClampNeg (-1)) fun σ26 => if a1 = 0 then (fX0_hang_B25 cx σ26 a1 (-1) (-1)) else (fX0_hang_B25 cx σ26 a1 (-1) 0)
abbrev rmX0_hang : Room := { frames := 1, cells := 0, slots := 0, locals := 64 }
theorem dmX0_hang : yX0_hang.cls = RX0 ∧ yX0_hang.cls ≠ "java/lang/invoke/MethodHandle" ∧ yX0_hang.cls ≠ "java/lang/invoke/VarHandle" ∧ (parseMethodDescriptor yX0_hang.desc).map (fun d => d.parameters.length) = some 1 := by decide +kernel
theorem iX0_hang_X0 : ∀ w ∈ wsX00, w ∈ wsX0_hang := fun w h => List.mem_cons_of_mem _ (List.mem_append_right _ (h))
set_option maxHeartbeats 8000000 in
set_option maxRecDepth 100000 in
theorem mX0_hang (l : Launch) (dC : Nat → ClassId) (dI : Nat → Nat → Nat) (ad : Nat → Nat) (cy : Nat → ClassId) (hJ : WJ 93 ad) (cx : Nat) (hcx : cx < 2) (σ : St) (a1 : Int32) (res : St) (hf : fX0_hang cx σ a1 = some res) : CMv l yX0_hang wsX0_hang rmX0_hang (dC, dI) (tysX cy) 93 ad (layX ad cy) [.ref (ad (15 + 9 * cx)), .int a1] σ res := by
  refine Met.ofW (cc := cX0_hang) (maxL := 5) (ret := none) (by decide) rfl ?_
  intro p e s m args below meth c s₁ B hml hv
  obtain ⟨hargs, hP, hK⟩ := hv
  have hx := B.exec
  have hb := B.bytes
  have hr := B.returns
  have hts := atoms_spec (ws := wsX0_hang) B.pre
  have hown : s.vm.findClass RX0 = some m.cls := findClass_of_methodNamed B.named
  have hlocks := B.notSynchronized
  have w1 := hts (.fieldLink RX0 37 "PierRings$Circle" "left" "[I") (List.mem_of_getElem? (i := 1) rfl)
  have w2 := hts (.fieldLink RX0 40 "PierRings$Circle" "right" "[I") (List.mem_of_getElem? (i := 2) rfl)
  have w3 := hts (.fieldLink RX0 15 "PierRings$Circle" "point" "[I") (List.mem_of_getElem? (i := 3) rfl)
  have w4 := hts (.fieldLink RX0 24 "PierRings$Circle" "above" "[I") (List.mem_of_getElem? (i := 4) rfl)
  have w5 := hts (.fieldLink RX0 31 "PierRings$Circle" "height" "I") (List.mem_of_getElem? (i := 5) rfl)
  have w6 := hts (.methodLink RX0 65 Lib.Math.max.name) (List.mem_of_getElem? (i := 6) rfl)
  have w7 := hts (.static Lib.Math.max.name) (List.mem_of_getElem? (i := 7) rfl)
  have w8 := hts (.initialized "java/lang/Math") (List.mem_of_getElem? (i := 8) rfl)
  have w9 := hts (.code Lib.Math.max.name Lib.Math.max.code 2 (some .int)) (List.mem_of_getElem? (i := 9) rfl)
  have hS : va_S (WA 93 ad) s.heap s.heap [] := va_S.rf
  have hfr : entryFrame m args 5 = F0 m 0 ((lg_sl [.ref (ad (15 + 9 * cx)), .int a1] ++ List.replicate (5 - (lg_sl [.ref (ad (15 + 9 * cx)), .int a1]).length) Slot.unset).toArray) [] := by rw [hargs]; exact lg_entry_eq _ _ _
  rw [hfr]
  have hl := lv_entry ([.ref (ad (15 + 9 * cx)), .int a1]) (n := 5) (Nat.le_of_ble_eq_true rfl)
  generalize (lg_sl [.ref (ad (15 + 9 * cx)), .int a1] ++ List.replicate (5 - (lg_sl [.ref (ad (15 + 9 * cx)), .int a1]).length) Slot.unset).toArray = ls at hl ⊢
  have hl : lv_has ls 5 [(0, .ref (ad (15 + 9 * cx))), (1, .int a1)] := hl
  clear hfr hargs B
  show W p l e rmX0_hang s m args below meth c s.heap [] 0 0 (MQ below (Qvw (dC, dI) 93 ad (layX ad cy) res) args s 0 0 (WA 93 ad)) (F0 m 0 ls [])
  have kB117 : ∀ (σ : St) (x1 : Int32) (x4 : Int32), fX0_hang_B117 cx σ x1 x4 = some res → ∀ (H : Heap) (locs : List Loc), va_P (dC, dI) vwCl (wd 93 ad (layX ad cy) σ) H → va_S (WA 93 ad) s.heap H locs → ∀ (ls : Array Slot), lv_has ls 5 [(0, .ref (ad (15 + 9 * cx))), (1, .int x1), (4, .int x4)] → W p l e rmX0_hang s m args below meth c H locs 0 0 (MQ below (Qvw (dC, dI) 93 ad (layX ad cy) res) args s 0 0 (WA 93 ad)) (F0 m 117 ls []) := by
    intro σ x1 x4 hf H locs hP hS ls hl
    unfold fX0_hang_B117 at hf
    refine lv_aload_n hx hb dX0_hang_117 rfl (lv_at hl 0 rfl) ?_
    refine xt_get (ci := 0) (C := RX0) (T := TX0) (n := 10) (v := .ref (ad ((15 + 9 * cx) + 5))) hx hb hts iX0_hang_X0 hown hK hP (15 + 9 * cx) (by omega) (LX0_obj ad cy cx hcx _) rfl 4 (by decide) w4 rfl dX0_hang_118 ?_
    refine lv_iload_n hx hb dX0_hang_121 rfl (lv_at hl 1 rfl) ?_
    refine lv_iload hx hb dX0_hang_122 (lv_at hl 2 rfl) ?_
    obtain ⟨g1, hf⟩ := gd_some hf
    refine xt_iast hx hb hK hP hJ hS ((15 + 9 * cx) + 5) (by omega) 0 (LX0_above ad cy cx hcx) rfl g1 dX0_hang_124 (fun H locs hP hS => ?_)
    obtain ⟨σ2, eσ2⟩ : ∃ z : St, z = su σ ((15 + 9 * cx) + 5) x1.toNatClampNeg x4 := ⟨_, rfl⟩
    rw [← eσ2] at hP
    have hf := nm_to hf eσ2
    refine lv_aload_n hx hb dX0_hang_125 rfl (lv_at hl 0 rfl) ?_
    refine lv_aload_n hx hb dX0_hang_126 rfl (lv_at hl 0 rfl) ?_
    refine xt_get (ci := 0) (C := RX0) (T := TX0) (n := 10) (v := .int (σ2 (15 + 9 * cx) 6)) hx hb hts iX0_hang_X0 hown hK hP (15 + 9 * cx) (by omega) (LX0_obj ad cy cx hcx _) rfl 6 (by decide) w5 rfl dX0_hang_127 ?_
    refine lv_iload hx hb dX0_hang_130 (lv_at hl 2 rfl) ?_
    refine lv_iconst (v := 1) hx hb dX0_hang_132 (by decide) ?_
    refine lv_iadd hx hb dX0_hang_133 ?_
    refine va_mmax hx hb (hml.trans hl.1.symm) hown w6 w7 w8 w9 (Nat.le_of_ble_eq_true rfl) (Nat.le_of_ble_eq_true rfl) (Nat.zero_le _) (Nat.zero_le _) dX0_hang_134 ?_
    refine xt_put (ci := 0) (C := RX0) (T := TX0) (n := 10) hx hb hts iX0_hang_X0 tyX0 tyX0_ok nmX0 hown hK hP hJ hS (15 + 9 * cx) (by omega) (LX0_obj ad cy cx hcx _) rfl 6 (by decide) w5 rfl (v := (if (σ2 (15 + 9 * cx) 6) < (x4 + 1) then (x4 + 1) else (σ2 (15 + 9 * cx) 6))) rfl rfl (Nat.le_of_ble_eq_true rfl) (LX0_obj ad cy cx hcx _) dX0_hang_137 (fun H locs hP hS => ?_)
    obtain ⟨σ3, eσ3⟩ : ∃ z : St, z = su σ2 (15 + 9 * cx) 6 (if (σ2 (15 + 9 * cx) 6) < (x4 + 1) then (x4 + 1) else (σ2 (15 + 9 * cx) 6)) := ⟨_, rfl⟩
    rw [← eσ3] at hP
    have hf := nm_to hf eσ3
    exact xt_vret hx hb hr hP hS (Option.some.inj hf) dX0_hang_140 hlocks
  have kB80 : ∀ (σ : St) (x1 : Int32) (x2 : Int32) (x4 : Int32), fX0_hang_B80 cx σ x1 x2 x4 = some res → ∀ (H : Heap) (locs : List Loc), va_P (dC, dI) vwCl (wd 93 ad (layX ad cy) σ) H → va_S (WA 93 ad) s.heap H locs → ∀ (ls : Array Slot), lv_has ls 5 [(0, .ref (ad (15 + 9 * cx))), (1, .int x1), (2, .int x2), (4, .int x4)] → W p l e rmX0_hang s m args below meth c H locs 0 0 (MQ below (Qvw (dC, dI) 93 ad (layX ad cy) res) args s 0 0 (WA 93 ad)) (F0 m 80 ls []) := by
    intro σ x1 x2 x4 hf H locs hP hS ls hl
    unfold fX0_hang_B80 at hf
    refine lv_iload_n hx hb dX0_hang_80 rfl (lv_at hl 2 rfl) ?_
    refine lv_iconst (v := (-1)) hx hb dX0_hang_81 (by decide) ?_
    refine lv_icmp_eq (tgt := 117) hx hb dX0_hang_82 (by decide) (fun c4 => ?_) (fun c4 => ?_)
    · have hf := (if_pos c4).symm.trans hf
      exact kB117 σ x1 x4 hf H locs hP hS ls (lv_sub hl [0, 1, 3] rfl)
    · have hf := (if_neg c4).symm.trans hf
      refine lv_aload_n hx hb dX0_hang_85 rfl (lv_at hl 0 rfl) ?_
      refine xt_get (ci := 0) (C := RX0) (T := TX0) (n := 10) (v := .ref (ad ((15 + 9 * cx) + 2))) hx hb hts iX0_hang_X0 hown hK hP (15 + 9 * cx) (by omega) (LX0_obj ad cy cx hcx _) rfl 1 (by decide) w3 rfl dX0_hang_86 ?_
      refine lv_iload_n hx hb dX0_hang_89 rfl (lv_at hl 1 rfl) ?_
      obtain ⟨g5, hf⟩ := gd_some hf
      refine xt_iald hx hb hK hP ((15 + 9 * cx) + 2) (by omega) 0 (LX0_point ad cy cx hcx _) rfl g5 dX0_hang_90 ?_
      refine lv_aload_n hx hb dX0_hang_91 rfl (lv_at hl 0 rfl) ?_
      refine xt_get (ci := 0) (C := RX0) (T := TX0) (n := 10) (v := .ref (ad ((15 + 9 * cx) + 2))) hx hb hts iX0_hang_X0 hown hK hP (15 + 9 * cx) (by omega) (LX0_obj ad cy cx hcx _) rfl 1 (by decide) w3 rfl dX0_hang_92 ?_
      refine lv_iload_n hx hb dX0_hang_95 rfl (lv_at hl 2 rfl) ?_
      obtain ⟨g6, hf⟩ := gd_some hf
      refine xt_iald hx hb hK hP ((15 + 9 * cx) + 2) (by omega) 0 (LX0_point ad cy cx hcx _) rfl g6 dX0_hang_96 ?_
      refine lv_icmp_ge (tgt := 110) hx hb dX0_hang_97 (by decide) (fun c7 => ?_) (fun c7 => ?_)
      · have hf := (if_pos c7).symm.trans hf
        refine lv_aload_n hx hb dX0_hang_110 rfl (lv_at hl 0 rfl) ?_
        refine xt_get (ci := 0) (C := RX0) (T := TX0) (n := 10) (v := .ref (ad ((15 + 9 * cx) + 8))) hx hb hts iX0_hang_X0 hown hK hP (15 + 9 * cx) (by omega) (LX0_obj ad cy cx hcx _) rfl 9 (by decide) w2 rfl dX0_hang_111 ?_
        refine lv_iload_n hx hb dX0_hang_114 rfl (lv_at hl 2 rfl) ?_
        refine lv_iload_n hx hb dX0_hang_115 rfl (lv_at hl 1 rfl) ?_
        obtain ⟨g8, hf⟩ := gd_some hf
        refine xt_iast hx hb hK hP hJ hS ((15 + 9 * cx) + 8) (by omega) 0 (LX0_right ad cy cx hcx) rfl g8 dX0_hang_116 (fun H locs hP hS => ?_)
        obtain ⟨σ9, eσ9⟩ : ∃ z : St, z = su σ ((15 + 9 * cx) + 8) x2.toNatClampNeg x1 := ⟨_, rfl⟩
        rw [← eσ9] at hP
        have hf := nm_to hf eσ9
        exact kB117 σ9 x1 x4 hf H locs hP hS ls (lv_sub hl [0, 1, 3] rfl)
      · have hf := (if_neg c7).symm.trans hf
        refine lv_aload_n hx hb dX0_hang_100 rfl (lv_at hl 0 rfl) ?_
        refine xt_get (ci := 0) (C := RX0) (T := TX0) (n := 10) (v := .ref (ad ((15 + 9 * cx) + 7))) hx hb hts iX0_hang_X0 hown hK hP (15 + 9 * cx) (by omega) (LX0_obj ad cy cx hcx _) rfl 8 (by decide) w1 rfl dX0_hang_101 ?_
        refine lv_iload_n hx hb dX0_hang_104 rfl (lv_at hl 2 rfl) ?_
        refine lv_iload_n hx hb dX0_hang_105 rfl (lv_at hl 1 rfl) ?_
        obtain ⟨g10, hf⟩ := gd_some hf
        refine xt_iast hx hb hK hP hJ hS ((15 + 9 * cx) + 7) (by omega) 0 (LX0_left ad cy cx hcx) rfl g10 dX0_hang_106 (fun H locs hP hS => ?_)
        obtain ⟨σ11, eσ11⟩ : ∃ z : St, z = su σ ((15 + 9 * cx) + 7) x2.toNatClampNeg x1 := ⟨_, rfl⟩
        rw [← eσ11] at hP
        have hf := nm_to hf eσ11
        refine lv_goto (tgt := 117) hx hb dX0_hang_107 (by decide) ?_
        exact kB117 σ11 x1 x4 hf H locs hP hS ls (lv_sub hl [0, 1, 3] rfl)
  have loop29 : ∀ (x1 : Int32) (n29 : Nat) (σ : St) (x2 : Int32) (x3 : Int32) (x4 : Int32), fX0_hang_L29 cx x1 (fun σ y2 y4 => fX0_hang_B80 cx σ x1 y2 y4) n29 σ x2 x3 x4 = some res → ∀ (H : Heap) (locs : List Loc), va_P (dC, dI) vwCl (wd 93 ad (layX ad cy) σ) H → va_S (WA 93 ad) s.heap H locs → ∀ (ls : Array Slot), lv_has ls 5 [(0, .ref (ad (15 + 9 * cx))), (1, .int x1), (2, .int x2), (3, .int x3), (4, .int x4)] → W p l e rmX0_hang s m args below meth c H locs 0 0 (MQ below (Qvw (dC, dI) 93 ad (layX ad cy) res) args s 0 0 (WA 93 ad)) (F0 m 29 ls []) := by
    intro x1 n29
    induction n29 with
    | zero => intro σ x2 x3 x4 hf; simp [fX0_hang_L29] at hf
    | succ n29 ih29 =>
      intro σ x2 x3 x4 hf H locs hP hS ls hl
      rw [fX0_hang_L29] at hf
      refine lv_iload_n hx hb dX0_hang_29 rfl (lv_at hl 3 rfl) ?_
      refine lv_iconst (v := (-1)) hx hb dX0_hang_30 (by decide) ?_
      refine lv_icmp_eq (tgt := 80) hx hb dX0_hang_31 (by decide) (fun c12 => ?_) (fun c12 => ?_)
      · have hf := (if_pos c12).symm.trans hf
        exact kB80 σ x1 x2 x4 hf H locs hP hS ls (lv_sub hl [0, 1, 2, 4] rfl)
      · have hf := (if_neg c12).symm.trans hf
        refine lv_iload hx hb dX0_hang_34 (lv_at hl 4 rfl) ?_
        refine lv_bipush (v := 80) hx hb dX0_hang_36 (by decide) ?_
        refine lv_icmp_ge (tgt := 80) hx hb dX0_hang_38 (by decide) (fun c13 => ?_) (fun c13 => ?_)
        · have hf := (if_pos c13).symm.trans hf
          exact kB80 σ x1 x2 x4 hf H locs hP hS ls (lv_sub hl [0, 1, 2, 4] rfl)
        · have hf := (if_neg c13).symm.trans hf
          refine lv_iload_n hx hb dX0_hang_41 rfl (lv_at hl 3 rfl) ?_
          refine lv_istore_n (lv' := [(2, .int x3), (0, .ref (ad (15 + 9 * cx))), (1, .int x1), (3, .int x3), (4, .int x4)]) hx hb dX0_hang_42 rfl hl (by decide) rfl (fun ls hl => ?_)
          refine lv_aload_n hx hb dX0_hang_43 rfl (lv_at hl 1 rfl) ?_
          refine xt_get (ci := 0) (C := RX0) (T := TX0) (n := 10) (v := .ref (ad ((15 + 9 * cx) + 2))) hx hb hts iX0_hang_X0 hown hK hP (15 + 9 * cx) (by omega) (LX0_obj ad cy cx hcx _) rfl 1 (by decide) w3 rfl dX0_hang_44 ?_
          refine lv_iload_n hx hb dX0_hang_47 rfl (lv_at hl 2 rfl) ?_
          obtain ⟨g14, hf⟩ := gd_some hf
          refine xt_iald hx hb hK hP ((15 + 9 * cx) + 2) (by omega) 0 (LX0_point ad cy cx hcx _) rfl g14 dX0_hang_48 ?_
          refine lv_aload_n hx hb dX0_hang_49 rfl (lv_at hl 1 rfl) ?_
          refine xt_get (ci := 0) (C := RX0) (T := TX0) (n := 10) (v := .ref (ad ((15 + 9 * cx) + 2))) hx hb hts iX0_hang_X0 hown hK hP (15 + 9 * cx) (by omega) (LX0_obj ad cy cx hcx _) rfl 1 (by decide) w3 rfl dX0_hang_50 ?_
          refine lv_iload_n hx hb dX0_hang_53 rfl (lv_at hl 0 rfl) ?_
          obtain ⟨g15, hf⟩ := gd_some hf
          refine xt_iald hx hb hK hP ((15 + 9 * cx) + 2) (by omega) 0 (LX0_point ad cy cx hcx _) rfl g15 dX0_hang_54 ?_
          refine lv_icmp_ge (tgt := 67) hx hb dX0_hang_55 (by decide) (fun c16 => ?_) (fun c16 => ?_)
          · have hf := (if_pos c16).symm.trans hf
            refine lv_aload_n hx hb dX0_hang_67 rfl (lv_at hl 1 rfl) ?_
            refine xt_get (ci := 0) (C := RX0) (T := TX0) (n := 10) (v := .ref (ad ((15 + 9 * cx) + 8))) hx hb hts iX0_hang_X0 hown hK hP (15 + 9 * cx) (by omega) (LX0_obj ad cy cx hcx _) rfl 9 (by decide) w2 rfl dX0_hang_68 ?_
            refine lv_iload_n hx hb dX0_hang_71 rfl (lv_at hl 0 rfl) ?_
            obtain ⟨g17, hf⟩ := gd_some hf
            refine xt_iald hx hb hK hP ((15 + 9 * cx) + 8) (by omega) 0 (LX0_right ad cy cx hcx _) rfl g17 dX0_hang_72 ?_
            refine lv_topi (fun v18 ev18 => ?_)
            have hf := nm_to hf ev18
            refine lv_istore_n (lv' := [(3, .int v18), (2, .int x3), (0, .ref (ad (15 + 9 * cx))), (1, .int x1), (4, .int x4)]) hx hb dX0_hang_73 rfl hl (by decide) rfl (fun ls hl => ?_)
            obtain ⟨v19, ev19⟩ : ∃ y : Int32, y = x4 + 1 := ⟨_, rfl⟩
            have hf := nm_to hf ev19
            refine lv_iinc (v := v19) (lv' := [(4, .int v19), (3, .int v18), (2, .int x3), (0, .ref (ad (15 + 9 * cx))), (1, .int x1)]) hx hb dX0_hang_74 hl (k := 4) rfl (by rw [ev19]; rfl) (by decide) rfl (fun ls hl => ?_)
            refine lv_goto (tgt := 29) hx hb dX0_hang_77 (by decide) ?_
            exact ih29 σ x3 v18 v19 hf H locs hP hS ls (lv_sub hl [3, 4, 2, 1, 0] rfl)
          · have hf := (if_neg c16).symm.trans hf
            refine lv_aload_n hx hb dX0_hang_58 rfl (lv_at hl 1 rfl) ?_
            refine xt_get (ci := 0) (C := RX0) (T := TX0) (n := 10) (v := .ref (ad ((15 + 9 * cx) + 7))) hx hb hts iX0_hang_X0 hown hK hP (15 + 9 * cx) (by omega) (LX0_obj ad cy cx hcx _) rfl 8 (by decide) w1 rfl dX0_hang_59 ?_
            refine lv_iload_n hx hb dX0_hang_62 rfl (lv_at hl 0 rfl) ?_
            obtain ⟨g20, hf⟩ := gd_some hf
            refine xt_iald hx hb hK hP ((15 + 9 * cx) + 7) (by omega) 0 (LX0_left ad cy cx hcx _) rfl g20 dX0_hang_63 ?_
            refine lv_goto (tgt := 73) hx hb dX0_hang_64 (by decide) ?_
            refine lv_topi (fun v21 ev21 => ?_)
            have hf := nm_to hf ev21
            refine lv_istore_n (lv' := [(3, .int v21), (2, .int x3), (0, .ref (ad (15 + 9 * cx))), (1, .int x1), (4, .int x4)]) hx hb dX0_hang_73 rfl hl (by decide) rfl (fun ls hl => ?_)
            obtain ⟨v22, ev22⟩ : ∃ y : Int32, y = x4 + 1 := ⟨_, rfl⟩
            have hf := nm_to hf ev22
            refine lv_iinc (v := v22) (lv' := [(4, .int v22), (3, .int v21), (2, .int x3), (0, .ref (ad (15 + 9 * cx))), (1, .int x1)]) hx hb dX0_hang_74 hl (k := 4) rfl (by rw [ev22]; rfl) (by decide) rfl (fun ls hl => ?_)
            refine lv_goto (tgt := 29) hx hb dX0_hang_77 (by decide) ?_
            exact ih29 σ x3 v21 v22 hf H locs hP hS ls (lv_sub hl [3, 4, 2, 1, 0] rfl)
  have kB25 : ∀ (σ : St) (x1 : Int32) (x2 : Int32) (t0 : Int32), fX0_hang_B25 cx σ x1 x2 t0 = some res → ∀ (H : Heap) (locs : List Loc), va_P (dC, dI) vwCl (wd 93 ad (layX ad cy) σ) H → va_S (WA 93 ad) s.heap H locs → ∀ (ls : Array Slot), lv_has ls 5 [(0, .ref (ad (15 + 9 * cx))), (1, .int x1), (2, .int x2)] → W p l e rmX0_hang s m args below meth c H locs 0 0 (MQ below (Qvw (dC, dI) 93 ad (layX ad cy) res) args s 0 0 (WA 93 ad)) (F0 m 25 ls [.int t0]) := by
    intro σ x1 x2 t0 hf H locs hP hS ls hl
    unfold fX0_hang_B25 at hf
    refine lv_istore_n (lv' := [(3, .int t0), (0, .ref (ad (15 + 9 * cx))), (1, .int x1), (2, .int x2)]) hx hb dX0_hang_25 rfl hl (by decide) rfl (fun ls hl => ?_)
    refine lv_iconst (v := 0) hx hb dX0_hang_26 (by decide) ?_
    refine lv_istore (lv' := [(4, .int 0), (3, .int t0), (0, .ref (ad (15 + 9 * cx))), (1, .int x1), (2, .int x2)]) hx hb dX0_hang_27 hl (by decide) rfl (fun ls hl => ?_)
    exact loop29 x1 1000 σ x2 t0 0 hf H locs hP hS ls (lv_sub hl [2, 3, 4, 1, 0] rfl)
  unfold fX0_hang at hf
  obtain ⟨H, eH⟩ : ∃ H : Heap, H = s.heap := ⟨_, rfl⟩
  rw [← eH] at hP
  have hS : va_S (WA 93 ad) s.heap H [] := by rw [eH]; exact hS
  suffices K : W p l e rmX0_hang s m args below meth c H [] 0 0 (MQ below (Qvw (dC, dI) 93 ad (layX ad cy) res) args s 0 0 (WA 93 ad)) (F0 m 0 ls []) by rw [eH] at K; exact K
  clear eH
  obtain ⟨locs, elocs⟩ : ∃ z : List Loc, z = [] := ⟨_, rfl⟩
  rw [← elocs] at hS ⊢
  refine lv_aload_n hx hb dX0_hang_0 rfl (lv_at hl 0 rfl) ?_
  refine xt_get (ci := 0) (C := RX0) (T := TX0) (n := 10) (v := .ref (ad ((15 + 9 * cx) + 7))) hx hb hts iX0_hang_X0 hown hK hP (15 + 9 * cx) (by omega) (LX0_obj ad cy cx hcx _) rfl 8 (by decide) w1 rfl dX0_hang_1 ?_
  refine lv_iload_n hx hb dX0_hang_4 rfl (lv_at hl 1 rfl) ?_
  refine lv_iconst (v := (-1)) hx hb dX0_hang_5 (by decide) ?_
  obtain ⟨g23, hf⟩ := gd_some hf
  refine xt_iast hx hb hK hP hJ hS ((15 + 9 * cx) + 7) (by omega) 0 (LX0_left ad cy cx hcx) rfl g23 dX0_hang_6 (fun H locs hP hS => ?_)
  obtain ⟨σ24, eσ24⟩ : ∃ z : St, z = su σ ((15 + 9 * cx) + 7) a1.toNatClampNeg (-1) := ⟨_, rfl⟩
  rw [← eσ24] at hP
  have hf := nm_to hf eσ24
  refine lv_aload_n hx hb dX0_hang_7 rfl (lv_at hl 0 rfl) ?_
  refine xt_get (ci := 0) (C := RX0) (T := TX0) (n := 10) (v := .ref (ad ((15 + 9 * cx) + 8))) hx hb hts iX0_hang_X0 hown hK hP (15 + 9 * cx) (by omega) (LX0_obj ad cy cx hcx _) rfl 9 (by decide) w2 rfl dX0_hang_8 ?_
  refine lv_iload_n hx hb dX0_hang_11 rfl (lv_at hl 1 rfl) ?_
  refine lv_iconst (v := (-1)) hx hb dX0_hang_12 (by decide) ?_
  obtain ⟨g25, hf⟩ := gd_some hf
  refine xt_iast hx hb hK hP hJ hS ((15 + 9 * cx) + 8) (by omega) 0 (LX0_right ad cy cx hcx) rfl g25 dX0_hang_13 (fun H locs hP hS => ?_)
  obtain ⟨σ26, eσ26⟩ : ∃ z : St, z = su σ24 ((15 + 9 * cx) + 8) a1.toNatClampNeg (-1) := ⟨_, rfl⟩
  rw [← eσ26] at hP
  have hf := nm_to hf eσ26
  refine lv_iconst (v := (-1)) hx hb dX0_hang_14 (by decide) ?_
  refine lv_istore_n (lv' := [(2, .int (-1)), (0, .ref (ad (15 + 9 * cx))), (1, .int a1)]) hx hb dX0_hang_15 rfl hl (by decide) rfl (fun ls hl => ?_)
  refine lv_iload_n hx hb dX0_hang_16 rfl (lv_at hl 2 rfl) ?_
  refine lv_if_ne (tgt := 24) hx hb dX0_hang_17 (by decide) (fun c27 => ?_) (fun c27 => ?_)
  · have hf := (if_neg c27).symm.trans hf
    refine lv_iconst (v := 0) hx hb dX0_hang_24 (by decide) ?_
    exact kB25 σ26 a1 (-1) 0 hf H locs hP hS ls (lv_sub hl [1, 2, 0] rfl)
  · have hf := (if_pos c27).symm.trans hf
    refine lv_iconst (v := (-1)) hx hb dX0_hang_20 (by decide) ?_
    refine lv_goto (tgt := 25) hx hb dX0_hang_21 (by decide) ?_
    exact kB25 σ26 a1 (-1) (-1) hf H locs hP hS ls (lv_sub hl [1, 2, 0] rfl)
def fX0_placeNodes_B50 (cx : Nat) (σ : St) : Option St :=
  some σ
def fX0_placeNodes_L4 (cx : Nat) (K4_50 : St → Option St) : Nat → St → Int32 → Int32 → Option St
  | 0, _, _, _ => none
  | n4 + 1, σ, x1, x2 => if (360 : Int32) ≤ x2 then (K4_50 σ) else (if (σ (15 + 9 * cx) 5) ≤ x1 then (K4_50 σ) else (gd (okI x2 360) <| if (σ ((15 + 9 * cx) + 6) x2.toNatClampNeg) = (-1 : Int32) then (nm (x2 + 1) fun v5 => (fX0_placeNodes_L4 cx K4_50 n4) σ x1 v5) else (gd (okI x2 360) <| gd (okI x1 80) <| nm (su σ ((15 + 9 * cx) + 1) x1.toNatClampNeg (σ ((15 + 9 * cx) + 6) x2.toNatClampNeg)) fun σ8 => nm (x1 + 1) fun v9 => nm (x2 + 1) fun v10 => (fX0_placeNodes_L4 cx K4_50 n4) σ8 v9 v10)))
def fX0_placeNodes (cx : Nat) (σ : St) : Option St :=
  fX0_placeNodes_L4 cx (fun σ => fX0_placeNodes_B50 cx σ) 1000 σ 0 0
abbrev rmX0_placeNodes : Room := { frames := 0, cells := 0, slots := 0, locals := 0 }
theorem dmX0_placeNodes : yX0_placeNodes.cls = RX0 ∧ yX0_placeNodes.cls ≠ "java/lang/invoke/MethodHandle" ∧ yX0_placeNodes.cls ≠ "java/lang/invoke/VarHandle" ∧ (parseMethodDescriptor yX0_placeNodes.desc).map (fun d => d.parameters.length) = some 0 := by decide +kernel
theorem iX0_placeNodes_X0 : ∀ w ∈ wsX00, w ∈ wsX0_placeNodes := fun w h => List.mem_cons_of_mem _ (List.mem_append_right _ (h))
set_option maxHeartbeats 8000000 in
set_option maxRecDepth 100000 in
theorem mX0_placeNodes (l : Launch) (dC : Nat → ClassId) (dI : Nat → Nat → Nat) (ad : Nat → Nat) (cy : Nat → ClassId) (hJ : WJ 93 ad) (cx : Nat) (hcx : cx < 2) (σ : St) (res : St) (hf : fX0_placeNodes cx σ = some res) : CMv l yX0_placeNodes wsX0_placeNodes rmX0_placeNodes (dC, dI) (tysX cy) 93 ad (layX ad cy) [.ref (ad (15 + 9 * cx))] σ res := by
  refine Met.ofW (cc := cX0_placeNodes) (maxL := 3) (ret := none) (by decide) rfl ?_
  intro p e s m args below meth c s₁ B hml hv
  obtain ⟨hargs, hP, hK⟩ := hv
  have hx := B.exec
  have hb := B.bytes
  have hr := B.returns
  have hts := atoms_spec (ws := wsX0_placeNodes) B.pre
  have hown : s.vm.findClass RX0 = some m.cls := findClass_of_methodNamed B.named
  have hlocks := B.notSynchronized
  have w1 := hts (.fieldLink RX0 27 "PierRings$Circle" "count" "I") (List.mem_of_getElem? (i := 1) rfl)
  have w2 := hts (.fieldLink RX0 34 "PierRings$Circle" "nodeAt" "[I") (List.mem_of_getElem? (i := 2) rfl)
  have w3 := hts (.fieldLink RX0 9 "PierRings$Circle" "nodeByPlace" "[I") (List.mem_of_getElem? (i := 3) rfl)
  have hS : va_S (WA 93 ad) s.heap s.heap [] := va_S.rf
  have hfr : entryFrame m args 3 = F0 m 0 ((lg_sl [.ref (ad (15 + 9 * cx))] ++ List.replicate (3 - (lg_sl [.ref (ad (15 + 9 * cx))]).length) Slot.unset).toArray) [] := by rw [hargs]; exact lg_entry_eq _ _ _
  rw [hfr]
  have hl := lv_entry ([.ref (ad (15 + 9 * cx))]) (n := 3) (Nat.le_of_ble_eq_true rfl)
  generalize (lg_sl [.ref (ad (15 + 9 * cx))] ++ List.replicate (3 - (lg_sl [.ref (ad (15 + 9 * cx))]).length) Slot.unset).toArray = ls at hl ⊢
  have hl : lv_has ls 3 [(0, .ref (ad (15 + 9 * cx)))] := hl
  clear hfr hargs B
  show W p l e rmX0_placeNodes s m args below meth c s.heap [] 0 0 (MQ below (Qvw (dC, dI) 93 ad (layX ad cy) res) args s 0 0 (WA 93 ad)) (F0 m 0 ls [])
  have kB50 : ∀ (σ : St), fX0_placeNodes_B50 cx σ = some res → ∀ (H : Heap) (locs : List Loc), va_P (dC, dI) vwCl (wd 93 ad (layX ad cy) σ) H → va_S (WA 93 ad) s.heap H locs → ∀ (ls : Array Slot), lv_has ls 3 [] → W p l e rmX0_placeNodes s m args below meth c H locs 0 0 (MQ below (Qvw (dC, dI) 93 ad (layX ad cy) res) args s 0 0 (WA 93 ad)) (F0 m 50 ls []) := by
    intro σ hf H locs hP hS ls hl
    unfold fX0_placeNodes_B50 at hf
    exact xt_vret hx hb hr hP hS (Option.some.inj hf) dX0_placeNodes_50 hlocks
  have loop4 : ∀ (n4 : Nat) (σ : St) (x1 : Int32) (x2 : Int32), fX0_placeNodes_L4 cx (fun σ => fX0_placeNodes_B50 cx σ) n4 σ x1 x2 = some res → ∀ (H : Heap) (locs : List Loc), va_P (dC, dI) vwCl (wd 93 ad (layX ad cy) σ) H → va_S (WA 93 ad) s.heap H locs → ∀ (ls : Array Slot), lv_has ls 3 [(0, .ref (ad (15 + 9 * cx))), (1, .int x1), (2, .int x2)] → W p l e rmX0_placeNodes s m args below meth c H locs 0 0 (MQ below (Qvw (dC, dI) 93 ad (layX ad cy) res) args s 0 0 (WA 93 ad)) (F0 m 4 ls []) := by
    intro n4
    induction n4 with
    | zero => intro σ x1 x2 hf; simp [fX0_placeNodes_L4] at hf
    | succ n4 ih4 =>
      intro σ x1 x2 hf H locs hP hS ls hl
      rw [fX0_placeNodes_L4] at hf
      refine lv_iload_n hx hb dX0_placeNodes_4 rfl (lv_at hl 2 rfl) ?_
      refine lv_sipush (v := 360) hx hb dX0_placeNodes_5 (by decide) ?_
      refine lv_icmp_ge (tgt := 50) hx hb dX0_placeNodes_8 (by decide) (fun c1 => ?_) (fun c1 => ?_)
      · have hf := (if_pos c1).symm.trans hf
        exact kB50 σ hf H locs hP hS ls (lv_sub hl [] rfl)
      · have hf := (if_neg c1).symm.trans hf
        refine lv_iload_n hx hb dX0_placeNodes_11 rfl (lv_at hl 1 rfl) ?_
        refine lv_aload_n hx hb dX0_placeNodes_12 rfl (lv_at hl 0 rfl) ?_
        refine xt_get (ci := 0) (C := RX0) (T := TX0) (n := 10) (v := .int (σ (15 + 9 * cx) 5)) hx hb hts iX0_placeNodes_X0 hown hK hP (15 + 9 * cx) (by omega) (LX0_obj ad cy cx hcx _) rfl 5 (by decide) w1 rfl dX0_placeNodes_13 ?_
        refine lv_icmp_ge (tgt := 50) hx hb dX0_placeNodes_16 (by decide) (fun c2 => ?_) (fun c2 => ?_)
        · have hf := (if_pos c2).symm.trans hf
          exact kB50 σ hf H locs hP hS ls (lv_sub hl [] rfl)
        · have hf := (if_neg c2).symm.trans hf
          refine lv_aload_n hx hb dX0_placeNodes_19 rfl (lv_at hl 0 rfl) ?_
          refine xt_get (ci := 0) (C := RX0) (T := TX0) (n := 10) (v := .ref (ad ((15 + 9 * cx) + 6))) hx hb hts iX0_placeNodes_X0 hown hK hP (15 + 9 * cx) (by omega) (LX0_obj ad cy cx hcx _) rfl 7 (by decide) w2 rfl dX0_placeNodes_20 ?_
          refine lv_iload_n hx hb dX0_placeNodes_23 rfl (lv_at hl 2 rfl) ?_
          obtain ⟨g3, hf⟩ := gd_some hf
          refine xt_iald hx hb hK hP ((15 + 9 * cx) + 6) (by omega) 0 (LX0_nodeAt ad cy cx hcx _) rfl g3 dX0_placeNodes_24 ?_
          refine lv_iconst (v := (-1)) hx hb dX0_placeNodes_25 (by decide) ?_
          refine lv_icmp_eq (tgt := 44) hx hb dX0_placeNodes_26 (by decide) (fun c4 => ?_) (fun c4 => ?_)
          · have hf := (if_pos c4).symm.trans hf
            obtain ⟨v5, ev5⟩ : ∃ y : Int32, y = x2 + 1 := ⟨_, rfl⟩
            have hf := nm_to hf ev5
            refine lv_iinc (v := v5) (lv' := [(2, .int v5), (0, .ref (ad (15 + 9 * cx))), (1, .int x1)]) hx hb dX0_placeNodes_44 hl (k := 2) rfl (by rw [ev5]; rfl) (by decide) rfl (fun ls hl => ?_)
            refine lv_goto (tgt := 4) hx hb dX0_placeNodes_47 (by decide) ?_
            exact ih4 σ x1 v5 hf H locs hP hS ls (lv_sub hl [1, 2, 0] rfl)
          · have hf := (if_neg c4).symm.trans hf
            refine lv_aload_n hx hb dX0_placeNodes_29 rfl (lv_at hl 0 rfl) ?_
            refine xt_get (ci := 0) (C := RX0) (T := TX0) (n := 10) (v := .ref (ad ((15 + 9 * cx) + 1))) hx hb hts iX0_placeNodes_X0 hown hK hP (15 + 9 * cx) (by omega) (LX0_obj ad cy cx hcx _) rfl 0 (by decide) w3 rfl dX0_placeNodes_30 ?_
            refine lv_iload_n hx hb dX0_placeNodes_33 rfl (lv_at hl 1 rfl) ?_
            refine lv_aload_n hx hb dX0_placeNodes_34 rfl (lv_at hl 0 rfl) ?_
            refine xt_get (ci := 0) (C := RX0) (T := TX0) (n := 10) (v := .ref (ad ((15 + 9 * cx) + 6))) hx hb hts iX0_placeNodes_X0 hown hK hP (15 + 9 * cx) (by omega) (LX0_obj ad cy cx hcx _) rfl 7 (by decide) w2 rfl dX0_placeNodes_35 ?_
            refine lv_iload_n hx hb dX0_placeNodes_38 rfl (lv_at hl 2 rfl) ?_
            obtain ⟨g6, hf⟩ := gd_some hf
            refine xt_iald hx hb hK hP ((15 + 9 * cx) + 6) (by omega) 0 (LX0_nodeAt ad cy cx hcx _) rfl g6 dX0_placeNodes_39 ?_
            obtain ⟨g7, hf⟩ := gd_some hf
            refine xt_iast hx hb hK hP hJ hS ((15 + 9 * cx) + 1) (by omega) 0 (LX0_nodeByPlace ad cy cx hcx) rfl g7 dX0_placeNodes_40 (fun H locs hP hS => ?_)
            obtain ⟨σ8, eσ8⟩ : ∃ z : St, z = su σ ((15 + 9 * cx) + 1) x1.toNatClampNeg (σ ((15 + 9 * cx) + 6) x2.toNatClampNeg) := ⟨_, rfl⟩
            rw [← eσ8] at hP
            have hf := nm_to hf eσ8
            obtain ⟨v9, ev9⟩ : ∃ y : Int32, y = x1 + 1 := ⟨_, rfl⟩
            have hf := nm_to hf ev9
            refine lv_iinc (v := v9) (lv' := [(1, .int v9), (0, .ref (ad (15 + 9 * cx))), (2, .int x2)]) hx hb dX0_placeNodes_41 hl (k := 1) rfl (by rw [ev9]; rfl) (by decide) rfl (fun ls hl => ?_)
            obtain ⟨v10, ev10⟩ : ∃ y : Int32, y = x2 + 1 := ⟨_, rfl⟩
            have hf := nm_to hf ev10
            refine lv_iinc (v := v10) (lv' := [(2, .int v10), (1, .int v9), (0, .ref (ad (15 + 9 * cx)))]) hx hb dX0_placeNodes_44 hl (k := 2) rfl (by rw [ev10]; rfl) (by decide) rfl (fun ls hl => ?_)
            refine lv_goto (tgt := 4) hx hb dX0_placeNodes_47 (by decide) ?_
            exact ih4 σ8 v9 v10 hf H locs hP hS ls (lv_sub hl [2, 1, 0] rfl)
  unfold fX0_placeNodes at hf
  obtain ⟨H, eH⟩ : ∃ H : Heap, H = s.heap := ⟨_, rfl⟩
  rw [← eH] at hP
  have hS : va_S (WA 93 ad) s.heap H [] := by rw [eH]; exact hS
  suffices K : W p l e rmX0_placeNodes s m args below meth c H [] 0 0 (MQ below (Qvw (dC, dI) 93 ad (layX ad cy) res) args s 0 0 (WA 93 ad)) (F0 m 0 ls []) by rw [eH] at K; exact K
  clear eH
  obtain ⟨locs, elocs⟩ : ∃ z : List Loc, z = [] := ⟨_, rfl⟩
  rw [← elocs] at hS ⊢
  refine lv_iconst (v := 0) hx hb dX0_placeNodes_0 (by decide) ?_
  refine lv_istore_n (lv' := [(1, .int 0), (0, .ref (ad (15 + 9 * cx)))]) hx hb dX0_placeNodes_1 rfl hl (by decide) rfl (fun ls hl => ?_)
  refine lv_iconst (v := 0) hx hb dX0_placeNodes_2 (by decide) ?_
  refine lv_istore_n (lv' := [(2, .int 0), (1, .int 0), (0, .ref (ad (15 + 9 * cx)))]) hx hb dX0_placeNodes_3 rfl hl (by decide) rfl (fun ls hl => ?_)
  exact loop4 1000 σ 0 0 hf H locs hP hS ls (lv_sub hl [2, 1, 0] rfl)
def fX0_build_B148 (cx : Nat) (h : Nat) (σ : St) : Option St :=
  bd (fX0_placeNodes cx σ) fun r1 => some r1
def fX0_build_B142 (cx : Nat) (h : Nat) (G20 : St → Int32 → Option St) (K20_148 : St → Option St) (σ : St) (x2 : Int32) : Option St :=
  nm (x2 + 1) fun v2 => G20 σ v2
def fX0_build_L37 (cx : Nat) (h : Nat) (x2 : Int32) (x3 : Int32) (K37_142 : St → Option St) : Nat → St → Int32 → Option St
  | 0, _, _ => none
  | n37 + 1, σ, x4 => if x3 ≤ x4 then (K37_142 σ) else (if (80 : Int32) ≤ (σ (15 + 9 * cx) 5) then (K37_142 σ) else (gd (okI (σ (15 + 9 * cx) 5) 80) <| nm (su σ ((15 + 9 * cx) + 2) (σ (15 + 9 * cx) 5).toNatClampNeg ((8 * (jrem ((17 * x2) + (7 * x4)) 45)) + x2)) fun σ6 => gd (okI (σ6 (15 + 9 * cx) 5) 80) <| nm (su σ6 ((15 + 9 * cx) + 3) (σ6 (15 + 9 * cx) 5).toNatClampNeg x2) fun σ8 => gd (okI (σ8 (15 + 9 * cx) 5) 80) <| nm (su σ8 ((15 + 9 * cx) + 4) (σ8 (15 + 9 * cx) 5).toNatClampNeg x4) fun σ10 => gd (okI (σ10 (15 + 9 * cx) 5) 80) <| gd (okI (σ10 ((15 + 9 * cx) + 2) (σ10 (15 + 9 * cx) 5).toNatClampNeg) 360) <| nm (su σ10 ((15 + 9 * cx) + 6) (σ10 ((15 + 9 * cx) + 2) (σ10 (15 + 9 * cx) 5).toNatClampNeg).toNatClampNeg (σ10 (15 + 9 * cx) 5)) fun σ13 => bd (fX0_hang cx σ13 (σ13 (15 + 9 * cx) 5)) fun r14 => nm (su r14 (15 + 9 * cx) 5 ((r14 (15 + 9 * cx) 5) + 1)) fun σ15 => nm (x4 + 1) fun v16 => (fX0_build_L37 cx h x2 x3 K37_142 n37) σ15 v16))
def fX0_build_L20 (cx : Nat) (h : Nat) (K20_148 : St → Option St) : Nat → St → Int32 → Option St
  | 0, _, _ => none
  | n20 + 1, σ, x2 => if (σ (33 + 5 * h) 4) ≤ x2 then (K20_148 σ) else (bd (fX1_pointsOf h σ x2) fun r18 => fX0_build_L37 cx h x2 r18 (fun σ => fX0_build_B142 cx h (fX0_build_L20 cx h K20_148 n20) K20_148 σ x2) 1000 σ 0)
def fX0_build (cx : Nat) (h : Nat) (σ : St) : Option St :=
  nm (sr σ ((15 + 9 * cx) + 6) (fl 360 (-1) (σ ((15 + 9 * cx) + 6)))) fun σ19 => nm (su σ19 (15 + 9 * cx) 5 0) fun σ20 => nm (su σ20 (15 + 9 * cx) 6 0) fun σ21 => fX0_build_L20 cx h (fun σ => fX0_build_B148 cx h σ) 1000 σ21 0
abbrev rmX0_build : Room := { frames := 2, cells := 0, slots := 0, locals := 88 }
theorem dmX0_build : yX0_build.cls = RX0 ∧ yX0_build.cls ≠ "java/lang/invoke/MethodHandle" ∧ yX0_build.cls ≠ "java/lang/invoke/VarHandle" ∧ (parseMethodDescriptor yX0_build.desc).map (fun d => d.parameters.length) = some 1 := by decide +kernel
theorem iX0_build_X0 : ∀ w ∈ wsX00, w ∈ wsX0_build := fun w h => List.mem_cons_of_mem _ (List.mem_append_left _ (List.mem_append_right _ (h)))
theorem iX0_build_X1 : ∀ w ∈ wsX10, w ∈ wsX0_build := fun w h => List.mem_cons_of_mem _ (List.mem_append_right _ (h))
set_option maxHeartbeats 8000000 in
set_option maxRecDepth 100000 in
theorem mX0_build (l : Launch) (dC : Nat → ClassId) (dI : Nat → Nat → Nat) (ad : Nat → Nat) (cy : Nat → ClassId) (hJ : WJ 93 ad) (cx : Nat) (hcx : cx < 2) (h : Nat) (hh : h < 12) (σ : St) (res : St) (hf : fX0_build cx h σ = some res) : CMv l yX0_build wsX0_build rmX0_build (dC, dI) (tysX cy) 93 ad (layX ad cy) [.ref (ad (15 + 9 * cx)), .ref (ad (33 + 5 * h))] σ res := by
  refine Met.ofW (cc := cX0_build) (maxL := 5) (ret := none) (by decide) rfl ?_
  intro p e s m args below meth c s₁ B hml hv
  obtain ⟨hargs, hP, hK⟩ := hv
  have hx := B.exec
  have hb := B.bytes
  have hr := B.returns
  have hts := atoms_spec (ws := wsX0_build) B.pre
  have hown : s.vm.findClass RX0 = some m.cls := findClass_of_methodNamed B.named
  have hlocks := B.notSynchronized
  have w1 := hts (.fieldLink RX0 34 "PierRings$Circle" "nodeAt" "[I") (List.mem_of_getElem? (i := 1) rfl)
  have w2 := hts (.fieldLink RX0 27 "PierRings$Circle" "count" "I") (List.mem_of_getElem? (i := 2) rfl)
  have w3 := hts (.fieldLink RX0 31 "PierRings$Circle" "height" "I") (List.mem_of_getElem? (i := 3) rfl)
  have w4 := hts (.fieldLink RX0 49 "PierRings$Harbour" "piers" "I") (List.mem_of_getElem? (i := 4) rfl)
  have w5 := hts (.fieldLink RX0 15 "PierRings$Circle" "point" "[I") (List.mem_of_getElem? (i := 5) rfl)
  have w6 := hts (.fieldLink RX0 18 "PierRings$Circle" "owner" "[I") (List.mem_of_getElem? (i := 6) rfl)
  have w7 := hts (.fieldLink RX0 21 "PierRings$Circle" "number" "[I") (List.mem_of_getElem? (i := 7) rfl)
  have hS : va_S (WA 93 ad) s.heap s.heap [] := va_S.rf
  have hfr : entryFrame m args 5 = F0 m 0 ((lg_sl [.ref (ad (15 + 9 * cx)), .ref (ad (33 + 5 * h))] ++ List.replicate (5 - (lg_sl [.ref (ad (15 + 9 * cx)), .ref (ad (33 + 5 * h))]).length) Slot.unset).toArray) [] := by rw [hargs]; exact lg_entry_eq _ _ _
  rw [hfr]
  have hl := lv_entry ([.ref (ad (15 + 9 * cx)), .ref (ad (33 + 5 * h))]) (n := 5) (Nat.le_of_ble_eq_true rfl)
  generalize (lg_sl [.ref (ad (15 + 9 * cx)), .ref (ad (33 + 5 * h))] ++ List.replicate (5 - (lg_sl [.ref (ad (15 + 9 * cx)), .ref (ad (33 + 5 * h))]).length) Slot.unset).toArray = ls at hl ⊢
  have hl : lv_has ls 5 [(0, .ref (ad (15 + 9 * cx))), (1, .ref (ad (33 + 5 * h)))] := hl
  clear hfr hargs B
  show W p l e rmX0_build s m args below meth c s.heap [] 0 0 (MQ below (Qvw (dC, dI) 93 ad (layX ad cy) res) args s 0 0 (WA 93 ad)) (F0 m 0 ls [])
  have kB148 : ∀ (σ : St), fX0_build_B148 cx h σ = some res → ∀ (H : Heap) (locs : List Loc), va_P (dC, dI) vwCl (wd 93 ad (layX ad cy) σ) H → va_S (WA 93 ad) s.heap H locs → ∀ (ls : Array Slot), lv_has ls 5 [(0, .ref (ad (15 + 9 * cx)))] → W p l e rmX0_build s m args below meth c H locs 0 0 (MQ below (Qvw (dC, dI) 93 ad (layX ad cy) res) args s 0 0 (WA 93 ad)) (F0 m 148 ls []) := by
    intro σ hf H locs hP hS ls hl
    unfold fX0_build_B148 at hf
    refine lv_aload_n hx hb dX0_build_148 rfl (lv_at hl 0 rfl) ?_
    obtain ⟨r1, qr1, hf⟩ := bd_some hf
    refine xt_callVv (As := []) (rest := []) (C := RX0) (ci := 0) ⟨hx, hb, hml, hown, hts⟩ (15 + 9 * cx) (mX0_placeNodes l dC dI ad cy hJ cx hcx σ r1 qr1) (cwV 0 hts gX0_build_X0_placeNodes rfl rfl rfl dmX0_placeNodes ⟨Nat.le_of_ble_eq_true rfl, Nat.le_of_ble_eq_true rfl⟩) hK hP hS (by omega) (LX0_obj ad cy cx hcx _) rfl rfl rfl hl.1 (Nat.le_of_ble_eq_true rfl) ⟨Nat.zero_le _, Nat.zero_le _⟩ dX0_build_149 (fun H locs hP hS => ?_)
    exact xt_vret hx hb hr hP hS (Option.some.inj hf) dX0_build_152 hlocks
  have loop20 : ∀ (n20 : Nat) (σ : St) (x2 : Int32), fX0_build_L20 cx h (fun σ => fX0_build_B148 cx h σ) n20 σ x2 = some res → ∀ (H : Heap) (locs : List Loc), va_P (dC, dI) vwCl (wd 93 ad (layX ad cy) σ) H → va_S (WA 93 ad) s.heap H locs → ∀ (ls : Array Slot), lv_has ls 5 [(0, .ref (ad (15 + 9 * cx))), (1, .ref (ad (33 + 5 * h))), (2, .int x2)] → W p l e rmX0_build s m args below meth c H locs 0 0 (MQ below (Qvw (dC, dI) 93 ad (layX ad cy) res) args s 0 0 (WA 93 ad)) (F0 m 20 ls []) := by
    intro n20
    induction n20 with
    | zero => intro σ x2 hf; simp [fX0_build_L20] at hf
    | succ n20 ih20 =>
      intro σ x2 hf H locs hP hS ls hl
      rw [fX0_build_L20] at hf
      have kB142 : ∀ (σ : St) (x2 : Int32), fX0_build_B142 cx h (fX0_build_L20 cx h (fun σ => fX0_build_B148 cx h σ) n20) (fun σ => fX0_build_B148 cx h σ) σ x2 = some res → ∀ (H : Heap) (locs : List Loc), va_P (dC, dI) vwCl (wd 93 ad (layX ad cy) σ) H → va_S (WA 93 ad) s.heap H locs → ∀ (ls : Array Slot), lv_has ls 5 [(0, .ref (ad (15 + 9 * cx))), (1, .ref (ad (33 + 5 * h))), (2, .int x2)] → W p l e rmX0_build s m args below meth c H locs 0 0 (MQ below (Qvw (dC, dI) 93 ad (layX ad cy) res) args s 0 0 (WA 93 ad)) (F0 m 142 ls []) := by
        intro σ x2 hf H locs hP hS ls hl
        unfold fX0_build_B142 at hf
        obtain ⟨v2, ev2⟩ : ∃ y : Int32, y = x2 + 1 := ⟨_, rfl⟩
        have hf := nm_to hf ev2
        refine lv_iinc (v := v2) (lv' := [(2, .int v2), (0, .ref (ad (15 + 9 * cx))), (1, .ref (ad (33 + 5 * h)))]) hx hb dX0_build_142 hl (k := 2) rfl (by rw [ev2]; rfl) (by decide) rfl (fun ls hl => ?_)
        refine lv_goto (tgt := 20) hx hb dX0_build_145 (by decide) ?_
        exact ih20 σ v2 hf H locs hP hS ls (lv_sub hl [1, 2, 0] rfl)
      have loop37 : ∀ (x2 : Int32) (x3 : Int32) (n37 : Nat) (σ : St) (x4 : Int32), fX0_build_L37 cx h x2 x3 (fun σ => fX0_build_B142 cx h (fX0_build_L20 cx h (fun σ => fX0_build_B148 cx h σ) n20) (fun σ => fX0_build_B148 cx h σ) σ x2) n37 σ x4 = some res → ∀ (H : Heap) (locs : List Loc), va_P (dC, dI) vwCl (wd 93 ad (layX ad cy) σ) H → va_S (WA 93 ad) s.heap H locs → ∀ (ls : Array Slot), lv_has ls 5 [(0, .ref (ad (15 + 9 * cx))), (1, .ref (ad (33 + 5 * h))), (2, .int x2), (3, .int x3), (4, .int x4)] → W p l e rmX0_build s m args below meth c H locs 0 0 (MQ below (Qvw (dC, dI) 93 ad (layX ad cy) res) args s 0 0 (WA 93 ad)) (F0 m 37 ls []) := by
        intro x2 x3 n37
        induction n37 with
        | zero => intro σ x4 hf; simp [fX0_build_L37] at hf
        | succ n37 ih37 =>
          intro σ x4 hf H locs hP hS ls hl
          rw [fX0_build_L37] at hf
          refine lv_iload hx hb dX0_build_37 (lv_at hl 4 rfl) ?_
          refine lv_iload_n hx hb dX0_build_39 rfl (lv_at hl 3 rfl) ?_
          refine lv_icmp_ge (tgt := 142) hx hb dX0_build_40 (by decide) (fun c3 => ?_) (fun c3 => ?_)
          · have hf := (if_pos c3).symm.trans hf
            exact kB142 σ x2 hf H locs hP hS ls (lv_sub hl [0, 1, 2] rfl)
          · have hf := (if_neg c3).symm.trans hf
            refine lv_aload_n hx hb dX0_build_43 rfl (lv_at hl 0 rfl) ?_
            refine xt_get (ci := 0) (C := RX0) (T := TX0) (n := 10) (v := .int (σ (15 + 9 * cx) 5)) hx hb hts iX0_build_X0 hown hK hP (15 + 9 * cx) (by omega) (LX0_obj ad cy cx hcx _) rfl 5 (by decide) w2 rfl dX0_build_44 ?_
            refine lv_bipush (v := 80) hx hb dX0_build_47 (by decide) ?_
            refine lv_icmp_ge (tgt := 142) hx hb dX0_build_49 (by decide) (fun c4 => ?_) (fun c4 => ?_)
            · have hf := (if_pos c4).symm.trans hf
              exact kB142 σ x2 hf H locs hP hS ls (lv_sub hl [0, 1, 2] rfl)
            · have hf := (if_neg c4).symm.trans hf
              refine lv_aload_n hx hb dX0_build_52 rfl (lv_at hl 0 rfl) ?_
              refine xt_get (ci := 0) (C := RX0) (T := TX0) (n := 10) (v := .ref (ad ((15 + 9 * cx) + 2))) hx hb hts iX0_build_X0 hown hK hP (15 + 9 * cx) (by omega) (LX0_obj ad cy cx hcx _) rfl 1 (by decide) w5 rfl dX0_build_53 ?_
              refine lv_aload_n hx hb dX0_build_56 rfl (lv_at hl 0 rfl) ?_
              refine xt_get (ci := 0) (C := RX0) (T := TX0) (n := 10) (v := .int (σ (15 + 9 * cx) 5)) hx hb hts iX0_build_X0 hown hK hP (15 + 9 * cx) (by omega) (LX0_obj ad cy cx hcx _) rfl 5 (by decide) w2 rfl dX0_build_57 ?_
              refine lv_bipush (v := 8) hx hb dX0_build_60 (by decide) ?_
              refine lv_bipush (v := 17) hx hb dX0_build_62 (by decide) ?_
              refine lv_iload_n hx hb dX0_build_64 rfl (lv_at hl 2 rfl) ?_
              refine lv_imul hx hb dX0_build_65 ?_
              refine lv_bipush (v := 7) hx hb dX0_build_66 (by decide) ?_
              refine lv_iload hx hb dX0_build_68 (lv_at hl 4 rfl) ?_
              refine lv_imul hx hb dX0_build_70 ?_
              refine lv_iadd hx hb dX0_build_71 ?_
              refine lv_bipush (v := 45) hx hb dX0_build_72 (by decide) ?_
              refine xt_irem hx hb dX0_build_74 (by decide) ?_
              refine lv_imul hx hb dX0_build_75 ?_
              refine lv_iload_n hx hb dX0_build_76 rfl (lv_at hl 2 rfl) ?_
              refine lv_iadd hx hb dX0_build_77 ?_
              obtain ⟨g5, hf⟩ := gd_some hf
              refine xt_iast hx hb hK hP hJ hS ((15 + 9 * cx) + 2) (by omega) 0 (LX0_point ad cy cx hcx) rfl g5 dX0_build_78 (fun H locs hP hS => ?_)
              obtain ⟨σ6, eσ6⟩ : ∃ z : St, z = su σ ((15 + 9 * cx) + 2) (σ (15 + 9 * cx) 5).toNatClampNeg ((8 * (jrem ((17 * x2) + (7 * x4)) 45)) + x2) := ⟨_, rfl⟩
              rw [← eσ6] at hP
              have hf := nm_to hf eσ6
              refine lv_aload_n hx hb dX0_build_79 rfl (lv_at hl 0 rfl) ?_
              refine xt_get (ci := 0) (C := RX0) (T := TX0) (n := 10) (v := .ref (ad ((15 + 9 * cx) + 3))) hx hb hts iX0_build_X0 hown hK hP (15 + 9 * cx) (by omega) (LX0_obj ad cy cx hcx _) rfl 2 (by decide) w6 rfl dX0_build_80 ?_
              refine lv_aload_n hx hb dX0_build_83 rfl (lv_at hl 0 rfl) ?_
              refine xt_get (ci := 0) (C := RX0) (T := TX0) (n := 10) (v := .int (σ6 (15 + 9 * cx) 5)) hx hb hts iX0_build_X0 hown hK hP (15 + 9 * cx) (by omega) (LX0_obj ad cy cx hcx _) rfl 5 (by decide) w2 rfl dX0_build_84 ?_
              refine lv_iload_n hx hb dX0_build_87 rfl (lv_at hl 2 rfl) ?_
              obtain ⟨g7, hf⟩ := gd_some hf
              refine xt_iast hx hb hK hP hJ hS ((15 + 9 * cx) + 3) (by omega) 0 (LX0_owner ad cy cx hcx) rfl g7 dX0_build_88 (fun H locs hP hS => ?_)
              obtain ⟨σ8, eσ8⟩ : ∃ z : St, z = su σ6 ((15 + 9 * cx) + 3) (σ6 (15 + 9 * cx) 5).toNatClampNeg x2 := ⟨_, rfl⟩
              rw [← eσ8] at hP
              have hf := nm_to hf eσ8
              refine lv_aload_n hx hb dX0_build_89 rfl (lv_at hl 0 rfl) ?_
              refine xt_get (ci := 0) (C := RX0) (T := TX0) (n := 10) (v := .ref (ad ((15 + 9 * cx) + 4))) hx hb hts iX0_build_X0 hown hK hP (15 + 9 * cx) (by omega) (LX0_obj ad cy cx hcx _) rfl 3 (by decide) w7 rfl dX0_build_90 ?_
              refine lv_aload_n hx hb dX0_build_93 rfl (lv_at hl 0 rfl) ?_
              refine xt_get (ci := 0) (C := RX0) (T := TX0) (n := 10) (v := .int (σ8 (15 + 9 * cx) 5)) hx hb hts iX0_build_X0 hown hK hP (15 + 9 * cx) (by omega) (LX0_obj ad cy cx hcx _) rfl 5 (by decide) w2 rfl dX0_build_94 ?_
              refine lv_iload hx hb dX0_build_97 (lv_at hl 4 rfl) ?_
              obtain ⟨g9, hf⟩ := gd_some hf
              refine xt_iast hx hb hK hP hJ hS ((15 + 9 * cx) + 4) (by omega) 0 (LX0_number ad cy cx hcx) rfl g9 dX0_build_99 (fun H locs hP hS => ?_)
              obtain ⟨σ10, eσ10⟩ : ∃ z : St, z = su σ8 ((15 + 9 * cx) + 4) (σ8 (15 + 9 * cx) 5).toNatClampNeg x4 := ⟨_, rfl⟩
              rw [← eσ10] at hP
              have hf := nm_to hf eσ10
              refine lv_aload_n hx hb dX0_build_100 rfl (lv_at hl 0 rfl) ?_
              refine xt_get (ci := 0) (C := RX0) (T := TX0) (n := 10) (v := .ref (ad ((15 + 9 * cx) + 6))) hx hb hts iX0_build_X0 hown hK hP (15 + 9 * cx) (by omega) (LX0_obj ad cy cx hcx _) rfl 7 (by decide) w1 rfl dX0_build_101 ?_
              refine lv_aload_n hx hb dX0_build_104 rfl (lv_at hl 0 rfl) ?_
              refine xt_get (ci := 0) (C := RX0) (T := TX0) (n := 10) (v := .ref (ad ((15 + 9 * cx) + 2))) hx hb hts iX0_build_X0 hown hK hP (15 + 9 * cx) (by omega) (LX0_obj ad cy cx hcx _) rfl 1 (by decide) w5 rfl dX0_build_105 ?_
              refine lv_aload_n hx hb dX0_build_108 rfl (lv_at hl 0 rfl) ?_
              refine xt_get (ci := 0) (C := RX0) (T := TX0) (n := 10) (v := .int (σ10 (15 + 9 * cx) 5)) hx hb hts iX0_build_X0 hown hK hP (15 + 9 * cx) (by omega) (LX0_obj ad cy cx hcx _) rfl 5 (by decide) w2 rfl dX0_build_109 ?_
              obtain ⟨g11, hf⟩ := gd_some hf
              refine xt_iald hx hb hK hP ((15 + 9 * cx) + 2) (by omega) 0 (LX0_point ad cy cx hcx _) rfl g11 dX0_build_112 ?_
              refine lv_aload_n hx hb dX0_build_113 rfl (lv_at hl 0 rfl) ?_
              refine xt_get (ci := 0) (C := RX0) (T := TX0) (n := 10) (v := .int (σ10 (15 + 9 * cx) 5)) hx hb hts iX0_build_X0 hown hK hP (15 + 9 * cx) (by omega) (LX0_obj ad cy cx hcx _) rfl 5 (by decide) w2 rfl dX0_build_114 ?_
              obtain ⟨g12, hf⟩ := gd_some hf
              refine xt_iast hx hb hK hP hJ hS ((15 + 9 * cx) + 6) (by omega) 0 (LX0_nodeAt ad cy cx hcx) rfl g12 dX0_build_117 (fun H locs hP hS => ?_)
              obtain ⟨σ13, eσ13⟩ : ∃ z : St, z = su σ10 ((15 + 9 * cx) + 6) (σ10 ((15 + 9 * cx) + 2) (σ10 (15 + 9 * cx) 5).toNatClampNeg).toNatClampNeg (σ10 (15 + 9 * cx) 5) := ⟨_, rfl⟩
              rw [← eσ13] at hP
              have hf := nm_to hf eσ13
              refine lv_aload_n hx hb dX0_build_118 rfl (lv_at hl 0 rfl) ?_
              refine lv_aload_n hx hb dX0_build_119 rfl (lv_at hl 0 rfl) ?_
              refine xt_get (ci := 0) (C := RX0) (T := TX0) (n := 10) (v := .int (σ13 (15 + 9 * cx) 5)) hx hb hts iX0_build_X0 hown hK hP (15 + 9 * cx) (by omega) (LX0_obj ad cy cx hcx _) rfl 5 (by decide) w2 rfl dX0_build_120 ?_
              obtain ⟨r14, qr14, hf⟩ := bd_some hf
              refine xt_callVv (As := [.int (σ13 (15 + 9 * cx) 5)]) (rest := []) (C := RX0) (ci := 0) ⟨hx, hb, hml, hown, hts⟩ (15 + 9 * cx) (mX0_hang l dC dI ad cy hJ cx hcx σ13 (σ13 (15 + 9 * cx) 5) r14 qr14) (cwV 1 hts gX0_build_X0_hang rfl rfl rfl dmX0_hang ⟨Nat.le_of_ble_eq_true rfl, Nat.le_of_ble_eq_true rfl⟩) hK hP hS (by omega) (LX0_obj ad cy cx hcx _) rfl rfl rfl hl.1 (Nat.le_of_ble_eq_true rfl) ⟨Nat.zero_le _, Nat.zero_le _⟩ dX0_build_123 (fun H locs hP hS => ?_)
              refine lv_aload_n hx hb dX0_build_126 rfl (lv_at hl 0 rfl) ?_
              refine lv_dup hx hb dX0_build_127 rfl ?_
              refine xt_get (ci := 0) (C := RX0) (T := TX0) (n := 10) (v := .int (r14 (15 + 9 * cx) 5)) hx hb hts iX0_build_X0 hown hK hP (15 + 9 * cx) (by omega) (LX0_obj ad cy cx hcx _) rfl 5 (by decide) w2 rfl dX0_build_128 ?_
              refine lv_iconst (v := 1) hx hb dX0_build_131 (by decide) ?_
              refine lv_iadd hx hb dX0_build_132 ?_
              refine xt_put (ci := 0) (C := RX0) (T := TX0) (n := 10) hx hb hts iX0_build_X0 tyX0 tyX0_ok nmX0 hown hK hP hJ hS (15 + 9 * cx) (by omega) (LX0_obj ad cy cx hcx _) rfl 5 (by decide) w2 rfl (v := ((r14 (15 + 9 * cx) 5) + 1)) rfl rfl (Nat.le_of_ble_eq_true rfl) (LX0_obj ad cy cx hcx _) dX0_build_133 (fun H locs hP hS => ?_)
              obtain ⟨σ15, eσ15⟩ : ∃ z : St, z = su r14 (15 + 9 * cx) 5 ((r14 (15 + 9 * cx) 5) + 1) := ⟨_, rfl⟩
              rw [← eσ15] at hP
              have hf := nm_to hf eσ15
              obtain ⟨v16, ev16⟩ : ∃ y : Int32, y = x4 + 1 := ⟨_, rfl⟩
              have hf := nm_to hf ev16
              refine lv_iinc (v := v16) (lv' := [(4, .int v16), (0, .ref (ad (15 + 9 * cx))), (1, .ref (ad (33 + 5 * h))), (2, .int x2), (3, .int x3)]) hx hb dX0_build_136 hl (k := 4) rfl (by rw [ev16]; rfl) (by decide) rfl (fun ls hl => ?_)
              refine lv_goto (tgt := 37) hx hb dX0_build_139 (by decide) ?_
              exact ih37 σ15 v16 hf H locs hP hS ls (lv_sub hl [1, 2, 3, 4, 0] rfl)
      refine lv_iload_n hx hb dX0_build_20 rfl (lv_at hl 2 rfl) ?_
      refine lv_aload_n hx hb dX0_build_21 rfl (lv_at hl 1 rfl) ?_
      refine xt_get (ci := 1) (C := RX1) (T := TX1) (n := 8) (v := .int (σ (33 + 5 * h) 4)) hx hb hts iX0_build_X1 hown hK hP (33 + 5 * h) (by omega) (LX1_obj ad cy h hh _) rfl 4 (by decide) w4 rfl dX0_build_22 ?_
      refine lv_icmp_ge (tgt := 148) hx hb dX0_build_25 (by decide) (fun c17 => ?_) (fun c17 => ?_)
      · have hf := (if_pos c17).symm.trans hf
        exact kB148 σ hf H locs hP hS ls (lv_sub hl [0] rfl)
      · have hf := (if_neg c17).symm.trans hf
        refine lv_aload_n hx hb dX0_build_28 rfl (lv_at hl 1 rfl) ?_
        refine lv_iload_n hx hb dX0_build_29 rfl (lv_at hl 2 rfl) ?_
        obtain ⟨r18, qr18, hf⟩ := bd_some hf
        refine xt_callVi (As := [.int x2]) (rest := []) (C := RX1) (ci := 1) ⟨hx, hb, hml, hown, hts⟩ (33 + 5 * h) (mX1_pointsOf l dC dI ad cy hJ h hh σ x2 r18 qr18) (cwV 1 hts gX0_build_X1_pointsOf rfl rfl rfl dmX1_pointsOf ⟨Nat.le_of_ble_eq_true rfl, Nat.le_of_ble_eq_true rfl⟩) hK hP hS (by omega) (LX1_obj ad cy h hh _) rfl rfl rfl hl.1 (Nat.le_of_ble_eq_true rfl) ⟨Nat.zero_le _, Nat.zero_le _⟩ dX0_build_30 (fun H locs hP hS => ?_)
        refine lv_istore_n (lv' := [(3, .int r18), (0, .ref (ad (15 + 9 * cx))), (1, .ref (ad (33 + 5 * h))), (2, .int x2)]) hx hb dX0_build_33 rfl hl (by decide) rfl (fun ls hl => ?_)
        refine lv_iconst (v := 0) hx hb dX0_build_34 (by decide) ?_
        refine lv_istore (lv' := [(4, .int 0), (3, .int r18), (0, .ref (ad (15 + 9 * cx))), (1, .ref (ad (33 + 5 * h))), (2, .int x2)]) hx hb dX0_build_35 hl (by decide) rfl (fun ls hl => ?_)
        exact loop37 x2 r18 1000 σ 0 hf H locs hP hS ls (lv_sub hl [2, 3, 4, 1, 0] rfl)
  unfold fX0_build at hf
  obtain ⟨H, eH⟩ : ∃ H : Heap, H = s.heap := ⟨_, rfl⟩
  rw [← eH] at hP
  have hS : va_S (WA 93 ad) s.heap H [] := by rw [eH]; exact hS
  suffices K : W p l e rmX0_build s m args below meth c H [] 0 0 (MQ below (Qvw (dC, dI) 93 ad (layX ad cy) res) args s 0 0 (WA 93 ad)) (F0 m 0 ls []) by rw [eH] at K; exact K
  clear eH
  obtain ⟨locs, elocs⟩ : ∃ z : List Loc, z = [] := ⟨_, rfl⟩
  rw [← elocs] at hS ⊢
  refine lv_aload_n hx hb dX0_build_0 rfl (lv_at hl 0 rfl) ?_
  refine xt_get (ci := 0) (C := RX0) (T := TX0) (n := 10) (v := .ref (ad ((15 + 9 * cx) + 6))) hx hb hts iX0_build_X0 hown hK hP (15 + 9 * cx) (by omega) (LX0_obj ad cy cx hcx _) rfl 7 (by decide) w1 rfl dX0_build_1 ?_
  refine lv_iconst (v := (-1)) hx hb dX0_build_4 (by decide) ?_
  refine xt_callSv (As := [.ref (ad ((15 + 9 * cx) + 6)), .int (-1)]) (rest := []) ⟨hx, hb, hml, hown, hts⟩ (mJ7_fill_53178 l dC dI 93 ad (layX ad cy) cy hJ ((15 + 9 * cx) + 6) (by omega) 360 (LX0_nodeAt ad cy cx hcx) (by decide) σ (-1)) (va_cwS 2 hts gX0_build_J7_fill_53178 rfl rfl rfl dmJ7_fill_53178 ⟨Nat.le_of_ble_eq_true rfl, Nat.le_of_ble_eq_true rfl⟩) hK hP hS rfl rfl hl.1 (Nat.le_of_ble_eq_true rfl) ⟨Nat.zero_le _, Nat.zero_le _⟩ dX0_build_5 (fun H locs hP hS => ?_)
  obtain ⟨σ19, eσ19⟩ : ∃ z : St, z = sr σ ((15 + 9 * cx) + 6) (fl 360 (-1) (σ ((15 + 9 * cx) + 6))) := ⟨_, rfl⟩
  rw [← eσ19] at hP
  have hf := nm_to hf eσ19
  refine lv_aload_n hx hb dX0_build_8 rfl (lv_at hl 0 rfl) ?_
  refine lv_iconst (v := 0) hx hb dX0_build_9 (by decide) ?_
  refine xt_put (ci := 0) (C := RX0) (T := TX0) (n := 10) hx hb hts iX0_build_X0 tyX0 tyX0_ok nmX0 hown hK hP hJ hS (15 + 9 * cx) (by omega) (LX0_obj ad cy cx hcx _) rfl 5 (by decide) w2 rfl (v := 0) rfl rfl (Nat.le_of_ble_eq_true rfl) (LX0_obj ad cy cx hcx _) dX0_build_10 (fun H locs hP hS => ?_)
  obtain ⟨σ20, eσ20⟩ : ∃ z : St, z = su σ19 (15 + 9 * cx) 5 0 := ⟨_, rfl⟩
  rw [← eσ20] at hP
  have hf := nm_to hf eσ20
  refine lv_aload_n hx hb dX0_build_13 rfl (lv_at hl 0 rfl) ?_
  refine lv_iconst (v := 0) hx hb dX0_build_14 (by decide) ?_
  refine xt_put (ci := 0) (C := RX0) (T := TX0) (n := 10) hx hb hts iX0_build_X0 tyX0 tyX0_ok nmX0 hown hK hP hJ hS (15 + 9 * cx) (by omega) (LX0_obj ad cy cx hcx _) rfl 6 (by decide) w3 rfl (v := 0) rfl rfl (Nat.le_of_ble_eq_true rfl) (LX0_obj ad cy cx hcx _) dX0_build_15 (fun H locs hP hS => ?_)
  obtain ⟨σ21, eσ21⟩ : ∃ z : St, z = su σ20 (15 + 9 * cx) 6 0 := ⟨_, rfl⟩
  rw [← eσ21] at hP
  have hf := nm_to hf eσ21
  refine lv_iconst (v := 0) hx hb dX0_build_18 (by decide) ?_
  refine lv_istore_n (lv' := [(2, .int 0), (0, .ref (ad (15 + 9 * cx))), (1, .ref (ad (33 + 5 * h)))]) hx hb dX0_build_19 rfl hl (by decide) rfl (fun ls hl => ?_)
  exact loop20 1000 σ21 0 hf H locs hP hS ls (lv_sub hl [1, 2, 0] rfl)
def fX0_firstInTree_B67 (cx : Nat) (σ : St) (x2 : Int32) : Option Int32 :=
  some x2
def fX0_firstInTree_L18 (cx : Nat) (σ : St) (x1 : Int32) (K18_67 : Int32 → Option Int32) : Nat → Int32 → Int32 → Int32 → Option Int32
  | 0, _, _, _ => none
  | n18 + 1, x2, x3, x4 => if (σ (15 + 9 * cx) 5) ≤ x4 then (K18_67 x2) else (if x3 = (-1 : Int32) then (K18_67 x2) else (gd (okI x3 80) <| if (σ ((15 + 9 * cx) + 2) x3.toNatClampNeg) < x1 then (gd (okI x3 80) <| nm (σ ((15 + 9 * cx) + 8) x3.toNatClampNeg) fun v6 => nm (x4 + 1) fun v7 => (fX0_firstInTree_L18 cx σ x1 K18_67 n18) x2 v6 v7) else (gd (okI x3 80) <| nm (σ ((15 + 9 * cx) + 7) x3.toNatClampNeg) fun v9 => nm (x4 + 1) fun v10 => (fX0_firstInTree_L18 cx σ x1 K18_67 n18) x3 v9 v10)))
def fX0_firstInTree_B14 (cx : Nat) (σ : St) (x1 : Int32) (x2 : Int32) (t0 : Int32) : Option Int32 :=
  fX0_firstInTree_L18 cx σ x1 (fun y2 => fX0_firstInTree_B67 cx σ y2) 1000 x2 t0 0
def fX0_firstInTree (cx : Nat) (σ : St) (a1 : Int32) : Option Int32 :=
  if (σ (15 + 9 * cx) 5) = 0 then (fX0_firstInTree_B14 cx σ a1 (-1) (-1)) else (fX0_firstInTree_B14 cx σ a1 (-1) 0)
abbrev rmX0_firstInTree : Room := { frames := 0, cells := 0, slots := 0, locals := 0 }
theorem dmX0_firstInTree : yX0_firstInTree.cls = RX0 ∧ yX0_firstInTree.cls ≠ "java/lang/invoke/MethodHandle" ∧ yX0_firstInTree.cls ≠ "java/lang/invoke/VarHandle" ∧ (parseMethodDescriptor yX0_firstInTree.desc).map (fun d => d.parameters.length) = some 1 := by decide +kernel
theorem iX0_firstInTree_X0 : ∀ w ∈ wsX00, w ∈ wsX0_firstInTree := fun w h => List.mem_cons_of_mem _ (List.mem_append_right _ (h))
set_option maxHeartbeats 8000000 in
set_option maxRecDepth 100000 in
theorem mX0_firstInTree (l : Launch) (dC : Nat → ClassId) (dI : Nat → Nat → Nat) (ad : Nat → Nat) (cy : Nat → ClassId) (hJ : WJ 93 ad) (cx : Nat) (hcx : cx < 2) (σ : St) (a1 : Int32) (res : Int32) (hf : fX0_firstInTree cx σ a1 = some res) : CMi l yX0_firstInTree wsX0_firstInTree rmX0_firstInTree (dC, dI) (tysX cy) 93 ad (layX ad cy) [.ref (ad (15 + 9 * cx)), .int a1] σ res σ := by
  refine Met.ofW (cc := cX0_firstInTree) (maxL := 5) (ret := (some .int)) (by decide) rfl ?_
  intro p e s m args below meth c s₁ B hml hv
  obtain ⟨hargs, hP, hK⟩ := hv
  have hx := B.exec
  have hb := B.bytes
  have hr := B.returns
  have hts := atoms_spec (ws := wsX0_firstInTree) B.pre
  have hown : s.vm.findClass RX0 = some m.cls := findClass_of_methodNamed B.named
  have hlocks := B.notSynchronized
  have w1 := hts (.fieldLink RX0 27 "PierRings$Circle" "count" "I") (List.mem_of_getElem? (i := 1) rfl)
  have w2 := hts (.fieldLink RX0 15 "PierRings$Circle" "point" "[I") (List.mem_of_getElem? (i := 2) rfl)
  have w3 := hts (.fieldLink RX0 37 "PierRings$Circle" "left" "[I") (List.mem_of_getElem? (i := 3) rfl)
  have w4 := hts (.fieldLink RX0 40 "PierRings$Circle" "right" "[I") (List.mem_of_getElem? (i := 4) rfl)
  have hS : va_S (WA 93 ad) s.heap s.heap [] := va_S.rf
  have hfr : entryFrame m args 5 = F0 m 0 ((lg_sl [.ref (ad (15 + 9 * cx)), .int a1] ++ List.replicate (5 - (lg_sl [.ref (ad (15 + 9 * cx)), .int a1]).length) Slot.unset).toArray) [] := by rw [hargs]; exact lg_entry_eq _ _ _
  rw [hfr]
  have hl := lv_entry ([.ref (ad (15 + 9 * cx)), .int a1]) (n := 5) (Nat.le_of_ble_eq_true rfl)
  generalize (lg_sl [.ref (ad (15 + 9 * cx)), .int a1] ++ List.replicate (5 - (lg_sl [.ref (ad (15 + 9 * cx)), .int a1]).length) Slot.unset).toArray = ls at hl ⊢
  have hl : lv_has ls 5 [(0, .ref (ad (15 + 9 * cx))), (1, .int a1)] := hl
  clear hfr hargs B
  show W p l e rmX0_firstInTree s m args below meth c s.heap [] 0 0 (MQ below (Qiw (dC, dI) 93 ad (layX ad cy) res σ) args s 0 0 (WA 93 ad)) (F0 m 0 ls [])
  have kB67 : ∀ (x2 : Int32), fX0_firstInTree_B67 cx σ x2 = some res → ∀ (H : Heap) (locs : List Loc), va_P (dC, dI) vwCl (wd 93 ad (layX ad cy) σ) H → va_S (WA 93 ad) s.heap H locs → ∀ (ls : Array Slot), lv_has ls 5 [(2, .int x2)] → W p l e rmX0_firstInTree s m args below meth c H locs 0 0 (MQ below (Qiw (dC, dI) 93 ad (layX ad cy) res σ) args s 0 0 (WA 93 ad)) (F0 m 67 ls []) := by
    intro x2 hf H locs hP hS ls hl
    unfold fX0_firstInTree_B67 at hf
    refine lv_iload_n hx hb dX0_firstInTree_67 rfl (lv_at hl 0 rfl) ?_
    exact xt_iret hx hb hr hP hS (Option.some.inj hf) rfl dX0_firstInTree_68 hlocks
  have loop18 : ∀ (x1 : Int32) (n18 : Nat) (x2 : Int32) (x3 : Int32) (x4 : Int32), fX0_firstInTree_L18 cx σ x1 (fun y2 => fX0_firstInTree_B67 cx σ y2) n18 x2 x3 x4 = some res → ∀ (H : Heap) (locs : List Loc), va_P (dC, dI) vwCl (wd 93 ad (layX ad cy) σ) H → va_S (WA 93 ad) s.heap H locs → ∀ (ls : Array Slot), lv_has ls 5 [(0, .ref (ad (15 + 9 * cx))), (1, .int x1), (2, .int x2), (3, .int x3), (4, .int x4)] → W p l e rmX0_firstInTree s m args below meth c H locs 0 0 (MQ below (Qiw (dC, dI) 93 ad (layX ad cy) res σ) args s 0 0 (WA 93 ad)) (F0 m 18 ls []) := by
    intro x1 n18
    induction n18 with
    | zero => intro x2 x3 x4 hf; simp [fX0_firstInTree_L18] at hf
    | succ n18 ih18 =>
      intro x2 x3 x4 hf H locs hP hS ls hl
      rw [fX0_firstInTree_L18] at hf
      refine lv_iload hx hb dX0_firstInTree_18 (lv_at hl 4 rfl) ?_
      refine lv_aload_n hx hb dX0_firstInTree_20 rfl (lv_at hl 0 rfl) ?_
      refine xt_get (ci := 0) (C := RX0) (T := TX0) (n := 10) (v := .int (σ (15 + 9 * cx) 5)) hx hb hts iX0_firstInTree_X0 hown hK hP (15 + 9 * cx) (by omega) (LX0_obj ad cy cx hcx _) rfl 5 (by decide) w1 rfl dX0_firstInTree_21 ?_
      refine lv_icmp_ge (tgt := 67) hx hb dX0_firstInTree_24 (by decide) (fun c1 => ?_) (fun c1 => ?_)
      · have hf := (if_pos c1).symm.trans hf
        exact kB67 x2 hf H locs hP hS ls (lv_sub hl [2] rfl)
      · have hf := (if_neg c1).symm.trans hf
        refine lv_iload_n hx hb dX0_firstInTree_27 rfl (lv_at hl 3 rfl) ?_
        refine lv_iconst (v := (-1)) hx hb dX0_firstInTree_28 (by decide) ?_
        refine lv_icmp_eq (tgt := 67) hx hb dX0_firstInTree_29 (by decide) (fun c2 => ?_) (fun c2 => ?_)
        · have hf := (if_pos c2).symm.trans hf
          exact kB67 x2 hf H locs hP hS ls (lv_sub hl [2] rfl)
        · have hf := (if_neg c2).symm.trans hf
          refine lv_aload_n hx hb dX0_firstInTree_32 rfl (lv_at hl 0 rfl) ?_
          refine xt_get (ci := 0) (C := RX0) (T := TX0) (n := 10) (v := .ref (ad ((15 + 9 * cx) + 2))) hx hb hts iX0_firstInTree_X0 hown hK hP (15 + 9 * cx) (by omega) (LX0_obj ad cy cx hcx _) rfl 1 (by decide) w2 rfl dX0_firstInTree_33 ?_
          refine lv_iload_n hx hb dX0_firstInTree_36 rfl (lv_at hl 3 rfl) ?_
          obtain ⟨g3, hf⟩ := gd_some hf
          refine xt_iald hx hb hK hP ((15 + 9 * cx) + 2) (by omega) 0 (LX0_point ad cy cx hcx _) rfl g3 dX0_firstInTree_37 ?_
          refine lv_iload_n hx hb dX0_firstInTree_38 rfl (lv_at hl 1 rfl) ?_
          refine lv_icmp_lt (tgt := 54) hx hb dX0_firstInTree_39 (by decide) (fun c4 => ?_) (fun c4 => ?_)
          · have hf := (if_pos c4).symm.trans hf
            refine lv_aload_n hx hb dX0_firstInTree_54 rfl (lv_at hl 0 rfl) ?_
            refine xt_get (ci := 0) (C := RX0) (T := TX0) (n := 10) (v := .ref (ad ((15 + 9 * cx) + 8))) hx hb hts iX0_firstInTree_X0 hown hK hP (15 + 9 * cx) (by omega) (LX0_obj ad cy cx hcx _) rfl 9 (by decide) w4 rfl dX0_firstInTree_55 ?_
            refine lv_iload_n hx hb dX0_firstInTree_58 rfl (lv_at hl 3 rfl) ?_
            obtain ⟨g5, hf⟩ := gd_some hf
            refine xt_iald hx hb hK hP ((15 + 9 * cx) + 8) (by omega) 0 (LX0_right ad cy cx hcx _) rfl g5 dX0_firstInTree_59 ?_
            refine lv_topi (fun v6 ev6 => ?_)
            have hf := nm_to hf ev6
            refine lv_istore_n (lv' := [(3, .int v6), (0, .ref (ad (15 + 9 * cx))), (1, .int x1), (2, .int x2), (4, .int x4)]) hx hb dX0_firstInTree_60 rfl hl (by decide) rfl (fun ls hl => ?_)
            obtain ⟨v7, ev7⟩ : ∃ y : Int32, y = x4 + 1 := ⟨_, rfl⟩
            have hf := nm_to hf ev7
            refine lv_iinc (v := v7) (lv' := [(4, .int v7), (3, .int v6), (0, .ref (ad (15 + 9 * cx))), (1, .int x1), (2, .int x2)]) hx hb dX0_firstInTree_61 hl (k := 4) rfl (by rw [ev7]; rfl) (by decide) rfl (fun ls hl => ?_)
            refine lv_goto (tgt := 18) hx hb dX0_firstInTree_64 (by decide) ?_
            exact ih18 x2 v6 v7 hf H locs hP hS ls (lv_sub hl [2, 3, 4, 1, 0] rfl)
          · have hf := (if_neg c4).symm.trans hf
            refine lv_iload_n hx hb dX0_firstInTree_42 rfl (lv_at hl 3 rfl) ?_
            refine lv_istore_n (lv' := [(2, .int x3), (0, .ref (ad (15 + 9 * cx))), (1, .int x1), (3, .int x3), (4, .int x4)]) hx hb dX0_firstInTree_43 rfl hl (by decide) rfl (fun ls hl => ?_)
            refine lv_aload_n hx hb dX0_firstInTree_44 rfl (lv_at hl 1 rfl) ?_
            refine xt_get (ci := 0) (C := RX0) (T := TX0) (n := 10) (v := .ref (ad ((15 + 9 * cx) + 7))) hx hb hts iX0_firstInTree_X0 hown hK hP (15 + 9 * cx) (by omega) (LX0_obj ad cy cx hcx _) rfl 8 (by decide) w3 rfl dX0_firstInTree_45 ?_
            refine lv_iload_n hx hb dX0_firstInTree_48 rfl (lv_at hl 3 rfl) ?_
            obtain ⟨g8, hf⟩ := gd_some hf
            refine xt_iald hx hb hK hP ((15 + 9 * cx) + 7) (by omega) 0 (LX0_left ad cy cx hcx _) rfl g8 dX0_firstInTree_49 ?_
            refine lv_topi (fun v9 ev9 => ?_)
            have hf := nm_to hf ev9
            refine lv_istore_n (lv' := [(3, .int v9), (2, .int x3), (0, .ref (ad (15 + 9 * cx))), (1, .int x1), (4, .int x4)]) hx hb dX0_firstInTree_50 rfl hl (by decide) rfl (fun ls hl => ?_)
            refine lv_goto (tgt := 61) hx hb dX0_firstInTree_51 (by decide) ?_
            obtain ⟨v10, ev10⟩ : ∃ y : Int32, y = x4 + 1 := ⟨_, rfl⟩
            have hf := nm_to hf ev10
            refine lv_iinc (v := v10) (lv' := [(4, .int v10), (3, .int v9), (2, .int x3), (0, .ref (ad (15 + 9 * cx))), (1, .int x1)]) hx hb dX0_firstInTree_61 hl (k := 4) rfl (by rw [ev10]; rfl) (by decide) rfl (fun ls hl => ?_)
            refine lv_goto (tgt := 18) hx hb dX0_firstInTree_64 (by decide) ?_
            exact ih18 x3 v9 v10 hf H locs hP hS ls (lv_sub hl [3, 4, 2, 1, 0] rfl)
  have kB14 : ∀ (x1 : Int32) (x2 : Int32) (t0 : Int32), fX0_firstInTree_B14 cx σ x1 x2 t0 = some res → ∀ (H : Heap) (locs : List Loc), va_P (dC, dI) vwCl (wd 93 ad (layX ad cy) σ) H → va_S (WA 93 ad) s.heap H locs → ∀ (ls : Array Slot), lv_has ls 5 [(0, .ref (ad (15 + 9 * cx))), (1, .int x1), (2, .int x2)] → W p l e rmX0_firstInTree s m args below meth c H locs 0 0 (MQ below (Qiw (dC, dI) 93 ad (layX ad cy) res σ) args s 0 0 (WA 93 ad)) (F0 m 14 ls [.int t0]) := by
    intro x1 x2 t0 hf H locs hP hS ls hl
    unfold fX0_firstInTree_B14 at hf
    refine lv_istore_n (lv' := [(3, .int t0), (0, .ref (ad (15 + 9 * cx))), (1, .int x1), (2, .int x2)]) hx hb dX0_firstInTree_14 rfl hl (by decide) rfl (fun ls hl => ?_)
    refine lv_iconst (v := 0) hx hb dX0_firstInTree_15 (by decide) ?_
    refine lv_istore (lv' := [(4, .int 0), (3, .int t0), (0, .ref (ad (15 + 9 * cx))), (1, .int x1), (2, .int x2)]) hx hb dX0_firstInTree_16 hl (by decide) rfl (fun ls hl => ?_)
    exact loop18 x1 1000 x2 t0 0 hf H locs hP hS ls (lv_sub hl [2, 3, 4, 1, 0] rfl)
  unfold fX0_firstInTree at hf
  obtain ⟨H, eH⟩ : ∃ H : Heap, H = s.heap := ⟨_, rfl⟩
  rw [← eH] at hP
  have hS : va_S (WA 93 ad) s.heap H [] := by rw [eH]; exact hS
  suffices K : W p l e rmX0_firstInTree s m args below meth c H [] 0 0 (MQ below (Qiw (dC, dI) 93 ad (layX ad cy) res σ) args s 0 0 (WA 93 ad)) (F0 m 0 ls []) by rw [eH] at K; exact K
  clear eH
  obtain ⟨locs, elocs⟩ : ∃ z : List Loc, z = [] := ⟨_, rfl⟩
  rw [← elocs] at hS ⊢
  refine lv_iconst (v := (-1)) hx hb dX0_firstInTree_0 (by decide) ?_
  refine lv_istore_n (lv' := [(2, .int (-1)), (0, .ref (ad (15 + 9 * cx))), (1, .int a1)]) hx hb dX0_firstInTree_1 rfl hl (by decide) rfl (fun ls hl => ?_)
  refine lv_aload_n hx hb dX0_firstInTree_2 rfl (lv_at hl 1 rfl) ?_
  refine xt_get (ci := 0) (C := RX0) (T := TX0) (n := 10) (v := .int (σ (15 + 9 * cx) 5)) hx hb hts iX0_firstInTree_X0 hown hK hP (15 + 9 * cx) (by omega) (LX0_obj ad cy cx hcx _) rfl 5 (by decide) w1 rfl dX0_firstInTree_3 ?_
  refine lv_if_ne (tgt := 13) hx hb dX0_firstInTree_6 (by decide) (fun c11 => ?_) (fun c11 => ?_)
  · have hf := (if_neg c11).symm.trans hf
    refine lv_iconst (v := 0) hx hb dX0_firstInTree_13 (by decide) ?_
    exact kB14 a1 (-1) 0 hf H locs hP hS ls (lv_sub hl [1, 2, 0] rfl)
  · have hf := (if_pos c11).symm.trans hf
    refine lv_iconst (v := (-1)) hx hb dX0_firstInTree_9 (by decide) ?_
    refine lv_goto (tgt := 14) hx hb dX0_firstInTree_10 (by decide) ?_
    exact kB14 a1 (-1) (-1) hf H locs hP hS ls (lv_sub hl [1, 2, 0] rfl)
def fX0_homeByTree (cx : Nat) (σ : St) (a1 : Int32) : Option Int32 :=
  bd (fX0_firstInTree cx σ a1) fun r1 => if r1 = (-1 : Int32) then (bd (fX0_firstInTree cx σ 0) fun r5 => if r5 = (-1 : Int32) then (some (-15 : Int32)) else (gd (okI r5 80) <| some (σ ((15 + 9 * cx) + 3) r5.toNatClampNeg))) else (if r1 = (-1 : Int32) then (some (-15 : Int32)) else (gd (okI r1 80) <| some (σ ((15 + 9 * cx) + 3) r1.toNatClampNeg)))
abbrev rmX0_homeByTree : Room := { frames := 1, cells := 0, slots := 0, locals := 24 }
theorem dmX0_homeByTree : yX0_homeByTree.cls = RX0 ∧ yX0_homeByTree.cls ≠ "java/lang/invoke/MethodHandle" ∧ yX0_homeByTree.cls ≠ "java/lang/invoke/VarHandle" ∧ (parseMethodDescriptor yX0_homeByTree.desc).map (fun d => d.parameters.length) = some 1 := by decide +kernel
theorem iX0_homeByTree_X0 : ∀ w ∈ wsX00, w ∈ wsX0_homeByTree := fun w h => List.mem_cons_of_mem _ (List.mem_append_right _ (h))
set_option maxHeartbeats 8000000 in
set_option maxRecDepth 100000 in
theorem mX0_homeByTree (l : Launch) (dC : Nat → ClassId) (dI : Nat → Nat → Nat) (ad : Nat → Nat) (cy : Nat → ClassId) (hJ : WJ 93 ad) (cx : Nat) (hcx : cx < 2) (σ : St) (a1 : Int32) (res : Int32) (hf : fX0_homeByTree cx σ a1 = some res) : CMi l yX0_homeByTree wsX0_homeByTree rmX0_homeByTree (dC, dI) (tysX cy) 93 ad (layX ad cy) [.ref (ad (15 + 9 * cx)), .int a1] σ res σ := by
  refine Met.ofW (cc := cX0_homeByTree) (maxL := 3) (ret := (some .int)) (by decide) rfl ?_
  intro p e s m args below meth c s₁ B hml hv
  obtain ⟨hargs, hP, hK⟩ := hv
  have hx := B.exec
  have hb := B.bytes
  have hr := B.returns
  have hts := atoms_spec (ws := wsX0_homeByTree) B.pre
  have hown : s.vm.findClass RX0 = some m.cls := findClass_of_methodNamed B.named
  have hlocks := B.notSynchronized
  have w1 := hts (.fieldLink RX0 18 "PierRings$Circle" "owner" "[I") (List.mem_of_getElem? (i := 1) rfl)
  have hS : va_S (WA 93 ad) s.heap s.heap [] := va_S.rf
  have hfr : entryFrame m args 3 = F0 m 0 ((lg_sl [.ref (ad (15 + 9 * cx)), .int a1] ++ List.replicate (3 - (lg_sl [.ref (ad (15 + 9 * cx)), .int a1]).length) Slot.unset).toArray) [] := by rw [hargs]; exact lg_entry_eq _ _ _
  rw [hfr]
  have hl := lv_entry ([.ref (ad (15 + 9 * cx)), .int a1]) (n := 3) (Nat.le_of_ble_eq_true rfl)
  generalize (lg_sl [.ref (ad (15 + 9 * cx)), .int a1] ++ List.replicate (3 - (lg_sl [.ref (ad (15 + 9 * cx)), .int a1]).length) Slot.unset).toArray = ls at hl ⊢
  have hl : lv_has ls 3 [(0, .ref (ad (15 + 9 * cx))), (1, .int a1)] := hl
  clear hfr hargs B
  show W p l e rmX0_homeByTree s m args below meth c s.heap [] 0 0 (MQ below (Qiw (dC, dI) 93 ad (layX ad cy) res σ) args s 0 0 (WA 93 ad)) (F0 m 0 ls [])
  unfold fX0_homeByTree at hf
  obtain ⟨H, eH⟩ : ∃ H : Heap, H = s.heap := ⟨_, rfl⟩
  rw [← eH] at hP
  have hS : va_S (WA 93 ad) s.heap H [] := by rw [eH]; exact hS
  suffices K : W p l e rmX0_homeByTree s m args below meth c H [] 0 0 (MQ below (Qiw (dC, dI) 93 ad (layX ad cy) res σ) args s 0 0 (WA 93 ad)) (F0 m 0 ls []) by rw [eH] at K; exact K
  clear eH
  obtain ⟨locs, elocs⟩ : ∃ z : List Loc, z = [] := ⟨_, rfl⟩
  rw [← elocs] at hS ⊢
  refine lv_aload_n hx hb dX0_homeByTree_0 rfl (lv_at hl 0 rfl) ?_
  refine lv_iload_n hx hb dX0_homeByTree_1 rfl (lv_at hl 1 rfl) ?_
  obtain ⟨r1, qr1, hf⟩ := bd_some hf
  refine xt_callVi (As := [.int a1]) (rest := []) (C := RX0) (ci := 0) ⟨hx, hb, hml, hown, hts⟩ (15 + 9 * cx) (mX0_firstInTree l dC dI ad cy hJ cx hcx σ a1 r1 qr1) (cwV 1 hts gX0_homeByTree_X0_firstInTree rfl rfl rfl dmX0_firstInTree ⟨Nat.le_of_ble_eq_true rfl, Nat.le_of_ble_eq_true rfl⟩) hK hP hS (by omega) (LX0_obj ad cy cx hcx _) rfl rfl rfl hl.1 (Nat.le_of_ble_eq_true rfl) ⟨Nat.zero_le _, Nat.zero_le _⟩ dX0_homeByTree_2 (fun H locs hP hS => ?_)
  refine lv_istore_n (lv' := [(2, .int r1), (0, .ref (ad (15 + 9 * cx))), (1, .int a1)]) hx hb dX0_homeByTree_5 rfl hl (by decide) rfl (fun ls hl => ?_)
  refine lv_iload_n hx hb dX0_homeByTree_6 rfl (lv_at hl 0 rfl) ?_
  refine lv_iconst (v := (-1)) hx hb dX0_homeByTree_7 (by decide) ?_
  refine lv_icmp_ne (tgt := 17) hx hb dX0_homeByTree_8 (by decide) (fun c2 => ?_) (fun c2 => ?_)
  · have hf := (if_neg c2).symm.trans hf
    refine lv_iload_n hx hb dX0_homeByTree_17 rfl (lv_at hl 0 rfl) ?_
    refine lv_iconst (v := (-1)) hx hb dX0_homeByTree_18 (by decide) ?_
    refine lv_icmp_ne (tgt := 27) hx hb dX0_homeByTree_19 (by decide) (fun c3 => ?_) (fun c3 => ?_)
    · have hf := (if_neg c3).symm.trans hf
      refine lv_aload_n hx hb dX0_homeByTree_27 rfl (lv_at hl 1 rfl) ?_
      refine xt_get (ci := 0) (C := RX0) (T := TX0) (n := 10) (v := .ref (ad ((15 + 9 * cx) + 3))) hx hb hts iX0_homeByTree_X0 hown hK hP (15 + 9 * cx) (by omega) (LX0_obj ad cy cx hcx _) rfl 2 (by decide) w1 rfl dX0_homeByTree_28 ?_
      refine lv_iload_n hx hb dX0_homeByTree_31 rfl (lv_at hl 0 rfl) ?_
      obtain ⟨g4, hf⟩ := gd_some hf
      refine xt_iald hx hb hK hP ((15 + 9 * cx) + 3) (by omega) 0 (LX0_owner ad cy cx hcx _) rfl g4 dX0_homeByTree_32 ?_
      exact xt_iret hx hb hr hP hS (Option.some.inj hf) rfl dX0_homeByTree_33 hlocks
    · have hf := (if_pos c3).symm.trans hf
      refine lv_bipush (v := (-15)) hx hb dX0_homeByTree_22 (by decide) ?_
      refine lv_goto (tgt := 33) hx hb dX0_homeByTree_24 (by decide) ?_
      exact xt_iret hx hb hr hP hS (Option.some.inj hf) rfl dX0_homeByTree_33 hlocks
  · have hf := (if_pos c2).symm.trans hf
    refine lv_aload_n hx hb dX0_homeByTree_11 rfl (lv_at hl 1 rfl) ?_
    refine lv_iconst (v := 0) hx hb dX0_homeByTree_12 (by decide) ?_
    obtain ⟨r5, qr5, hf⟩ := bd_some hf
    refine xt_callVi (As := [.int 0]) (rest := []) (C := RX0) (ci := 0) ⟨hx, hb, hml, hown, hts⟩ (15 + 9 * cx) (mX0_firstInTree l dC dI ad cy hJ cx hcx σ 0 r5 qr5) (cwV 1 hts gX0_homeByTree_X0_firstInTree rfl rfl rfl dmX0_firstInTree ⟨Nat.le_of_ble_eq_true rfl, Nat.le_of_ble_eq_true rfl⟩) hK hP hS (by omega) (LX0_obj ad cy cx hcx _) rfl rfl rfl hl.1 (Nat.le_of_ble_eq_true rfl) ⟨Nat.zero_le _, Nat.zero_le _⟩ dX0_homeByTree_13 (fun H locs hP hS => ?_)
    refine lv_istore_n (lv' := [(2, .int r5), (0, .ref (ad (15 + 9 * cx))), (1, .int a1)]) hx hb dX0_homeByTree_16 rfl hl (by decide) rfl (fun ls hl => ?_)
    refine lv_iload_n hx hb dX0_homeByTree_17 rfl (lv_at hl 0 rfl) ?_
    refine lv_iconst (v := (-1)) hx hb dX0_homeByTree_18 (by decide) ?_
    refine lv_icmp_ne (tgt := 27) hx hb dX0_homeByTree_19 (by decide) (fun c6 => ?_) (fun c6 => ?_)
    · have hf := (if_neg c6).symm.trans hf
      refine lv_aload_n hx hb dX0_homeByTree_27 rfl (lv_at hl 1 rfl) ?_
      refine xt_get (ci := 0) (C := RX0) (T := TX0) (n := 10) (v := .ref (ad ((15 + 9 * cx) + 3))) hx hb hts iX0_homeByTree_X0 hown hK hP (15 + 9 * cx) (by omega) (LX0_obj ad cy cx hcx _) rfl 2 (by decide) w1 rfl dX0_homeByTree_28 ?_
      refine lv_iload_n hx hb dX0_homeByTree_31 rfl (lv_at hl 0 rfl) ?_
      obtain ⟨g7, hf⟩ := gd_some hf
      refine xt_iald hx hb hK hP ((15 + 9 * cx) + 3) (by omega) 0 (LX0_owner ad cy cx hcx _) rfl g7 dX0_homeByTree_32 ?_
      exact xt_iret hx hb hr hP hS (Option.some.inj hf) rfl dX0_homeByTree_33 hlocks
    · have hf := (if_pos c6).symm.trans hf
      refine lv_bipush (v := (-15)) hx hb dX0_homeByTree_22 (by decide) ?_
      refine lv_goto (tgt := 33) hx hb dX0_homeByTree_24 (by decide) ?_
      exact xt_iret hx hb hr hP hS (Option.some.inj hf) rfl dX0_homeByTree_33 hlocks
def fX0_homeAlong_B40 (cx : Nat) (σ : St) : Option Int32 :=
  some (-15 : Int32)
def fX0_homeAlong_L2 (cx : Nat) (σ : St) (x1 : Int32) (K2_40 : Option Int32) : Nat → Int32 → Option Int32
  | 0, _ => none
  | n2 + 1, x2 => if (360 : Int32) ≤ x2 then (K2_40) else (gd (okI (jrem (x1 + x2) 360) 360) <| nm (σ ((15 + 9 * cx) + 6) (jrem (x1 + x2) 360).toNatClampNeg) fun v3 => if v3 = (-1 : Int32) then (nm (x2 + 1) fun v5 => (fX0_homeAlong_L2 cx σ x1 K2_40 n2) v5) else (gd (okI v3 80) <| some (σ ((15 + 9 * cx) + 3) v3.toNatClampNeg)))
def fX0_homeAlong (cx : Nat) (σ : St) (a1 : Int32) : Option Int32 :=
  fX0_homeAlong_L2 cx σ a1 (fX0_homeAlong_B40 cx σ) 1000 0
abbrev rmX0_homeAlong : Room := { frames := 0, cells := 0, slots := 0, locals := 0 }
theorem dmX0_homeAlong : yX0_homeAlong.cls = RX0 ∧ yX0_homeAlong.cls ≠ "java/lang/invoke/MethodHandle" ∧ yX0_homeAlong.cls ≠ "java/lang/invoke/VarHandle" ∧ (parseMethodDescriptor yX0_homeAlong.desc).map (fun d => d.parameters.length) = some 1 := by decide +kernel
theorem iX0_homeAlong_X0 : ∀ w ∈ wsX00, w ∈ wsX0_homeAlong := fun w h => List.mem_cons_of_mem _ (List.mem_append_right _ (h))
set_option maxHeartbeats 8000000 in
set_option maxRecDepth 100000 in
theorem mX0_homeAlong (l : Launch) (dC : Nat → ClassId) (dI : Nat → Nat → Nat) (ad : Nat → Nat) (cy : Nat → ClassId) (hJ : WJ 93 ad) (cx : Nat) (hcx : cx < 2) (σ : St) (a1 : Int32) (res : Int32) (hf : fX0_homeAlong cx σ a1 = some res) : CMi l yX0_homeAlong wsX0_homeAlong rmX0_homeAlong (dC, dI) (tysX cy) 93 ad (layX ad cy) [.ref (ad (15 + 9 * cx)), .int a1] σ res σ := by
  refine Met.ofW (cc := cX0_homeAlong) (maxL := 4) (ret := (some .int)) (by decide) rfl ?_
  intro p e s m args below meth c s₁ B hml hv
  obtain ⟨hargs, hP, hK⟩ := hv
  have hx := B.exec
  have hb := B.bytes
  have hr := B.returns
  have hts := atoms_spec (ws := wsX0_homeAlong) B.pre
  have hown : s.vm.findClass RX0 = some m.cls := findClass_of_methodNamed B.named
  have hlocks := B.notSynchronized
  have w1 := hts (.fieldLink RX0 34 "PierRings$Circle" "nodeAt" "[I") (List.mem_of_getElem? (i := 1) rfl)
  have w2 := hts (.fieldLink RX0 18 "PierRings$Circle" "owner" "[I") (List.mem_of_getElem? (i := 2) rfl)
  have hS : va_S (WA 93 ad) s.heap s.heap [] := va_S.rf
  have hfr : entryFrame m args 4 = F0 m 0 ((lg_sl [.ref (ad (15 + 9 * cx)), .int a1] ++ List.replicate (4 - (lg_sl [.ref (ad (15 + 9 * cx)), .int a1]).length) Slot.unset).toArray) [] := by rw [hargs]; exact lg_entry_eq _ _ _
  rw [hfr]
  have hl := lv_entry ([.ref (ad (15 + 9 * cx)), .int a1]) (n := 4) (Nat.le_of_ble_eq_true rfl)
  generalize (lg_sl [.ref (ad (15 + 9 * cx)), .int a1] ++ List.replicate (4 - (lg_sl [.ref (ad (15 + 9 * cx)), .int a1]).length) Slot.unset).toArray = ls at hl ⊢
  have hl : lv_has ls 4 [(0, .ref (ad (15 + 9 * cx))), (1, .int a1)] := hl
  clear hfr hargs B
  show W p l e rmX0_homeAlong s m args below meth c s.heap [] 0 0 (MQ below (Qiw (dC, dI) 93 ad (layX ad cy) res σ) args s 0 0 (WA 93 ad)) (F0 m 0 ls [])
  have kB40 : fX0_homeAlong_B40 cx σ = some res → ∀ (H : Heap) (locs : List Loc), va_P (dC, dI) vwCl (wd 93 ad (layX ad cy) σ) H → va_S (WA 93 ad) s.heap H locs → ∀ (ls : Array Slot), lv_has ls 4 [] → W p l e rmX0_homeAlong s m args below meth c H locs 0 0 (MQ below (Qiw (dC, dI) 93 ad (layX ad cy) res σ) args s 0 0 (WA 93 ad)) (F0 m 40 ls []) := by
    intro  hf H locs hP hS ls hl
    unfold fX0_homeAlong_B40 at hf
    refine lv_bipush (v := (-15)) hx hb dX0_homeAlong_40 (by decide) ?_
    exact xt_iret hx hb hr hP hS (Option.some.inj hf) rfl dX0_homeAlong_42 hlocks
  have loop2 : ∀ (x1 : Int32) (n2 : Nat) (x2 : Int32), fX0_homeAlong_L2 cx σ x1 (fX0_homeAlong_B40 cx σ) n2 x2 = some res → ∀ (H : Heap) (locs : List Loc), va_P (dC, dI) vwCl (wd 93 ad (layX ad cy) σ) H → va_S (WA 93 ad) s.heap H locs → ∀ (ls : Array Slot), lv_has ls 4 [(0, .ref (ad (15 + 9 * cx))), (1, .int x1), (2, .int x2)] → W p l e rmX0_homeAlong s m args below meth c H locs 0 0 (MQ below (Qiw (dC, dI) 93 ad (layX ad cy) res σ) args s 0 0 (WA 93 ad)) (F0 m 2 ls []) := by
    intro x1 n2
    induction n2 with
    | zero => intro x2 hf; simp [fX0_homeAlong_L2] at hf
    | succ n2 ih2 =>
      intro x2 hf H locs hP hS ls hl
      rw [fX0_homeAlong_L2] at hf
      refine lv_iload_n hx hb dX0_homeAlong_2 rfl (lv_at hl 2 rfl) ?_
      refine lv_sipush (v := 360) hx hb dX0_homeAlong_3 (by decide) ?_
      refine lv_icmp_ge (tgt := 40) hx hb dX0_homeAlong_6 (by decide) (fun c1 => ?_) (fun c1 => ?_)
      · have hf := (if_pos c1).symm.trans hf
        exact kB40 hf H locs hP hS ls (lv_sub hl [] rfl)
      · have hf := (if_neg c1).symm.trans hf
        refine lv_aload_n hx hb dX0_homeAlong_9 rfl (lv_at hl 0 rfl) ?_
        refine xt_get (ci := 0) (C := RX0) (T := TX0) (n := 10) (v := .ref (ad ((15 + 9 * cx) + 6))) hx hb hts iX0_homeAlong_X0 hown hK hP (15 + 9 * cx) (by omega) (LX0_obj ad cy cx hcx _) rfl 7 (by decide) w1 rfl dX0_homeAlong_10 ?_
        refine lv_iload_n hx hb dX0_homeAlong_13 rfl (lv_at hl 1 rfl) ?_
        refine lv_iload_n hx hb dX0_homeAlong_14 rfl (lv_at hl 2 rfl) ?_
        refine lv_iadd hx hb dX0_homeAlong_15 ?_
        refine lv_sipush (v := 360) hx hb dX0_homeAlong_16 (by decide) ?_
        refine xt_irem hx hb dX0_homeAlong_19 (by decide) ?_
        obtain ⟨g2, hf⟩ := gd_some hf
        refine xt_iald hx hb hK hP ((15 + 9 * cx) + 6) (by omega) 0 (LX0_nodeAt ad cy cx hcx _) rfl g2 dX0_homeAlong_20 ?_
        refine lv_topi (fun v3 ev3 => ?_)
        have hf := nm_to hf ev3
        refine lv_istore_n (lv' := [(3, .int v3), (0, .ref (ad (15 + 9 * cx))), (1, .int x1), (2, .int x2)]) hx hb dX0_homeAlong_21 rfl hl (by decide) rfl (fun ls hl => ?_)
        refine lv_iload_n hx hb dX0_homeAlong_22 rfl (lv_at hl 0 rfl) ?_
        refine lv_iconst (v := (-1)) hx hb dX0_homeAlong_23 (by decide) ?_
        refine lv_icmp_eq (tgt := 34) hx hb dX0_homeAlong_24 (by decide) (fun c4 => ?_) (fun c4 => ?_)
        · have hf := (if_pos c4).symm.trans hf
          obtain ⟨v5, ev5⟩ : ∃ y : Int32, y = x2 + 1 := ⟨_, rfl⟩
          have hf := nm_to hf ev5
          refine lv_iinc (v := v5) (lv' := [(2, .int v5), (3, .int v3), (0, .ref (ad (15 + 9 * cx))), (1, .int x1)]) hx hb dX0_homeAlong_34 hl (k := 3) rfl (by rw [ev5]; rfl) (by decide) rfl (fun ls hl => ?_)
          refine lv_goto (tgt := 2) hx hb dX0_homeAlong_37 (by decide) ?_
          exact ih2 v5 hf H locs hP hS ls (lv_sub hl [2, 3, 0] rfl)
        · have hf := (if_neg c4).symm.trans hf
          refine lv_aload_n hx hb dX0_homeAlong_27 rfl (lv_at hl 1 rfl) ?_
          refine xt_get (ci := 0) (C := RX0) (T := TX0) (n := 10) (v := .ref (ad ((15 + 9 * cx) + 3))) hx hb hts iX0_homeAlong_X0 hown hK hP (15 + 9 * cx) (by omega) (LX0_obj ad cy cx hcx _) rfl 2 (by decide) w2 rfl dX0_homeAlong_28 ?_
          refine lv_iload_n hx hb dX0_homeAlong_31 rfl (lv_at hl 0 rfl) ?_
          obtain ⟨g6, hf⟩ := gd_some hf
          refine xt_iald hx hb hK hP ((15 + 9 * cx) + 3) (by omega) 0 (LX0_owner ad cy cx hcx _) rfl g6 dX0_homeAlong_32 ?_
          exact xt_iret hx hb hr hP hS (Option.some.inj hf) rfl dX0_homeAlong_33 hlocks
  unfold fX0_homeAlong at hf
  obtain ⟨H, eH⟩ : ∃ H : Heap, H = s.heap := ⟨_, rfl⟩
  rw [← eH] at hP
  have hS : va_S (WA 93 ad) s.heap H [] := by rw [eH]; exact hS
  suffices K : W p l e rmX0_homeAlong s m args below meth c H [] 0 0 (MQ below (Qiw (dC, dI) 93 ad (layX ad cy) res σ) args s 0 0 (WA 93 ad)) (F0 m 0 ls []) by rw [eH] at K; exact K
  clear eH
  obtain ⟨locs, elocs⟩ : ∃ z : List Loc, z = [] := ⟨_, rfl⟩
  rw [← elocs] at hS ⊢
  refine lv_iconst (v := 0) hx hb dX0_homeAlong_0 (by decide) ?_
  refine lv_istore_n (lv' := [(2, .int 0), (0, .ref (ad (15 + 9 * cx))), (1, .int a1)]) hx hb dX0_homeAlong_1 rfl hl (by decide) rfl (fun ls hl => ?_)
  exact loop2 a1 1000 0 hf H locs hP hS ls (lv_sub hl [1, 2, 0] rfl)
def fX0_placeFrom_B33 (cx : Nat) (σ : St) : Option Int32 :=
  some (0 : Int32)
def fX0_placeFrom_L2 (cx : Nat) (σ : St) (x1 : Int32) (K2_33 : Option Int32) : Nat → Int32 → Option Int32
  | 0, _ => none
  | n2 + 1, x2 => if (σ (15 + 9 * cx) 5) ≤ x2 then (K2_33) else (gd (okI x2 80) <| gd (okI (σ ((15 + 9 * cx) + 1) x2.toNatClampNeg) 80) <| if (σ ((15 + 9 * cx) + 2) (σ ((15 + 9 * cx) + 1) x2.toNatClampNeg).toNatClampNeg) < x1 then (nm (x2 + 1) fun v5 => (fX0_placeFrom_L2 cx σ x1 K2_33 n2) v5) else (some x2))
def fX0_placeFrom (cx : Nat) (σ : St) (a1 : Int32) : Option Int32 :=
  fX0_placeFrom_L2 cx σ a1 (fX0_placeFrom_B33 cx σ) 1000 0
abbrev rmX0_placeFrom : Room := { frames := 0, cells := 0, slots := 0, locals := 0 }
theorem dmX0_placeFrom : yX0_placeFrom.cls = RX0 ∧ yX0_placeFrom.cls ≠ "java/lang/invoke/MethodHandle" ∧ yX0_placeFrom.cls ≠ "java/lang/invoke/VarHandle" ∧ (parseMethodDescriptor yX0_placeFrom.desc).map (fun d => d.parameters.length) = some 1 := by decide +kernel
theorem iX0_placeFrom_X0 : ∀ w ∈ wsX00, w ∈ wsX0_placeFrom := fun w h => List.mem_cons_of_mem _ (List.mem_append_right _ (h))
set_option maxHeartbeats 8000000 in
set_option maxRecDepth 100000 in
theorem mX0_placeFrom (l : Launch) (dC : Nat → ClassId) (dI : Nat → Nat → Nat) (ad : Nat → Nat) (cy : Nat → ClassId) (hJ : WJ 93 ad) (cx : Nat) (hcx : cx < 2) (σ : St) (a1 : Int32) (res : Int32) (hf : fX0_placeFrom cx σ a1 = some res) : CMi l yX0_placeFrom wsX0_placeFrom rmX0_placeFrom (dC, dI) (tysX cy) 93 ad (layX ad cy) [.ref (ad (15 + 9 * cx)), .int a1] σ res σ := by
  refine Met.ofW (cc := cX0_placeFrom) (maxL := 3) (ret := (some .int)) (by decide) rfl ?_
  intro p e s m args below meth c s₁ B hml hv
  obtain ⟨hargs, hP, hK⟩ := hv
  have hx := B.exec
  have hb := B.bytes
  have hr := B.returns
  have hts := atoms_spec (ws := wsX0_placeFrom) B.pre
  have hown : s.vm.findClass RX0 = some m.cls := findClass_of_methodNamed B.named
  have hlocks := B.notSynchronized
  have w1 := hts (.fieldLink RX0 27 "PierRings$Circle" "count" "I") (List.mem_of_getElem? (i := 1) rfl)
  have w2 := hts (.fieldLink RX0 15 "PierRings$Circle" "point" "[I") (List.mem_of_getElem? (i := 2) rfl)
  have w3 := hts (.fieldLink RX0 9 "PierRings$Circle" "nodeByPlace" "[I") (List.mem_of_getElem? (i := 3) rfl)
  have hS : va_S (WA 93 ad) s.heap s.heap [] := va_S.rf
  have hfr : entryFrame m args 3 = F0 m 0 ((lg_sl [.ref (ad (15 + 9 * cx)), .int a1] ++ List.replicate (3 - (lg_sl [.ref (ad (15 + 9 * cx)), .int a1]).length) Slot.unset).toArray) [] := by rw [hargs]; exact lg_entry_eq _ _ _
  rw [hfr]
  have hl := lv_entry ([.ref (ad (15 + 9 * cx)), .int a1]) (n := 3) (Nat.le_of_ble_eq_true rfl)
  generalize (lg_sl [.ref (ad (15 + 9 * cx)), .int a1] ++ List.replicate (3 - (lg_sl [.ref (ad (15 + 9 * cx)), .int a1]).length) Slot.unset).toArray = ls at hl ⊢
  have hl : lv_has ls 3 [(0, .ref (ad (15 + 9 * cx))), (1, .int a1)] := hl
  clear hfr hargs B
  show W p l e rmX0_placeFrom s m args below meth c s.heap [] 0 0 (MQ below (Qiw (dC, dI) 93 ad (layX ad cy) res σ) args s 0 0 (WA 93 ad)) (F0 m 0 ls [])
  have kB33 : fX0_placeFrom_B33 cx σ = some res → ∀ (H : Heap) (locs : List Loc), va_P (dC, dI) vwCl (wd 93 ad (layX ad cy) σ) H → va_S (WA 93 ad) s.heap H locs → ∀ (ls : Array Slot), lv_has ls 3 [] → W p l e rmX0_placeFrom s m args below meth c H locs 0 0 (MQ below (Qiw (dC, dI) 93 ad (layX ad cy) res σ) args s 0 0 (WA 93 ad)) (F0 m 33 ls []) := by
    intro  hf H locs hP hS ls hl
    unfold fX0_placeFrom_B33 at hf
    refine lv_iconst (v := 0) hx hb dX0_placeFrom_33 (by decide) ?_
    exact xt_iret hx hb hr hP hS (Option.some.inj hf) rfl dX0_placeFrom_34 hlocks
  have loop2 : ∀ (x1 : Int32) (n2 : Nat) (x2 : Int32), fX0_placeFrom_L2 cx σ x1 (fX0_placeFrom_B33 cx σ) n2 x2 = some res → ∀ (H : Heap) (locs : List Loc), va_P (dC, dI) vwCl (wd 93 ad (layX ad cy) σ) H → va_S (WA 93 ad) s.heap H locs → ∀ (ls : Array Slot), lv_has ls 3 [(0, .ref (ad (15 + 9 * cx))), (1, .int x1), (2, .int x2)] → W p l e rmX0_placeFrom s m args below meth c H locs 0 0 (MQ below (Qiw (dC, dI) 93 ad (layX ad cy) res σ) args s 0 0 (WA 93 ad)) (F0 m 2 ls []) := by
    intro x1 n2
    induction n2 with
    | zero => intro x2 hf; simp [fX0_placeFrom_L2] at hf
    | succ n2 ih2 =>
      intro x2 hf H locs hP hS ls hl
      rw [fX0_placeFrom_L2] at hf
      refine lv_iload_n hx hb dX0_placeFrom_2 rfl (lv_at hl 2 rfl) ?_
      refine lv_aload_n hx hb dX0_placeFrom_3 rfl (lv_at hl 0 rfl) ?_
      refine xt_get (ci := 0) (C := RX0) (T := TX0) (n := 10) (v := .int (σ (15 + 9 * cx) 5)) hx hb hts iX0_placeFrom_X0 hown hK hP (15 + 9 * cx) (by omega) (LX0_obj ad cy cx hcx _) rfl 5 (by decide) w1 rfl dX0_placeFrom_4 ?_
      refine lv_icmp_ge (tgt := 33) hx hb dX0_placeFrom_7 (by decide) (fun c1 => ?_) (fun c1 => ?_)
      · have hf := (if_pos c1).symm.trans hf
        exact kB33 hf H locs hP hS ls (lv_sub hl [] rfl)
      · have hf := (if_neg c1).symm.trans hf
        refine lv_aload_n hx hb dX0_placeFrom_10 rfl (lv_at hl 0 rfl) ?_
        refine xt_get (ci := 0) (C := RX0) (T := TX0) (n := 10) (v := .ref (ad ((15 + 9 * cx) + 2))) hx hb hts iX0_placeFrom_X0 hown hK hP (15 + 9 * cx) (by omega) (LX0_obj ad cy cx hcx _) rfl 1 (by decide) w2 rfl dX0_placeFrom_11 ?_
        refine lv_aload_n hx hb dX0_placeFrom_14 rfl (lv_at hl 0 rfl) ?_
        refine xt_get (ci := 0) (C := RX0) (T := TX0) (n := 10) (v := .ref (ad ((15 + 9 * cx) + 1))) hx hb hts iX0_placeFrom_X0 hown hK hP (15 + 9 * cx) (by omega) (LX0_obj ad cy cx hcx _) rfl 0 (by decide) w3 rfl dX0_placeFrom_15 ?_
        refine lv_iload_n hx hb dX0_placeFrom_18 rfl (lv_at hl 2 rfl) ?_
        obtain ⟨g2, hf⟩ := gd_some hf
        refine xt_iald hx hb hK hP ((15 + 9 * cx) + 1) (by omega) 0 (LX0_nodeByPlace ad cy cx hcx _) rfl g2 dX0_placeFrom_19 ?_
        obtain ⟨g3, hf⟩ := gd_some hf
        refine xt_iald hx hb hK hP ((15 + 9 * cx) + 2) (by omega) 0 (LX0_point ad cy cx hcx _) rfl g3 dX0_placeFrom_20 ?_
        refine lv_iload_n hx hb dX0_placeFrom_21 rfl (lv_at hl 1 rfl) ?_
        refine lv_icmp_lt (tgt := 27) hx hb dX0_placeFrom_22 (by decide) (fun c4 => ?_) (fun c4 => ?_)
        · have hf := (if_pos c4).symm.trans hf
          obtain ⟨v5, ev5⟩ : ∃ y : Int32, y = x2 + 1 := ⟨_, rfl⟩
          have hf := nm_to hf ev5
          refine lv_iinc (v := v5) (lv' := [(2, .int v5), (0, .ref (ad (15 + 9 * cx))), (1, .int x1)]) hx hb dX0_placeFrom_27 hl (k := 2) rfl (by rw [ev5]; rfl) (by decide) rfl (fun ls hl => ?_)
          refine lv_goto (tgt := 2) hx hb dX0_placeFrom_30 (by decide) ?_
          exact ih2 v5 hf H locs hP hS ls (lv_sub hl [1, 2, 0] rfl)
        · have hf := (if_neg c4).symm.trans hf
          refine lv_iload_n hx hb dX0_placeFrom_25 rfl (lv_at hl 2 rfl) ?_
          exact xt_iret hx hb hr hP hS (Option.some.inj hf) rfl dX0_placeFrom_26 hlocks
  unfold fX0_placeFrom at hf
  obtain ⟨H, eH⟩ : ∃ H : Heap, H = s.heap := ⟨_, rfl⟩
  rw [← eH] at hP
  have hS : va_S (WA 93 ad) s.heap H [] := by rw [eH]; exact hS
  suffices K : W p l e rmX0_placeFrom s m args below meth c H [] 0 0 (MQ below (Qiw (dC, dI) 93 ad (layX ad cy) res σ) args s 0 0 (WA 93 ad)) (F0 m 0 ls []) by rw [eH] at K; exact K
  clear eH
  obtain ⟨locs, elocs⟩ : ∃ z : List Loc, z = [] := ⟨_, rfl⟩
  rw [← elocs] at hS ⊢
  refine lv_iconst (v := 0) hx hb dX0_placeFrom_0 (by decide) ?_
  refine lv_istore_n (lv' := [(2, .int 0), (0, .ref (ad (15 + 9 * cx))), (1, .int a1)]) hx hb dX0_placeFrom_1 rfl hl (by decide) rfl (fun ls hl => ?_)
  exact loop2 a1 1000 0 hf H locs hP hS ls (lv_sub hl [1, 2, 0] rfl)
def fX0_stretchOf_B84 (cx : Nat) (σ : St) (x2 : Int32) : Option Int32 :=
  some x2
def fX0_stretchOf_B51 (cx : Nat) (G4 : Int32 → Int32 → Option Int32) (K4_84 : Int32 → Option Int32) (σ : St) (x1 : Int32) (x2 : Int32) (x3 : Int32) (x4 : Int32) (t1 : Int32) : Option Int32 :=
  gd (okI t1 80) <| nm (σ ((15 + 9 * cx) + 1) t1.toNatClampNeg) fun v2 => gd (okI x4 80) <| gd (okI v2 80) <| bd (fJ9_floorMod_7cf53 σ ((σ ((15 + 9 * cx) + 2) x4.toNatClampNeg) - (σ ((15 + 9 * cx) + 2) v2.toNatClampNeg)) 360) fun r5 => nm (x2 + r5) fun v6 => nm (x3 + 1) fun v7 => G4 v6 v7
def fX0_stretchOf_L4 (cx : Nat) (σ : St) (x1 : Int32) (K4_84 : Int32 → Option Int32) : Nat → Int32 → Int32 → Option Int32
  | 0, _, _ => none
  | n4 + 1, x2, x3 => if (σ (15 + 9 * cx) 5) ≤ x3 then (K4_84 x2) else (gd (okI x3 80) <| nm (σ ((15 + 9 * cx) + 1) x3.toNatClampNeg) fun v10 => gd (okI v10 80) <| if (σ ((15 + 9 * cx) + 3) v10.toNatClampNeg) = x1 then (if x3 = 0 then (fX0_stretchOf_B51 cx (fX0_stretchOf_L4 cx σ x1 K4_84 n4) K4_84 σ x1 x2 x3 v10 ((σ (15 + 9 * cx) 5) - 1)) else (fX0_stretchOf_B51 cx (fX0_stretchOf_L4 cx σ x1 K4_84 n4) K4_84 σ x1 x2 x3 v10 (x3 - 1))) else (nm (x3 + 1) fun v13 => (fX0_stretchOf_L4 cx σ x1 K4_84 n4) x2 v13))
def fX0_stretchOf (cx : Nat) (σ : St) (a1 : Int32) : Option Int32 :=
  fX0_stretchOf_L4 cx σ a1 (fun y2 => fX0_stretchOf_B84 cx σ y2) 1000 0 0
abbrev rmX0_stretchOf : Room := { frames := 1, cells := 0, slots := 0, locals := 22 }
theorem dmX0_stretchOf : yX0_stretchOf.cls = RX0 ∧ yX0_stretchOf.cls ≠ "java/lang/invoke/MethodHandle" ∧ yX0_stretchOf.cls ≠ "java/lang/invoke/VarHandle" ∧ (parseMethodDescriptor yX0_stretchOf.desc).map (fun d => d.parameters.length) = some 1 := by decide +kernel
theorem iX0_stretchOf_X0 : ∀ w ∈ wsX00, w ∈ wsX0_stretchOf := fun w h => List.mem_cons_of_mem _ (List.mem_append_right _ (h))
set_option maxHeartbeats 8000000 in
set_option maxRecDepth 100000 in
theorem mX0_stretchOf (l : Launch) (dC : Nat → ClassId) (dI : Nat → Nat → Nat) (ad : Nat → Nat) (cy : Nat → ClassId) (hJ : WJ 93 ad) (cx : Nat) (hcx : cx < 2) (σ : St) (a1 : Int32) (res : Int32) (hf : fX0_stretchOf cx σ a1 = some res) : CMi l yX0_stretchOf wsX0_stretchOf rmX0_stretchOf (dC, dI) (tysX cy) 93 ad (layX ad cy) [.ref (ad (15 + 9 * cx)), .int a1] σ res σ := by
  refine Met.ofW (cc := cX0_stretchOf) (maxL := 6) (ret := (some .int)) (by decide) rfl ?_
  intro p e s m args below meth c s₁ B hml hv
  obtain ⟨hargs, hP, hK⟩ := hv
  have hx := B.exec
  have hb := B.bytes
  have hr := B.returns
  have hts := atoms_spec (ws := wsX0_stretchOf) B.pre
  have hown : s.vm.findClass RX0 = some m.cls := findClass_of_methodNamed B.named
  have hlocks := B.notSynchronized
  have w1 := hts (.fieldLink RX0 27 "PierRings$Circle" "count" "I") (List.mem_of_getElem? (i := 1) rfl)
  have w2 := hts (.fieldLink RX0 9 "PierRings$Circle" "nodeByPlace" "[I") (List.mem_of_getElem? (i := 2) rfl)
  have w3 := hts (.fieldLink RX0 18 "PierRings$Circle" "owner" "[I") (List.mem_of_getElem? (i := 3) rfl)
  have w4 := hts (.fieldLink RX0 15 "PierRings$Circle" "point" "[I") (List.mem_of_getElem? (i := 4) rfl)
  have hS : va_S (WA 93 ad) s.heap s.heap [] := va_S.rf
  have hfr : entryFrame m args 6 = F0 m 0 ((lg_sl [.ref (ad (15 + 9 * cx)), .int a1] ++ List.replicate (6 - (lg_sl [.ref (ad (15 + 9 * cx)), .int a1]).length) Slot.unset).toArray) [] := by rw [hargs]; exact lg_entry_eq _ _ _
  rw [hfr]
  have hl := lv_entry ([.ref (ad (15 + 9 * cx)), .int a1]) (n := 6) (Nat.le_of_ble_eq_true rfl)
  generalize (lg_sl [.ref (ad (15 + 9 * cx)), .int a1] ++ List.replicate (6 - (lg_sl [.ref (ad (15 + 9 * cx)), .int a1]).length) Slot.unset).toArray = ls at hl ⊢
  have hl : lv_has ls 6 [(0, .ref (ad (15 + 9 * cx))), (1, .int a1)] := hl
  clear hfr hargs B
  show W p l e rmX0_stretchOf s m args below meth c s.heap [] 0 0 (MQ below (Qiw (dC, dI) 93 ad (layX ad cy) res σ) args s 0 0 (WA 93 ad)) (F0 m 0 ls [])
  have kB84 : ∀ (x2 : Int32), fX0_stretchOf_B84 cx σ x2 = some res → ∀ (H : Heap) (locs : List Loc), va_P (dC, dI) vwCl (wd 93 ad (layX ad cy) σ) H → va_S (WA 93 ad) s.heap H locs → ∀ (ls : Array Slot), lv_has ls 6 [(2, .int x2)] → W p l e rmX0_stretchOf s m args below meth c H locs 0 0 (MQ below (Qiw (dC, dI) 93 ad (layX ad cy) res σ) args s 0 0 (WA 93 ad)) (F0 m 84 ls []) := by
    intro x2 hf H locs hP hS ls hl
    unfold fX0_stretchOf_B84 at hf
    refine lv_iload_n hx hb dX0_stretchOf_84 rfl (lv_at hl 0 rfl) ?_
    exact xt_iret hx hb hr hP hS (Option.some.inj hf) rfl dX0_stretchOf_85 hlocks
  have loop4 : ∀ (x1 : Int32) (n4 : Nat) (x2 : Int32) (x3 : Int32), fX0_stretchOf_L4 cx σ x1 (fun y2 => fX0_stretchOf_B84 cx σ y2) n4 x2 x3 = some res → ∀ (H : Heap) (locs : List Loc), va_P (dC, dI) vwCl (wd 93 ad (layX ad cy) σ) H → va_S (WA 93 ad) s.heap H locs → ∀ (ls : Array Slot), lv_has ls 6 [(0, .ref (ad (15 + 9 * cx))), (1, .int x1), (2, .int x2), (3, .int x3)] → W p l e rmX0_stretchOf s m args below meth c H locs 0 0 (MQ below (Qiw (dC, dI) 93 ad (layX ad cy) res σ) args s 0 0 (WA 93 ad)) (F0 m 4 ls []) := by
    intro x1 n4
    induction n4 with
    | zero => intro x2 x3 hf; simp [fX0_stretchOf_L4] at hf
    | succ n4 ih4 =>
      intro x2 x3 hf H locs hP hS ls hl
      rw [fX0_stretchOf_L4] at hf
      have kB51 : ∀ (x2 : Int32) (x3 : Int32) (x4 : Int32) (t1 : Int32), fX0_stretchOf_B51 cx (fX0_stretchOf_L4 cx σ x1 (fun y2 => fX0_stretchOf_B84 cx σ y2) n4) (fun y2 => fX0_stretchOf_B84 cx σ y2) σ x1 x2 x3 x4 t1 = some res → ∀ (H : Heap) (locs : List Loc), va_P (dC, dI) vwCl (wd 93 ad (layX ad cy) σ) H → va_S (WA 93 ad) s.heap H locs → ∀ (ls : Array Slot), lv_has ls 6 [(0, .ref (ad (15 + 9 * cx))), (1, .int x1), (2, .int x2), (3, .int x3), (4, .int x4)] → W p l e rmX0_stretchOf s m args below meth c H locs 0 0 (MQ below (Qiw (dC, dI) 93 ad (layX ad cy) res σ) args s 0 0 (WA 93 ad)) (F0 m 51 ls [.int t1, .ref (ad ((15 + 9 * cx) + 1))]) := by
        intro x2 x3 x4 t1 hf H locs hP hS ls hl
        unfold fX0_stretchOf_B51 at hf
        obtain ⟨g1, hf⟩ := gd_some hf
        refine xt_iald hx hb hK hP ((15 + 9 * cx) + 1) (by omega) 0 (LX0_nodeByPlace ad cy cx hcx _) rfl g1 dX0_stretchOf_51 ?_
        refine lv_topi (fun v2 ev2 => ?_)
        have hf := nm_to hf ev2
        refine lv_istore (lv' := [(5, .int v2), (0, .ref (ad (15 + 9 * cx))), (1, .int x1), (2, .int x2), (3, .int x3), (4, .int x4)]) hx hb dX0_stretchOf_52 hl (by decide) rfl (fun ls hl => ?_)
        refine lv_iload_n hx hb dX0_stretchOf_54 rfl (lv_at hl 3 rfl) ?_
        refine lv_aload_n hx hb dX0_stretchOf_55 rfl (lv_at hl 1 rfl) ?_
        refine xt_get (ci := 0) (C := RX0) (T := TX0) (n := 10) (v := .ref (ad ((15 + 9 * cx) + 2))) hx hb hts iX0_stretchOf_X0 hown hK hP (15 + 9 * cx) (by omega) (LX0_obj ad cy cx hcx _) rfl 1 (by decide) w4 rfl dX0_stretchOf_56 ?_
        refine lv_iload hx hb dX0_stretchOf_59 (lv_at hl 5 rfl) ?_
        obtain ⟨g3, hf⟩ := gd_some hf
        refine xt_iald hx hb hK hP ((15 + 9 * cx) + 2) (by omega) 0 (LX0_point ad cy cx hcx _) rfl g3 dX0_stretchOf_61 ?_
        refine lv_aload_n hx hb dX0_stretchOf_62 rfl (lv_at hl 1 rfl) ?_
        refine xt_get (ci := 0) (C := RX0) (T := TX0) (n := 10) (v := .ref (ad ((15 + 9 * cx) + 2))) hx hb hts iX0_stretchOf_X0 hown hK hP (15 + 9 * cx) (by omega) (LX0_obj ad cy cx hcx _) rfl 1 (by decide) w4 rfl dX0_stretchOf_63 ?_
        refine lv_iload hx hb dX0_stretchOf_66 (lv_at hl 0 rfl) ?_
        obtain ⟨g4, hf⟩ := gd_some hf
        refine xt_iald hx hb hK hP ((15 + 9 * cx) + 2) (by omega) 0 (LX0_point ad cy cx hcx _) rfl g4 dX0_stretchOf_68 ?_
        refine lv_isub hx hb dX0_stretchOf_69 ?_
        refine lv_sipush (v := 360) hx hb dX0_stretchOf_70 (by decide) ?_
        obtain ⟨r5, qr5, hf⟩ := bd_some hf
        refine xt_callSi (As := [.int ((σ ((15 + 9 * cx) + 2) x4.toNatClampNeg) - (σ ((15 + 9 * cx) + 2) v2.toNatClampNeg)), .int 360]) (rest := [.int x2]) ⟨hx, hb, hml, hown, hts⟩ (mJ9_floorMod_7cf53 l dC dI 93 ad (layX ad cy) cy hJ σ ((σ ((15 + 9 * cx) + 2) x4.toNatClampNeg) - (σ ((15 + 9 * cx) + 2) v2.toNatClampNeg)) 360 r5 qr5) (va_cwS 2 hts gX0_stretchOf_J9_floorMod_7cf53 rfl rfl rfl dmJ9_floorMod_7cf53 ⟨Nat.le_of_ble_eq_true rfl, Nat.le_of_ble_eq_true rfl⟩) hK hP hS rfl rfl hl.1 (Nat.le_of_ble_eq_true rfl) ⟨Nat.zero_le _, Nat.zero_le _⟩ dX0_stretchOf_73 (fun H locs hP hS => ?_)
        refine lv_iadd hx hb dX0_stretchOf_76 ?_
        refine lv_topi (fun v6 ev6 => ?_)
        have hf := nm_to hf ev6
        refine lv_istore_n (lv' := [(2, .int v6), (5, .int v2), (0, .ref (ad (15 + 9 * cx))), (1, .int x1), (3, .int x3), (4, .int x4)]) hx hb dX0_stretchOf_77 rfl hl (by decide) rfl (fun ls hl => ?_)
        obtain ⟨v7, ev7⟩ : ∃ y : Int32, y = x3 + 1 := ⟨_, rfl⟩
        have hf := nm_to hf ev7
        refine lv_iinc (v := v7) (lv' := [(3, .int v7), (2, .int v6), (5, .int v2), (0, .ref (ad (15 + 9 * cx))), (1, .int x1), (4, .int x4)]) hx hb dX0_stretchOf_78 hl (k := 4) rfl (by rw [ev7]; rfl) (by decide) rfl (fun ls hl => ?_)
        refine lv_goto (tgt := 4) hx hb dX0_stretchOf_81 (by decide) ?_
        exact ih4 v6 v7 hf H locs hP hS ls (lv_sub hl [3, 4, 1, 0] rfl)
      refine lv_iload_n hx hb dX0_stretchOf_4 rfl (lv_at hl 3 rfl) ?_
      refine lv_aload_n hx hb dX0_stretchOf_5 rfl (lv_at hl 0 rfl) ?_
      refine xt_get (ci := 0) (C := RX0) (T := TX0) (n := 10) (v := .int (σ (15 + 9 * cx) 5)) hx hb hts iX0_stretchOf_X0 hown hK hP (15 + 9 * cx) (by omega) (LX0_obj ad cy cx hcx _) rfl 5 (by decide) w1 rfl dX0_stretchOf_6 ?_
      refine lv_icmp_ge (tgt := 84) hx hb dX0_stretchOf_9 (by decide) (fun c8 => ?_) (fun c8 => ?_)
      · have hf := (if_pos c8).symm.trans hf
        exact kB84 x2 hf H locs hP hS ls (lv_sub hl [2] rfl)
      · have hf := (if_neg c8).symm.trans hf
        refine lv_aload_n hx hb dX0_stretchOf_12 rfl (lv_at hl 0 rfl) ?_
        refine xt_get (ci := 0) (C := RX0) (T := TX0) (n := 10) (v := .ref (ad ((15 + 9 * cx) + 1))) hx hb hts iX0_stretchOf_X0 hown hK hP (15 + 9 * cx) (by omega) (LX0_obj ad cy cx hcx _) rfl 0 (by decide) w2 rfl dX0_stretchOf_13 ?_
        refine lv_iload_n hx hb dX0_stretchOf_16 rfl (lv_at hl 3 rfl) ?_
        obtain ⟨g9, hf⟩ := gd_some hf
        refine xt_iald hx hb hK hP ((15 + 9 * cx) + 1) (by omega) 0 (LX0_nodeByPlace ad cy cx hcx _) rfl g9 dX0_stretchOf_17 ?_
        refine lv_topi (fun v10 ev10 => ?_)
        have hf := nm_to hf ev10
        refine lv_istore (lv' := [(4, .int v10), (0, .ref (ad (15 + 9 * cx))), (1, .int x1), (2, .int x2), (3, .int x3)]) hx hb dX0_stretchOf_18 hl (by decide) rfl (fun ls hl => ?_)
        refine lv_aload_n hx hb dX0_stretchOf_20 rfl (lv_at hl 1 rfl) ?_
        refine xt_get (ci := 0) (C := RX0) (T := TX0) (n := 10) (v := .ref (ad ((15 + 9 * cx) + 3))) hx hb hts iX0_stretchOf_X0 hown hK hP (15 + 9 * cx) (by omega) (LX0_obj ad cy cx hcx _) rfl 2 (by decide) w3 rfl dX0_stretchOf_21 ?_
        refine lv_iload hx hb dX0_stretchOf_24 (lv_at hl 0 rfl) ?_
        obtain ⟨g11, hf⟩ := gd_some hf
        refine xt_iald hx hb hK hP ((15 + 9 * cx) + 3) (by omega) 0 (LX0_owner ad cy cx hcx _) rfl g11 dX0_stretchOf_26 ?_
        refine lv_iload_n hx hb dX0_stretchOf_27 rfl (lv_at hl 2 rfl) ?_
        refine lv_icmp_ne (tgt := 78) hx hb dX0_stretchOf_28 (by decide) (fun c12 => ?_) (fun c12 => ?_)
        · have hf := (if_neg c12).symm.trans hf
          obtain ⟨v13, ev13⟩ : ∃ y : Int32, y = x3 + 1 := ⟨_, rfl⟩
          have hf := nm_to hf ev13
          refine lv_iinc (v := v13) (lv' := [(3, .int v13), (4, .int v10), (0, .ref (ad (15 + 9 * cx))), (1, .int x1), (2, .int x2)]) hx hb dX0_stretchOf_78 hl (k := 4) rfl (by rw [ev13]; rfl) (by decide) rfl (fun ls hl => ?_)
          refine lv_goto (tgt := 4) hx hb dX0_stretchOf_81 (by decide) ?_
          exact ih4 x2 v13 hf H locs hP hS ls (lv_sub hl [2, 3, 4, 0] rfl)
        · have hf := (if_pos c12).symm.trans hf
          refine lv_aload_n hx hb dX0_stretchOf_31 rfl (lv_at hl 1 rfl) ?_
          refine xt_get (ci := 0) (C := RX0) (T := TX0) (n := 10) (v := .ref (ad ((15 + 9 * cx) + 1))) hx hb hts iX0_stretchOf_X0 hown hK hP (15 + 9 * cx) (by omega) (LX0_obj ad cy cx hcx _) rfl 0 (by decide) w2 rfl dX0_stretchOf_32 ?_
          refine lv_iload_n hx hb dX0_stretchOf_35 rfl (lv_at hl 4 rfl) ?_
          refine lv_if_ne (tgt := 48) hx hb dX0_stretchOf_36 (by decide) (fun c14 => ?_) (fun c14 => ?_)
          · have hf := (if_neg c14).symm.trans hf
            refine lv_iload_n hx hb dX0_stretchOf_48 rfl (lv_at hl 4 rfl) ?_
            refine lv_iconst (v := 1) hx hb dX0_stretchOf_49 (by decide) ?_
            refine lv_isub hx hb dX0_stretchOf_50 ?_
            exact kB51 x2 x3 v10 (x3 - 1) hf H locs hP hS ls (lv_sub hl [1, 2, 3, 4, 0] rfl)
          · have hf := (if_pos c14).symm.trans hf
            refine lv_aload_n hx hb dX0_stretchOf_39 rfl (lv_at hl 1 rfl) ?_
            refine xt_get (ci := 0) (C := RX0) (T := TX0) (n := 10) (v := .int (σ (15 + 9 * cx) 5)) hx hb hts iX0_stretchOf_X0 hown hK hP (15 + 9 * cx) (by omega) (LX0_obj ad cy cx hcx _) rfl 5 (by decide) w1 rfl dX0_stretchOf_40 ?_
            refine lv_iconst (v := 1) hx hb dX0_stretchOf_43 (by decide) ?_
            refine lv_isub hx hb dX0_stretchOf_44 ?_
            refine lv_goto (tgt := 51) hx hb dX0_stretchOf_45 (by decide) ?_
            exact kB51 x2 x3 v10 ((σ (15 + 9 * cx) 5) - 1) hf H locs hP hS ls (lv_sub hl [1, 2, 3, 4, 0] rfl)
  unfold fX0_stretchOf at hf
  obtain ⟨H, eH⟩ : ∃ H : Heap, H = s.heap := ⟨_, rfl⟩
  rw [← eH] at hP
  have hS : va_S (WA 93 ad) s.heap H [] := by rw [eH]; exact hS
  suffices K : W p l e rmX0_stretchOf s m args below meth c H [] 0 0 (MQ below (Qiw (dC, dI) 93 ad (layX ad cy) res σ) args s 0 0 (WA 93 ad)) (F0 m 0 ls []) by rw [eH] at K; exact K
  clear eH
  obtain ⟨locs, elocs⟩ : ∃ z : List Loc, z = [] := ⟨_, rfl⟩
  rw [← elocs] at hS ⊢
  refine lv_iconst (v := 0) hx hb dX0_stretchOf_0 (by decide) ?_
  refine lv_istore_n (lv' := [(2, .int 0), (0, .ref (ad (15 + 9 * cx))), (1, .int a1)]) hx hb dX0_stretchOf_1 rfl hl (by decide) rfl (fun ls hl => ?_)
  refine lv_iconst (v := 0) hx hb dX0_stretchOf_2 (by decide) ?_
  refine lv_istore_n (lv' := [(3, .int 0), (2, .int 0), (0, .ref (ad (15 + 9 * cx))), (1, .int a1)]) hx hb dX0_stretchOf_3 rfl hl (by decide) rfl (fun ls hl => ?_)
  exact loop4 a1 1000 0 0 hf H locs hP hS ls (lv_sub hl [2, 3, 1, 0] rfl)
def fX0_ownerBehind_B45 (cx : Nat) (σ : St) : Option Int32 :=
  some (-1 : Int32)
def fX0_ownerBehind_L2 (cx : Nat) (σ : St) (x1 : Int32) (x2 : Int32) (K2_45 : Option Int32) : Nat → Int32 → Option Int32
  | 0, _ => none
  | n2 + 1, x3 => if (σ (15 + 9 * cx) 5) ≤ x3 then (K2_45) else (gd (okZ (σ (15 + 9 * cx) 5)) <| gd (okI (jrem (x1 + x3) (σ (15 + 9 * cx) 5)) 80) <| gd (okI (σ ((15 + 9 * cx) + 1) (jrem (x1 + x3) (σ (15 + 9 * cx) 5)).toNatClampNeg) 80) <| nm (σ ((15 + 9 * cx) + 3) (σ ((15 + 9 * cx) + 1) (jrem (x1 + x3) (σ (15 + 9 * cx) 5)).toNatClampNeg).toNatClampNeg) fun v5 => if v5 = x2 then (nm (x3 + 1) fun v7 => (fX0_ownerBehind_L2 cx σ x1 x2 K2_45 n2) v7) else (some v5))
def fX0_ownerBehind (cx : Nat) (σ : St) (a1 : Int32) (a2 : Int32) : Option Int32 :=
  fX0_ownerBehind_L2 cx σ a1 a2 (fX0_ownerBehind_B45 cx σ) 1000 1
abbrev rmX0_ownerBehind : Room := { frames := 0, cells := 0, slots := 0, locals := 0 }
theorem dmX0_ownerBehind : yX0_ownerBehind.cls = RX0 ∧ yX0_ownerBehind.cls ≠ "java/lang/invoke/MethodHandle" ∧ yX0_ownerBehind.cls ≠ "java/lang/invoke/VarHandle" ∧ (parseMethodDescriptor yX0_ownerBehind.desc).map (fun d => d.parameters.length) = some 2 := by decide +kernel
theorem iX0_ownerBehind_X0 : ∀ w ∈ wsX00, w ∈ wsX0_ownerBehind := fun w h => List.mem_cons_of_mem _ (List.mem_append_right _ (h))
set_option maxHeartbeats 8000000 in
set_option maxRecDepth 100000 in
theorem mX0_ownerBehind (l : Launch) (dC : Nat → ClassId) (dI : Nat → Nat → Nat) (ad : Nat → Nat) (cy : Nat → ClassId) (hJ : WJ 93 ad) (cx : Nat) (hcx : cx < 2) (σ : St) (a1 : Int32) (a2 : Int32) (res : Int32) (hf : fX0_ownerBehind cx σ a1 a2 = some res) : CMi l yX0_ownerBehind wsX0_ownerBehind rmX0_ownerBehind (dC, dI) (tysX cy) 93 ad (layX ad cy) [.ref (ad (15 + 9 * cx)), .int a1, .int a2] σ res σ := by
  refine Met.ofW (cc := cX0_ownerBehind) (maxL := 5) (ret := (some .int)) (by decide) rfl ?_
  intro p e s m args below meth c s₁ B hml hv
  obtain ⟨hargs, hP, hK⟩ := hv
  have hx := B.exec
  have hb := B.bytes
  have hr := B.returns
  have hts := atoms_spec (ws := wsX0_ownerBehind) B.pre
  have hown : s.vm.findClass RX0 = some m.cls := findClass_of_methodNamed B.named
  have hlocks := B.notSynchronized
  have w1 := hts (.fieldLink RX0 27 "PierRings$Circle" "count" "I") (List.mem_of_getElem? (i := 1) rfl)
  have w2 := hts (.fieldLink RX0 18 "PierRings$Circle" "owner" "[I") (List.mem_of_getElem? (i := 2) rfl)
  have w3 := hts (.fieldLink RX0 9 "PierRings$Circle" "nodeByPlace" "[I") (List.mem_of_getElem? (i := 3) rfl)
  have hS : va_S (WA 93 ad) s.heap s.heap [] := va_S.rf
  have hfr : entryFrame m args 5 = F0 m 0 ((lg_sl [.ref (ad (15 + 9 * cx)), .int a1, .int a2] ++ List.replicate (5 - (lg_sl [.ref (ad (15 + 9 * cx)), .int a1, .int a2]).length) Slot.unset).toArray) [] := by rw [hargs]; exact lg_entry_eq _ _ _
  rw [hfr]
  have hl := lv_entry ([.ref (ad (15 + 9 * cx)), .int a1, .int a2]) (n := 5) (Nat.le_of_ble_eq_true rfl)
  generalize (lg_sl [.ref (ad (15 + 9 * cx)), .int a1, .int a2] ++ List.replicate (5 - (lg_sl [.ref (ad (15 + 9 * cx)), .int a1, .int a2]).length) Slot.unset).toArray = ls at hl ⊢
  have hl : lv_has ls 5 [(0, .ref (ad (15 + 9 * cx))), (1, .int a1), (2, .int a2)] := hl
  clear hfr hargs B
  show W p l e rmX0_ownerBehind s m args below meth c s.heap [] 0 0 (MQ below (Qiw (dC, dI) 93 ad (layX ad cy) res σ) args s 0 0 (WA 93 ad)) (F0 m 0 ls [])
  have kB45 : fX0_ownerBehind_B45 cx σ = some res → ∀ (H : Heap) (locs : List Loc), va_P (dC, dI) vwCl (wd 93 ad (layX ad cy) σ) H → va_S (WA 93 ad) s.heap H locs → ∀ (ls : Array Slot), lv_has ls 5 [] → W p l e rmX0_ownerBehind s m args below meth c H locs 0 0 (MQ below (Qiw (dC, dI) 93 ad (layX ad cy) res σ) args s 0 0 (WA 93 ad)) (F0 m 45 ls []) := by
    intro  hf H locs hP hS ls hl
    unfold fX0_ownerBehind_B45 at hf
    refine lv_iconst (v := (-1)) hx hb dX0_ownerBehind_45 (by decide) ?_
    exact xt_iret hx hb hr hP hS (Option.some.inj hf) rfl dX0_ownerBehind_46 hlocks
  have loop2 : ∀ (x1 : Int32) (x2 : Int32) (n2 : Nat) (x3 : Int32), fX0_ownerBehind_L2 cx σ x1 x2 (fX0_ownerBehind_B45 cx σ) n2 x3 = some res → ∀ (H : Heap) (locs : List Loc), va_P (dC, dI) vwCl (wd 93 ad (layX ad cy) σ) H → va_S (WA 93 ad) s.heap H locs → ∀ (ls : Array Slot), lv_has ls 5 [(0, .ref (ad (15 + 9 * cx))), (1, .int x1), (2, .int x2), (3, .int x3)] → W p l e rmX0_ownerBehind s m args below meth c H locs 0 0 (MQ below (Qiw (dC, dI) 93 ad (layX ad cy) res σ) args s 0 0 (WA 93 ad)) (F0 m 2 ls []) := by
    intro x1 x2 n2
    induction n2 with
    | zero => intro x3 hf; simp [fX0_ownerBehind_L2] at hf
    | succ n2 ih2 =>
      intro x3 hf H locs hP hS ls hl
      rw [fX0_ownerBehind_L2] at hf
      refine lv_iload_n hx hb dX0_ownerBehind_2 rfl (lv_at hl 3 rfl) ?_
      refine lv_aload_n hx hb dX0_ownerBehind_3 rfl (lv_at hl 0 rfl) ?_
      refine xt_get (ci := 0) (C := RX0) (T := TX0) (n := 10) (v := .int (σ (15 + 9 * cx) 5)) hx hb hts iX0_ownerBehind_X0 hown hK hP (15 + 9 * cx) (by omega) (LX0_obj ad cy cx hcx _) rfl 5 (by decide) w1 rfl dX0_ownerBehind_4 ?_
      refine lv_icmp_ge (tgt := 45) hx hb dX0_ownerBehind_7 (by decide) (fun c1 => ?_) (fun c1 => ?_)
      · have hf := (if_pos c1).symm.trans hf
        exact kB45 hf H locs hP hS ls (lv_sub hl [] rfl)
      · have hf := (if_neg c1).symm.trans hf
        refine lv_aload_n hx hb dX0_ownerBehind_10 rfl (lv_at hl 0 rfl) ?_
        refine xt_get (ci := 0) (C := RX0) (T := TX0) (n := 10) (v := .ref (ad ((15 + 9 * cx) + 3))) hx hb hts iX0_ownerBehind_X0 hown hK hP (15 + 9 * cx) (by omega) (LX0_obj ad cy cx hcx _) rfl 2 (by decide) w2 rfl dX0_ownerBehind_11 ?_
        refine lv_aload_n hx hb dX0_ownerBehind_14 rfl (lv_at hl 0 rfl) ?_
        refine xt_get (ci := 0) (C := RX0) (T := TX0) (n := 10) (v := .ref (ad ((15 + 9 * cx) + 1))) hx hb hts iX0_ownerBehind_X0 hown hK hP (15 + 9 * cx) (by omega) (LX0_obj ad cy cx hcx _) rfl 0 (by decide) w3 rfl dX0_ownerBehind_15 ?_
        refine lv_iload_n hx hb dX0_ownerBehind_18 rfl (lv_at hl 1 rfl) ?_
        refine lv_iload_n hx hb dX0_ownerBehind_19 rfl (lv_at hl 3 rfl) ?_
        refine lv_iadd hx hb dX0_ownerBehind_20 ?_
        refine lv_aload_n hx hb dX0_ownerBehind_21 rfl (lv_at hl 0 rfl) ?_
        refine xt_get (ci := 0) (C := RX0) (T := TX0) (n := 10) (v := .int (σ (15 + 9 * cx) 5)) hx hb hts iX0_ownerBehind_X0 hown hK hP (15 + 9 * cx) (by omega) (LX0_obj ad cy cx hcx _) rfl 5 (by decide) w1 rfl dX0_ownerBehind_22 ?_
        obtain ⟨g2, hf⟩ := gd_some hf
        refine xt_irem hx hb dX0_ownerBehind_25 (okZ_ne g2) ?_
        obtain ⟨g3, hf⟩ := gd_some hf
        refine xt_iald hx hb hK hP ((15 + 9 * cx) + 1) (by omega) 0 (LX0_nodeByPlace ad cy cx hcx _) rfl g3 dX0_ownerBehind_26 ?_
        obtain ⟨g4, hf⟩ := gd_some hf
        refine xt_iald hx hb hK hP ((15 + 9 * cx) + 3) (by omega) 0 (LX0_owner ad cy cx hcx _) rfl g4 dX0_ownerBehind_27 ?_
        refine lv_topi (fun v5 ev5 => ?_)
        have hf := nm_to hf ev5
        refine lv_istore (lv' := [(4, .int v5), (0, .ref (ad (15 + 9 * cx))), (1, .int x1), (2, .int x2), (3, .int x3)]) hx hb dX0_ownerBehind_28 hl (by decide) rfl (fun ls hl => ?_)
        refine lv_iload hx hb dX0_ownerBehind_30 (lv_at hl 0 rfl) ?_
        refine lv_iload_n hx hb dX0_ownerBehind_32 rfl (lv_at hl 3 rfl) ?_
        refine lv_icmp_eq (tgt := 39) hx hb dX0_ownerBehind_33 (by decide) (fun c6 => ?_) (fun c6 => ?_)
        · have hf := (if_pos c6).symm.trans hf
          obtain ⟨v7, ev7⟩ : ∃ y : Int32, y = x3 + 1 := ⟨_, rfl⟩
          have hf := nm_to hf ev7
          refine lv_iinc (v := v7) (lv' := [(3, .int v7), (4, .int v5), (0, .ref (ad (15 + 9 * cx))), (1, .int x1), (2, .int x2)]) hx hb dX0_ownerBehind_39 hl (k := 4) rfl (by rw [ev7]; rfl) (by decide) rfl (fun ls hl => ?_)
          refine lv_goto (tgt := 2) hx hb dX0_ownerBehind_42 (by decide) ?_
          exact ih2 v7 hf H locs hP hS ls (lv_sub hl [2, 3, 4, 0] rfl)
        · have hf := (if_neg c6).symm.trans hf
          refine lv_iload hx hb dX0_ownerBehind_36 (lv_at hl 0 rfl) ?_
          exact xt_iret hx hb hr hP hS (Option.some.inj hf) rfl dX0_ownerBehind_38 hlocks
  unfold fX0_ownerBehind at hf
  obtain ⟨H, eH⟩ : ∃ H : Heap, H = s.heap := ⟨_, rfl⟩
  rw [← eH] at hP
  have hS : va_S (WA 93 ad) s.heap H [] := by rw [eH]; exact hS
  suffices K : W p l e rmX0_ownerBehind s m args below meth c H [] 0 0 (MQ below (Qiw (dC, dI) 93 ad (layX ad cy) res σ) args s 0 0 (WA 93 ad)) (F0 m 0 ls []) by rw [eH] at K; exact K
  clear eH
  obtain ⟨locs, elocs⟩ : ∃ z : List Loc, z = [] := ⟨_, rfl⟩
  rw [← elocs] at hS ⊢
  refine lv_iconst (v := 1) hx hb dX0_ownerBehind_0 (by decide) ?_
  refine lv_istore_n (lv' := [(3, .int 1), (0, .ref (ad (15 + 9 * cx))), (1, .int a1), (2, .int a2)]) hx hb dX0_ownerBehind_1 rfl hl (by decide) rfl (fun ls hl => ?_)
  exact loop2 a1 a2 1000 1 hf H locs hP hS ls (lv_sub hl [1, 2, 3, 0] rfl)
def fX0_neighboursOf_B58 (cx : Nat) (σ : St) (x2 : Int32) : Option Int32 :=
  some x2
def fX0_neighboursOf_L4 (cx : Nat) (σ : St) (x1 : Int32) (K4_58 : Int32 → Option Int32) : Nat → Int32 → Int32 → Option Int32
  | 0, _, _ => none
  | n4 + 1, x2, x3 => if (σ (15 + 9 * cx) 5) ≤ x3 then (K4_58 x2) else (gd (okI x3 80) <| gd (okI (σ ((15 + 9 * cx) + 1) x3.toNatClampNeg) 80) <| if (σ ((15 + 9 * cx) + 3) (σ ((15 + 9 * cx) + 1) x3.toNatClampNeg).toNatClampNeg) = x1 then (bd (fX0_ownerBehind cx σ x3 x1) fun r6 => if r6 = (-1 : Int32) then (nm (x2 ||| 0) fun v10 => nm (x3 + 1) fun v11 => (fX0_neighboursOf_L4 cx σ x1 K4_58 n4) v10 v11) else (nm (x2 ||| ((1 : Int32) <<< (r6 &&& 31))) fun v8 => nm (x3 + 1) fun v9 => (fX0_neighboursOf_L4 cx σ x1 K4_58 n4) v8 v9)) else (nm (x3 + 1) fun v5 => (fX0_neighboursOf_L4 cx σ x1 K4_58 n4) x2 v5))
def fX0_neighboursOf (cx : Nat) (σ : St) (a1 : Int32) : Option Int32 :=
  fX0_neighboursOf_L4 cx σ a1 (fun y2 => fX0_neighboursOf_B58 cx σ y2) 1000 0 0
abbrev rmX0_neighboursOf : Room := { frames := 1, cells := 0, slots := 0, locals := 24 }
theorem dmX0_neighboursOf : yX0_neighboursOf.cls = RX0 ∧ yX0_neighboursOf.cls ≠ "java/lang/invoke/MethodHandle" ∧ yX0_neighboursOf.cls ≠ "java/lang/invoke/VarHandle" ∧ (parseMethodDescriptor yX0_neighboursOf.desc).map (fun d => d.parameters.length) = some 1 := by decide +kernel
theorem iX0_neighboursOf_X0 : ∀ w ∈ wsX00, w ∈ wsX0_neighboursOf := fun w h => List.mem_cons_of_mem _ (List.mem_append_right _ (h))
set_option maxHeartbeats 8000000 in
set_option maxRecDepth 100000 in
theorem mX0_neighboursOf (l : Launch) (dC : Nat → ClassId) (dI : Nat → Nat → Nat) (ad : Nat → Nat) (cy : Nat → ClassId) (hJ : WJ 93 ad) (cx : Nat) (hcx : cx < 2) (σ : St) (a1 : Int32) (res : Int32) (hf : fX0_neighboursOf cx σ a1 = some res) : CMi l yX0_neighboursOf wsX0_neighboursOf rmX0_neighboursOf (dC, dI) (tysX cy) 93 ad (layX ad cy) [.ref (ad (15 + 9 * cx)), .int a1] σ res σ := by
  refine Met.ofW (cc := cX0_neighboursOf) (maxL := 5) (ret := (some .int)) (by decide) rfl ?_
  intro p e s m args below meth c s₁ B hml hv
  obtain ⟨hargs, hP, hK⟩ := hv
  have hx := B.exec
  have hb := B.bytes
  have hr := B.returns
  have hts := atoms_spec (ws := wsX0_neighboursOf) B.pre
  have hown : s.vm.findClass RX0 = some m.cls := findClass_of_methodNamed B.named
  have hlocks := B.notSynchronized
  have w1 := hts (.fieldLink RX0 27 "PierRings$Circle" "count" "I") (List.mem_of_getElem? (i := 1) rfl)
  have w2 := hts (.fieldLink RX0 18 "PierRings$Circle" "owner" "[I") (List.mem_of_getElem? (i := 2) rfl)
  have w3 := hts (.fieldLink RX0 9 "PierRings$Circle" "nodeByPlace" "[I") (List.mem_of_getElem? (i := 3) rfl)
  have hS : va_S (WA 93 ad) s.heap s.heap [] := va_S.rf
  have hfr : entryFrame m args 5 = F0 m 0 ((lg_sl [.ref (ad (15 + 9 * cx)), .int a1] ++ List.replicate (5 - (lg_sl [.ref (ad (15 + 9 * cx)), .int a1]).length) Slot.unset).toArray) [] := by rw [hargs]; exact lg_entry_eq _ _ _
  rw [hfr]
  have hl := lv_entry ([.ref (ad (15 + 9 * cx)), .int a1]) (n := 5) (Nat.le_of_ble_eq_true rfl)
  generalize (lg_sl [.ref (ad (15 + 9 * cx)), .int a1] ++ List.replicate (5 - (lg_sl [.ref (ad (15 + 9 * cx)), .int a1]).length) Slot.unset).toArray = ls at hl ⊢
  have hl : lv_has ls 5 [(0, .ref (ad (15 + 9 * cx))), (1, .int a1)] := hl
  clear hfr hargs B
  show W p l e rmX0_neighboursOf s m args below meth c s.heap [] 0 0 (MQ below (Qiw (dC, dI) 93 ad (layX ad cy) res σ) args s 0 0 (WA 93 ad)) (F0 m 0 ls [])
  have kB58 : ∀ (x2 : Int32), fX0_neighboursOf_B58 cx σ x2 = some res → ∀ (H : Heap) (locs : List Loc), va_P (dC, dI) vwCl (wd 93 ad (layX ad cy) σ) H → va_S (WA 93 ad) s.heap H locs → ∀ (ls : Array Slot), lv_has ls 5 [(2, .int x2)] → W p l e rmX0_neighboursOf s m args below meth c H locs 0 0 (MQ below (Qiw (dC, dI) 93 ad (layX ad cy) res σ) args s 0 0 (WA 93 ad)) (F0 m 58 ls []) := by
    intro x2 hf H locs hP hS ls hl
    unfold fX0_neighboursOf_B58 at hf
    refine lv_iload_n hx hb dX0_neighboursOf_58 rfl (lv_at hl 0 rfl) ?_
    exact xt_iret hx hb hr hP hS (Option.some.inj hf) rfl dX0_neighboursOf_59 hlocks
  have loop4 : ∀ (x1 : Int32) (n4 : Nat) (x2 : Int32) (x3 : Int32), fX0_neighboursOf_L4 cx σ x1 (fun y2 => fX0_neighboursOf_B58 cx σ y2) n4 x2 x3 = some res → ∀ (H : Heap) (locs : List Loc), va_P (dC, dI) vwCl (wd 93 ad (layX ad cy) σ) H → va_S (WA 93 ad) s.heap H locs → ∀ (ls : Array Slot), lv_has ls 5 [(0, .ref (ad (15 + 9 * cx))), (1, .int x1), (2, .int x2), (3, .int x3)] → W p l e rmX0_neighboursOf s m args below meth c H locs 0 0 (MQ below (Qiw (dC, dI) 93 ad (layX ad cy) res σ) args s 0 0 (WA 93 ad)) (F0 m 4 ls []) := by
    intro x1 n4
    induction n4 with
    | zero => intro x2 x3 hf; simp [fX0_neighboursOf_L4] at hf
    | succ n4 ih4 =>
      intro x2 x3 hf H locs hP hS ls hl
      rw [fX0_neighboursOf_L4] at hf
      refine lv_iload_n hx hb dX0_neighboursOf_4 rfl (lv_at hl 3 rfl) ?_
      refine lv_aload_n hx hb dX0_neighboursOf_5 rfl (lv_at hl 0 rfl) ?_
      refine xt_get (ci := 0) (C := RX0) (T := TX0) (n := 10) (v := .int (σ (15 + 9 * cx) 5)) hx hb hts iX0_neighboursOf_X0 hown hK hP (15 + 9 * cx) (by omega) (LX0_obj ad cy cx hcx _) rfl 5 (by decide) w1 rfl dX0_neighboursOf_6 ?_
      refine lv_icmp_ge (tgt := 58) hx hb dX0_neighboursOf_9 (by decide) (fun c1 => ?_) (fun c1 => ?_)
      · have hf := (if_pos c1).symm.trans hf
        exact kB58 x2 hf H locs hP hS ls (lv_sub hl [2] rfl)
      · have hf := (if_neg c1).symm.trans hf
        refine lv_aload_n hx hb dX0_neighboursOf_12 rfl (lv_at hl 0 rfl) ?_
        refine xt_get (ci := 0) (C := RX0) (T := TX0) (n := 10) (v := .ref (ad ((15 + 9 * cx) + 3))) hx hb hts iX0_neighboursOf_X0 hown hK hP (15 + 9 * cx) (by omega) (LX0_obj ad cy cx hcx _) rfl 2 (by decide) w2 rfl dX0_neighboursOf_13 ?_
        refine lv_aload_n hx hb dX0_neighboursOf_16 rfl (lv_at hl 0 rfl) ?_
        refine xt_get (ci := 0) (C := RX0) (T := TX0) (n := 10) (v := .ref (ad ((15 + 9 * cx) + 1))) hx hb hts iX0_neighboursOf_X0 hown hK hP (15 + 9 * cx) (by omega) (LX0_obj ad cy cx hcx _) rfl 0 (by decide) w3 rfl dX0_neighboursOf_17 ?_
        refine lv_iload_n hx hb dX0_neighboursOf_20 rfl (lv_at hl 3 rfl) ?_
        obtain ⟨g2, hf⟩ := gd_some hf
        refine xt_iald hx hb hK hP ((15 + 9 * cx) + 1) (by omega) 0 (LX0_nodeByPlace ad cy cx hcx _) rfl g2 dX0_neighboursOf_21 ?_
        obtain ⟨g3, hf⟩ := gd_some hf
        refine xt_iald hx hb hK hP ((15 + 9 * cx) + 3) (by omega) 0 (LX0_owner ad cy cx hcx _) rfl g3 dX0_neighboursOf_22 ?_
        refine lv_iload_n hx hb dX0_neighboursOf_23 rfl (lv_at hl 1 rfl) ?_
        refine lv_icmp_ne (tgt := 52) hx hb dX0_neighboursOf_24 (by decide) (fun c4 => ?_) (fun c4 => ?_)
        · have hf := (if_neg c4).symm.trans hf
          obtain ⟨v5, ev5⟩ : ∃ y : Int32, y = x3 + 1 := ⟨_, rfl⟩
          have hf := nm_to hf ev5
          refine lv_iinc (v := v5) (lv' := [(3, .int v5), (0, .ref (ad (15 + 9 * cx))), (1, .int x1), (2, .int x2)]) hx hb dX0_neighboursOf_52 hl (k := 3) rfl (by rw [ev5]; rfl) (by decide) rfl (fun ls hl => ?_)
          refine lv_goto (tgt := 4) hx hb dX0_neighboursOf_55 (by decide) ?_
          exact ih4 x2 v5 hf H locs hP hS ls (lv_sub hl [1, 2, 3, 0] rfl)
        · have hf := (if_pos c4).symm.trans hf
          refine lv_aload_n hx hb dX0_neighboursOf_27 rfl (lv_at hl 0 rfl) ?_
          refine lv_iload_n hx hb dX0_neighboursOf_28 rfl (lv_at hl 3 rfl) ?_
          refine lv_iload_n hx hb dX0_neighboursOf_29 rfl (lv_at hl 1 rfl) ?_
          obtain ⟨r6, qr6, hf⟩ := bd_some hf
          refine xt_callVi (As := [.int x3, .int x1]) (rest := []) (C := RX0) (ci := 0) ⟨hx, hb, hml, hown, hts⟩ (15 + 9 * cx) (mX0_ownerBehind l dC dI ad cy hJ cx hcx σ x3 x1 r6 qr6) (cwV 2 hts gX0_neighboursOf_X0_ownerBehind rfl rfl rfl dmX0_ownerBehind ⟨Nat.le_of_ble_eq_true rfl, Nat.le_of_ble_eq_true rfl⟩) hK hP hS (by omega) (LX0_obj ad cy cx hcx _) rfl rfl rfl hl.1 (Nat.le_of_ble_eq_true rfl) ⟨Nat.zero_le _, Nat.zero_le _⟩ dX0_neighboursOf_30 (fun H locs hP hS => ?_)
          refine lv_istore (lv' := [(4, .int r6), (0, .ref (ad (15 + 9 * cx))), (1, .int x1), (2, .int x2), (3, .int x3)]) hx hb dX0_neighboursOf_33 hl (by decide) rfl (fun ls hl => ?_)
          refine lv_iload_n hx hb dX0_neighboursOf_35 rfl (lv_at hl 3 rfl) ?_
          refine lv_iload hx hb dX0_neighboursOf_36 (lv_at hl 0 rfl) ?_
          refine lv_iconst (v := (-1)) hx hb dX0_neighboursOf_38 (by decide) ?_
          refine lv_icmp_ne (tgt := 46) hx hb dX0_neighboursOf_39 (by decide) (fun c7 => ?_) (fun c7 => ?_)
          · have hf := (if_neg c7).symm.trans hf
            refine lv_iconst (v := 1) hx hb dX0_neighboursOf_46 (by decide) ?_
            refine lv_iload hx hb dX0_neighboursOf_47 (lv_at hl 0 rfl) ?_
            refine lv_ishl hx hb dX0_neighboursOf_49 ?_
            refine lv_ior hx hb dX0_neighboursOf_50 ?_
            refine lv_topi (fun v8 ev8 => ?_)
            have hf := nm_to hf ev8
            refine lv_istore_n (lv' := [(2, .int v8), (4, .int r6), (0, .ref (ad (15 + 9 * cx))), (1, .int x1), (3, .int x3)]) hx hb dX0_neighboursOf_51 rfl hl (by decide) rfl (fun ls hl => ?_)
            obtain ⟨v9, ev9⟩ : ∃ y : Int32, y = x3 + 1 := ⟨_, rfl⟩
            have hf := nm_to hf ev9
            refine lv_iinc (v := v9) (lv' := [(3, .int v9), (2, .int v8), (4, .int r6), (0, .ref (ad (15 + 9 * cx))), (1, .int x1)]) hx hb dX0_neighboursOf_52 hl (k := 4) rfl (by rw [ev9]; rfl) (by decide) rfl (fun ls hl => ?_)
            refine lv_goto (tgt := 4) hx hb dX0_neighboursOf_55 (by decide) ?_
            exact ih4 v8 v9 hf H locs hP hS ls (lv_sub hl [3, 4, 1, 0] rfl)
          · have hf := (if_pos c7).symm.trans hf
            refine lv_iconst (v := 0) hx hb dX0_neighboursOf_42 (by decide) ?_
            refine lv_goto (tgt := 50) hx hb dX0_neighboursOf_43 (by decide) ?_
            refine lv_ior hx hb dX0_neighboursOf_50 ?_
            refine lv_topi (fun v10 ev10 => ?_)
            have hf := nm_to hf ev10
            refine lv_istore_n (lv' := [(2, .int v10), (4, .int r6), (0, .ref (ad (15 + 9 * cx))), (1, .int x1), (3, .int x3)]) hx hb dX0_neighboursOf_51 rfl hl (by decide) rfl (fun ls hl => ?_)
            obtain ⟨v11, ev11⟩ : ∃ y : Int32, y = x3 + 1 := ⟨_, rfl⟩
            have hf := nm_to hf ev11
            refine lv_iinc (v := v11) (lv' := [(3, .int v11), (2, .int v10), (4, .int r6), (0, .ref (ad (15 + 9 * cx))), (1, .int x1)]) hx hb dX0_neighboursOf_52 hl (k := 4) rfl (by rw [ev11]; rfl) (by decide) rfl (fun ls hl => ?_)
            refine lv_goto (tgt := 4) hx hb dX0_neighboursOf_55 (by decide) ?_
            exact ih4 v10 v11 hf H locs hP hS ls (lv_sub hl [3, 4, 1, 0] rfl)
  unfold fX0_neighboursOf at hf
  obtain ⟨H, eH⟩ : ∃ H : Heap, H = s.heap := ⟨_, rfl⟩
  rw [← eH] at hP
  have hS : va_S (WA 93 ad) s.heap H [] := by rw [eH]; exact hS
  suffices K : W p l e rmX0_neighboursOf s m args below meth c H [] 0 0 (MQ below (Qiw (dC, dI) 93 ad (layX ad cy) res σ) args s 0 0 (WA 93 ad)) (F0 m 0 ls []) by rw [eH] at K; exact K
  clear eH
  obtain ⟨locs, elocs⟩ : ∃ z : List Loc, z = [] := ⟨_, rfl⟩
  rw [← elocs] at hS ⊢
  refine lv_iconst (v := 0) hx hb dX0_neighboursOf_0 (by decide) ?_
  refine lv_istore_n (lv' := [(2, .int 0), (0, .ref (ad (15 + 9 * cx))), (1, .int a1)]) hx hb dX0_neighboursOf_1 rfl hl (by decide) rfl (fun ls hl => ?_)
  refine lv_iconst (v := 0) hx hb dX0_neighboursOf_2 (by decide) ?_
  refine lv_istore_n (lv' := [(3, .int 0), (2, .int 0), (0, .ref (ad (15 + 9 * cx))), (1, .int a1)]) hx hb dX0_neighboursOf_3 rfl hl (by decide) rfl (fun ls hl => ?_)
  exact loop4 a1 1000 0 0 hf H locs hP hS ls (lv_sub hl [2, 3, 1, 0] rfl)
