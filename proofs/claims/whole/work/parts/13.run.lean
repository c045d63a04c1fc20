def fX5_lettersThatAre_B48 (w : Nat) (σ : St) (x2 : Int32) : Option Int32 :=
  some x2
def fX5_lettersThatAre_L2 (w : Nat) (σ : St) (K2_48 : Int32 → Option Int32) : Nat → Int32 → Option Int32
  | 0, _ => none
  | n2 + 1, x2 => if (nI (lenS.getD w 0)) ≤ x2 then (K2_48 x2) else (if (σ 3 0) ≤ ((σ 3 5) + x2) then (K2_48 x2) else (gd (okI ((σ 3 5) + x2) 60) <| gd (okI x2 (lenS.getD w 0)) <| if (σ 4 ((σ 3 5) + x2).toNatClampNeg) = (chS w x2.toNatClampNeg) then (nm (x2 + 1) fun v6 => (fX5_lettersThatAre_L2 w σ K2_48 n2) v6) else (K2_48 x2)))
def fX5_lettersThatAre (w : Nat) (σ : St) : Option Int32 :=
  fX5_lettersThatAre_L2 w σ (fun y2 => fX5_lettersThatAre_B48 w σ y2) 1000 0
abbrev rmX5_lettersThatAre : Room := { frames := 4, cells := 0, slots := 0, locals := 101 }
theorem dmX5_lettersThatAre : yX5_lettersThatAre.cls = RX5 ∧ yX5_lettersThatAre.cls ≠ "java/lang/invoke/MethodHandle" ∧ yX5_lettersThatAre.cls ≠ "java/lang/invoke/VarHandle" ∧ (parseMethodDescriptor yX5_lettersThatAre.desc).map (fun d => d.parameters.length) = some 1 := by decide +kernel
theorem iX5_lettersThatAre_X5 : ∀ w ∈ wsX50, w ∈ wsX5_lettersThatAre := fun w h => List.mem_cons_of_mem _ (List.mem_append_right _ (h))
set_option maxHeartbeats 8000000 in
set_option maxRecDepth 100000 in
theorem mX5_lettersThatAre (l : Launch) (dC : Nat → ClassId) (dI : Nat → Nat → Nat) (ad : Nat → Nat) (cy : Nat → ClassId) (sa : SA) (hJ : WJ 93 ad) (w : Nat) (hw : w < 8) (σ : St) (res : Int32) (hf : fX5_lettersThatAre w σ = some res) : CMiE l yX5_lettersThatAre wsX5_lettersThatAre rmX5_lettersThatAre (dC, dI) (tysX cy) 93 ad (layX ad cy) sa [.ref (ad 3), .ref (sa.1 w)] σ res σ := by
  refine Met.ofW (cc := cX5_lettersThatAre) (maxL := 3) (ret := (some .int)) (by decide) rfl ?_
  intro p e s m args below meth c s₁ B hml hv
  obtain ⟨hargs, hP, hK, hE⟩ := hv
  have hx := B.exec
  have hb := B.bytes
  have hr := B.returns
  have hts := atoms_spec (ws := wsX5_lettersThatAre) B.pre
  have hown : s.vm.findClass RX5 = some m.cls := findClass_of_methodNamed B.named
  have hlocks := B.notSynchronized
  have w1 := hts (.fieldLink RX5 28 "PierRings$OrderText" "position" "I") (List.mem_of_getElem? (i := 1) rfl)
  have w2 := hts (.fieldLink RX5 9 "PierRings$OrderText" "length" "I") (List.mem_of_getElem? (i := 2) rfl)
  have w3 := hts (.fieldLink RX5 24 "PierRings$OrderText" "signs" "[C") (List.mem_of_getElem? (i := 3) rfl)
  have hS : va_S (WA 93 ad) s.heap s.heap [] := va_S.rf
  have hfr : entryFrame m args 3 = F0 m 0 ((lg_sl [.ref (ad 3), .ref (sa.1 w)] ++ List.replicate (3 - (lg_sl [.ref (ad 3), .ref (sa.1 w)]).length) Slot.unset).toArray) [] := by rw [hargs]; exact lg_entry_eq _ _ _
  rw [hfr]
  have hl := lv_entry ([.ref (ad 3), .ref (sa.1 w)]) (n := 3) (Nat.le_of_ble_eq_true rfl)
  generalize (lg_sl [.ref (ad 3), .ref (sa.1 w)] ++ List.replicate (3 - (lg_sl [.ref (ad 3), .ref (sa.1 w)]).length) Slot.unset).toArray = ls at hl ⊢
  have hl : lv_has ls 3 [(0, .ref (ad 3)), (1, .ref (sa.1 w))] := hl
  clear hfr hargs B
  show W p l e rmX5_lettersThatAre s m args below meth c s.heap [] 0 0 (MQ below (Qiw (dC, dI) 93 ad (layX ad cy) res σ) args s 0 0 (WA 93 ad)) (F0 m 0 ls [])
  have kB48 : ∀ (x2 : Int32), fX5_lettersThatAre_B48 w σ x2 = some res → ∀ (H : Heap) (locs : List Loc), va_P (dC, dI) vwCl (wd 93 ad (layX ad cy) σ) H → va_S (WA 93 ad) s.heap H locs → ∀ (ls : Array Slot), lv_has ls 3 [(2, .int x2)] → W p l e rmX5_lettersThatAre s m args below meth c H locs 0 0 (MQ below (Qiw (dC, dI) 93 ad (layX ad cy) res σ) args s 0 0 (WA 93 ad)) (F0 m 48 ls []) := by
    intro x2 hf H locs hP hS ls hl
    unfold fX5_lettersThatAre_B48 at hf
    refine lv_iload_n hx hb dX5_lettersThatAre_48 rfl (lv_at hl 0 rfl) ?_
    exact xt_iret hx hb hr hP hS (Option.some.inj hf) rfl dX5_lettersThatAre_49 hlocks
  have loop2 : ∀ (n2 : Nat) (x2 : Int32), fX5_lettersThatAre_L2 w σ (fun y2 => fX5_lettersThatAre_B48 w σ y2) n2 x2 = some res → ∀ (H : Heap) (locs : List Loc), va_P (dC, dI) vwCl (wd 93 ad (layX ad cy) σ) H → va_S (WA 93 ad) s.heap H locs → ∀ (ls : Array Slot), lv_has ls 3 [(0, .ref (ad 3)), (1, .ref (sa.1 w)), (2, .int x2)] → W p l e rmX5_lettersThatAre s m args below meth c H locs 0 0 (MQ below (Qiw (dC, dI) 93 ad (layX ad cy) res σ) args s 0 0 (WA 93 ad)) (F0 m 2 ls []) := by
    intro n2
    induction n2 with
    | zero => intro x2 hf; simp [fX5_lettersThatAre_L2] at hf
    | succ n2 ih2 =>
      intro x2 hf H locs hP hS ls hl
      rw [fX5_lettersThatAre_L2] at hf
      refine lv_iload_n hx hb dX5_lettersThatAre_2 rfl (lv_at hl 2 rfl) ?_
      refine lv_aload_n hx hb dX5_lettersThatAre_3 rfl (lv_at hl 1 rfl) ?_
      refine xt_callViE (As := []) (rest := [.int x2]) ⟨hx, hb, hml, hown, hts⟩ (sa.1 w) (mJ0_length_8abf5 l dC dI ad cy sa w hw σ) (cwV 0 hts gX5_lettersThatAre_J0_length_8abf5 rfl rfl rfl dmJ0_length_8abf5 ⟨Nat.le_of_ble_eq_true rfl, Nat.le_of_ble_eq_true rfl⟩) hK hP hS hE (vk_recv hE.2.1 hw hS) rfl rfl hl.1 (Nat.le_of_ble_eq_true rfl) ⟨Nat.zero_le _, Nat.zero_le _⟩ dX5_lettersThatAre_4 (fun H locs hP hS => ?_)
      refine lv_icmp_ge (tgt := 48) hx hb dX5_lettersThatAre_7 (by decide) (fun c1 => ?_) (fun c1 => ?_)
      · have hf := (if_pos c1).symm.trans hf
        exact kB48 x2 hf H locs hP hS ls (lv_sub hl [2] rfl)
      · have hf := (if_neg c1).symm.trans hf
        refine lv_aload_n hx hb dX5_lettersThatAre_10 rfl (lv_at hl 0 rfl) ?_
        refine xt_get (ci := 5) (C := RX5) (T := TX5) (n := 6) (v := .int (σ 3 5)) hx hb hts iX5_lettersThatAre_X5 hown hK hP 3 (by decide) (LX5_obj ad cy _) rfl 5 (by decide) w1 rfl dX5_lettersThatAre_11 ?_
        refine lv_iload_n hx hb dX5_lettersThatAre_14 rfl (lv_at hl 2 rfl) ?_
        refine lv_iadd hx hb dX5_lettersThatAre_15 ?_
        refine lv_aload_n hx hb dX5_lettersThatAre_16 rfl (lv_at hl 0 rfl) ?_
        refine xt_get (ci := 5) (C := RX5) (T := TX5) (n := 6) (v := .int (σ 3 0)) hx hb hts iX5_lettersThatAre_X5 hown hK hP 3 (by decide) (LX5_obj ad cy _) rfl 0 (by decide) w2 rfl dX5_lettersThatAre_17 ?_
        refine lv_icmp_ge (tgt := 48) hx hb dX5_lettersThatAre_20 (by decide) (fun c2 => ?_) (fun c2 => ?_)
        · have hf := (if_pos c2).symm.trans hf
          exact kB48 x2 hf H locs hP hS ls (lv_sub hl [2] rfl)
        · have hf := (if_neg c2).symm.trans hf
          refine lv_aload_n hx hb dX5_lettersThatAre_23 rfl (lv_at hl 0 rfl) ?_
          refine xt_get (ci := 5) (C := RX5) (T := TX5) (n := 6) (v := .ref (ad 4)) hx hb hts iX5_lettersThatAre_X5 hown hK hP 3 (by decide) (LX5_obj ad cy _) rfl 4 (by decide) w3 rfl dX5_lettersThatAre_24 ?_
          refine lv_aload_n hx hb dX5_lettersThatAre_27 rfl (lv_at hl 0 rfl) ?_
          refine xt_get (ci := 5) (C := RX5) (T := TX5) (n := 6) (v := .int (σ 3 5)) hx hb hts iX5_lettersThatAre_X5 hown hK hP 3 (by decide) (LX5_obj ad cy _) rfl 5 (by decide) w1 rfl dX5_lettersThatAre_28 ?_
          refine lv_iload_n hx hb dX5_lettersThatAre_31 rfl (lv_at hl 2 rfl) ?_
          refine lv_iadd hx hb dX5_lettersThatAre_32 ?_
          obtain ⟨g3, hf⟩ := gd_some hf
          refine xt_cald hx hb hK hP 4 (by decide) 2 (LX5_signs ad cy _) rfl g3 dX5_lettersThatAre_33 ?_
          refine lv_aload_n hx hb dX5_lettersThatAre_34 rfl (lv_at hl 1 rfl) ?_
          refine lv_iload_n hx hb dX5_lettersThatAre_35 rfl (lv_at hl 2 rfl) ?_
          obtain ⟨g4, hf⟩ := gd_some hf
          refine xt_callViE (As := [.int x2]) (rest := [.int (σ 4 ((σ 3 5) + x2).toNatClampNeg)]) ⟨hx, hb, hml, hown, hts⟩ (sa.1 w) (mJ0_charAt_x l dC dI ad cy sa w hw x2 g4 σ) (cwV 1 hts gX5_lettersThatAre_J0_charAt_5068e rfl rfl rfl dmJ0_charAt_5068e ⟨Nat.le_of_ble_eq_true rfl, Nat.le_of_ble_eq_true rfl⟩) hK hP hS hE (vk_recv hE.2.1 hw hS) rfl rfl hl.1 (Nat.le_of_ble_eq_true rfl) ⟨Nat.zero_le _, Nat.zero_le _⟩ dX5_lettersThatAre_36 (fun H locs hP hS => ?_)
          refine lv_icmp_ne (tgt := 48) hx hb dX5_lettersThatAre_39 (by decide) (fun c5 => ?_) (fun c5 => ?_)
          · have hf := (if_neg c5).symm.trans hf
            exact kB48 x2 hf H locs hP hS ls (lv_sub hl [2] rfl)
          · have hf := (if_pos c5).symm.trans hf
            obtain ⟨v6, ev6⟩ : ∃ y : Int32, y = x2 + 1 := ⟨_, rfl⟩
            have hf := nm_to hf ev6
            refine lv_iinc (v := v6) (lv' := [(2, .int v6), (0, .ref (ad 3)), (1, .ref (sa.1 w))]) hx hb dX5_lettersThatAre_42 hl (k := 2) rfl (by rw [ev6]; rfl) (by decide) rfl (fun ls hl => ?_)
            refine lv_goto (tgt := 2) hx hb dX5_lettersThatAre_45 (by decide) ?_
            exact ih2 v6 hf H locs hP hS ls (lv_sub hl [1, 2, 0] rfl)
  unfold fX5_lettersThatAre at hf
  obtain ⟨H, eH⟩ : ∃ H : Heap, H = s.heap := ⟨_, rfl⟩
  rw [← eH] at hP
  have hS : va_S (WA 93 ad) s.heap H [] := by rw [eH]; exact hS
  suffices K : W p l e rmX5_lettersThatAre s m args below meth c H [] 0 0 (MQ below (Qiw (dC, dI) 93 ad (layX ad cy) res σ) args s 0 0 (WA 93 ad)) (F0 m 0 ls []) by rw [eH] at K; exact K
  clear eH
  obtain ⟨locs, elocs⟩ : ∃ z : List Loc, z = [] := ⟨_, rfl⟩
  rw [← elocs] at hS ⊢
  refine lv_iconst (v := 0) hx hb dX5_lettersThatAre_0 (by decide) ?_
  refine lv_istore_n (lv' := [(2, .int 0), (0, .ref (ad 3)), (1, .ref (sa.1 w))]) hx hb dX5_lettersThatAre_1 rfl hl (by decide) rfl (fun ls hl => ?_)
  exact loop2 1000 0 hf H locs hP hS ls (lv_sub hl [1, 2, 0] rfl)
def fX5_readWord_B59 (σ : St) (x1 : Int32) : Option (Int32 × St) :=
  nm (su σ 3 5 ((σ 3 5) + x1)) fun σ1 => some (0, σ1)
def fX5_readWord_L4 (K4_59 : St → Int32 → Option (Int32 × St)) : Nat → St → Int32 → Int32 → Option (Int32 × St)
  | 0, _, _, _ => none
  | n4 + 1, σ, x1, x2 => if (7 : Int32) < x2 then (K4_59 σ x1) else (gd (okI x2 8) <| bd (fX5_lettersThatAre x2.toNatClampNeg σ) fun r4 => gd (okI x2 8) <| if r4 = (nI (lenS.getD x2.toNatClampNeg 0)) then (nm (su σ 3 1 x2) fun σ9 => nm (su σ9 3 5 ((σ9 3 5) + r4)) fun σ10 => some (1, σ10)) else (nm (if x1 < r4 then r4 else x1) fun v7 => nm (x2 + 1) fun v8 => (fX5_readWord_L4 K4_59 n4) σ v7 v8))
def fX5_readWord (σ : St) : Option (Int32 × St) :=
  fX5_readWord_L4 (fun σ y1 => fX5_readWord_B59 σ y1) 1000 σ 0 0
abbrev rmX5_readWord : Room := { frames := 5, cells := 0, slots := 0, locals := 123 }
theorem dmX5_readWord : yX5_readWord.cls = RX5 ∧ yX5_readWord.cls ≠ "java/lang/invoke/MethodHandle" ∧ yX5_readWord.cls ≠ "java/lang/invoke/VarHandle" ∧ (parseMethodDescriptor yX5_readWord.desc).map (fun d => d.parameters.length) = some 0 := by decide +kernel
theorem iX5_readWord_X5 : ∀ w ∈ wsX50, w ∈ wsX5_readWord := fun w h => List.mem_cons_of_mem _ (List.mem_append_right _ (h))
set_option maxHeartbeats 8000000 in
set_option maxRecDepth 100000 in
theorem mX5_readWord (l : Launch) (dC : Nat → ClassId) (dI : Nat → Nat → Nat) (ad : Nat → Nat) (cy : Nat → ClassId) (sa : SA) (hJ : WJ 93 ad) (σ : St) (res : (Int32 × St)) (hf : fX5_readWord σ = some res) : CMiE l yX5_readWord wsX5_readWord rmX5_readWord (dC, dI) (tysX cy) 93 ad (layX ad cy) sa [.ref (ad 3)] σ res.1 res.2 := by
  refine Met.ofW (cc := cX5_readWord) (maxL := 4) (ret := (some .boolean)) (by decide) rfl ?_
  intro p e s m args below meth c s₁ B hml hv
  obtain ⟨hargs, hP, hK, hE⟩ := hv
  have hx := B.exec
  have hb := B.bytes
  have hr := B.returns
  have hts := atoms_spec (ws := wsX5_readWord) B.pre
  have hown : s.vm.findClass RX5 = some m.cls := findClass_of_methodNamed B.named
  have hlocks := B.notSynchronized
  have w1 := hts (.fieldLink RX5 15 "PierRings$OrderText" "kind" "I") (List.mem_of_getElem? (i := 1) rfl)
  have w2 := hts (.fieldLink RX5 28 "PierRings$OrderText" "position" "I") (List.mem_of_getElem? (i := 2) rfl)
  have w3 := hts (.methodLink RX5 69 Lib.Math.max.name) (List.mem_of_getElem? (i := 3) rfl)
  have w4 := hts (.static Lib.Math.max.name) (List.mem_of_getElem? (i := 4) rfl)
  have w5 := hts (.initialized "java/lang/Math") (List.mem_of_getElem? (i := 5) rfl)
  have w6 := hts (.code Lib.Math.max.name Lib.Math.max.code 2 (some .int)) (List.mem_of_getElem? (i := 6) rfl)
  have hS : va_S (WA 93 ad) s.heap s.heap [] := va_S.rf
  have hfr : entryFrame m args 4 = F0 m 0 ((lg_sl [.ref (ad 3)] ++ List.replicate (4 - (lg_sl [.ref (ad 3)]).length) Slot.unset).toArray) [] := by rw [hargs]; exact lg_entry_eq _ _ _
  rw [hfr]
  have hl := lv_entry ([.ref (ad 3)]) (n := 4) (Nat.le_of_ble_eq_true rfl)
  generalize (lg_sl [.ref (ad 3)] ++ List.replicate (4 - (lg_sl [.ref (ad 3)]).length) Slot.unset).toArray = ls at hl ⊢
  have hl : lv_has ls 4 [(0, .ref (ad 3))] := hl
  clear hfr hargs B
  show W p l e rmX5_readWord s m args below meth c s.heap [] 0 0 (MQ below (Qiw (dC, dI) 93 ad (layX ad cy) res.1 res.2) args s 0 0 (WA 93 ad)) (F0 m 0 ls [])
  have kB59 : ∀ (σ : St) (x1 : Int32), fX5_readWord_B59 σ x1 = some res → ∀ (H : Heap) (locs : List Loc), va_P (dC, dI) vwCl (wd 93 ad (layX ad cy) σ) H → va_S (WA 93 ad) s.heap H locs → ∀ (ls : Array Slot), lv_has ls 4 [(0, .ref (ad 3)), (1, .int x1)] → W p l e rmX5_readWord s m args below meth c H locs 0 0 (MQ below (Qiw (dC, dI) 93 ad (layX ad cy) res.1 res.2) args s 0 0 (WA 93 ad)) (F0 m 59 ls []) := by
    intro σ x1 hf H locs hP hS ls hl
    unfold fX5_readWord_B59 at hf
    refine lv_aload_n hx hb dX5_readWord_59 rfl (lv_at hl 0 rfl) ?_
    refine lv_dup hx hb dX5_readWord_60 rfl ?_
    refine xt_get (ci := 5) (C := RX5) (T := TX5) (n := 6) (v := .int (σ 3 5)) hx hb hts iX5_readWord_X5 hown hK hP 3 (by decide) (LX5_obj ad cy _) rfl 5 (by decide) w2 rfl dX5_readWord_61 ?_
    refine lv_iload_n hx hb dX5_readWord_64 rfl (lv_at hl 1 rfl) ?_
    refine lv_iadd hx hb dX5_readWord_65 ?_
    refine xt_put (ci := 5) (C := RX5) (T := TX5) (n := 6) hx hb hts iX5_readWord_X5 tyX5 tyX5_ok nmX5 hown hK hP hJ hS 3 (by decide) (LX5_obj ad cy _) rfl 5 (by decide) w2 rfl (v := ((σ 3 5) + x1)) rfl rfl (Nat.le_of_ble_eq_true rfl) (LX5_obj ad cy _) dX5_readWord_66 (fun H locs hP hS => ?_)
    obtain ⟨σ1, eσ1⟩ : ∃ z : St, z = su σ 3 5 ((σ 3 5) + x1) := ⟨_, rfl⟩
    rw [← eσ1] at hP
    have hf := nm_to hf eσ1
    refine lv_iconst (v := 0) hx hb dX5_readWord_69 (by decide) ?_
    exact xt_zret hx hb hr rfl hP hS (rs_1 hf) (rs_2 hf) dX5_readWord_70 hlocks
  have loop4 : ∀ (n4 : Nat) (σ : St) (x1 : Int32) (x2 : Int32), fX5_readWord_L4 (fun σ y1 => fX5_readWord_B59 σ y1) n4 σ x1 x2 = some res → ∀ (H : Heap) (locs : List Loc), va_P (dC, dI) vwCl (wd 93 ad (layX ad cy) σ) H → va_S (WA 93 ad) s.heap H locs → ∀ (ls : Array Slot), lv_has ls 4 [(0, .ref (ad 3)), (1, .int x1), (2, .int x2)] → W p l e rmX5_readWord s m args below meth c H locs 0 0 (MQ below (Qiw (dC, dI) 93 ad (layX ad cy) res.1 res.2) args s 0 0 (WA 93 ad)) (F0 m 4 ls []) := by
    intro n4
    induction n4 with
    | zero => intro σ x1 x2 hf; simp [fX5_readWord_L4] at hf
    | succ n4 ih4 =>
      intro σ x1 x2 hf H locs hP hS ls hl
      rw [fX5_readWord_L4] at hf
      refine lv_iload_n hx hb dX5_readWord_4 rfl (lv_at hl 2 rfl) ?_
      refine lv_bipush (v := 7) hx hb dX5_readWord_5 (by decide) ?_
      refine lv_icmp_gt (tgt := 59) hx hb dX5_readWord_7 (by decide) (fun c2 => ?_) (fun c2 => ?_)
      · have hf := (if_pos c2).symm.trans hf
        exact kB59 σ x1 hf H locs hP hS ls (lv_sub hl [0, 1] rfl)
      · have hf := (if_neg c2).symm.trans hf
        refine lv_aload_n hx hb dX5_readWord_10 rfl (lv_at hl 0 rfl) ?_
        refine lv_iload_n hx hb dX5_readWord_11 rfl (lv_at hl 2 rfl) ?_
        obtain ⟨g3, hf⟩ := gd_some hf
        refine xt_callSsE (As := [.int x2]) (rest := [.ref (ad 3)]) ⟨hx, hb, hml, hown, hts⟩ (mX5_wordOf_x l dC dI ad cy sa x2 g3 σ) (va_cwS 1 hts gX5_readWord_X5_wordOf rfl rfl rfl dmX5_wordOf ⟨Nat.le_of_ble_eq_true rfl, Nat.le_of_ble_eq_true rfl⟩) hK hP hS hE rfl rfl hl.1 (Nat.le_of_ble_eq_true rfl) ⟨Nat.zero_le _, Nat.zero_le _⟩ dX5_readWord_12 (fun H locs hP hS => ?_)
        obtain ⟨r4, qr4, hf⟩ := bd_some hf
        refine xt_callViE (As := [.ref (sa.1 x2.toNatClampNeg)]) (rest := []) (C := RX5) ⟨hx, hb, hml, hown, hts⟩ (ad 3) (mX5_lettersThatAre l dC dI ad cy sa hJ x2.toNatClampNeg (okI_lt g3) σ r4 qr4) (cwV 1 hts gX5_readWord_X5_lettersThatAre rfl rfl rfl dmX5_lettersThatAre ⟨Nat.le_of_ble_eq_true rfl, Nat.le_of_ble_eq_true rfl⟩) hK hP hS hE (va_recv hK hP (ci := 5) rfl (wd_atE (by decide) (LX5_obj ad cy _))) rfl rfl hl.1 (Nat.le_of_ble_eq_true rfl) ⟨Nat.zero_le _, Nat.zero_le _⟩ dX5_readWord_15 (fun H locs hP hS => ?_)
        refine lv_istore_n (lv' := [(3, .int r4), (0, .ref (ad 3)), (1, .int x1), (2, .int x2)]) hx hb dX5_readWord_18 rfl hl (by decide) rfl (fun ls hl => ?_)
        refine lv_iload_n hx hb dX5_readWord_19 rfl (lv_at hl 0 rfl) ?_
        refine lv_iload_n hx hb dX5_readWord_20 rfl (lv_at hl 3 rfl) ?_
        obtain ⟨g5, hf⟩ := gd_some hf
        refine xt_callSsE (As := [.int x2]) (rest := [.int r4]) ⟨hx, hb, hml, hown, hts⟩ (mX5_wordOf_x l dC dI ad cy sa x2 g5 σ) (va_cwS 1 hts gX5_readWord_X5_wordOf rfl rfl rfl dmX5_wordOf ⟨Nat.le_of_ble_eq_true rfl, Nat.le_of_ble_eq_true rfl⟩) hK hP hS hE rfl rfl hl.1 (Nat.le_of_ble_eq_true rfl) ⟨Nat.zero_le _, Nat.zero_le _⟩ dX5_readWord_21 (fun H locs hP hS => ?_)
        refine xt_callViE (As := []) (rest := [.int r4]) ⟨hx, hb, hml, hown, hts⟩ (sa.1 x2.toNatClampNeg) (mJ0_length_8abf5 l dC dI ad cy sa x2.toNatClampNeg (okI_lt g5) σ) (cwV 0 hts gX5_readWord_J0_length_8abf5 rfl rfl rfl dmJ0_length_8abf5 ⟨Nat.le_of_ble_eq_true rfl, Nat.le_of_ble_eq_true rfl⟩) hK hP hS hE (vk_recv hE.2.1 (okI_lt g5) hS) rfl rfl hl.1 (Nat.le_of_ble_eq_true rfl) ⟨Nat.zero_le _, Nat.zero_le _⟩ dX5_readWord_24 (fun H locs hP hS => ?_)
        refine lv_icmp_ne (tgt := 47) hx hb dX5_readWord_27 (by decide) (fun c6 => ?_) (fun c6 => ?_)
        · have hf := (if_neg c6).symm.trans hf
          refine lv_iload_n hx hb dX5_readWord_47 rfl (lv_at hl 2 rfl) ?_
          refine lv_iload_n hx hb dX5_readWord_48 rfl (lv_at hl 0 rfl) ?_
          refine va_mmax hx hb (hml.trans hl.1.symm) hown w3 w4 w5 w6 (Nat.le_of_ble_eq_true rfl) (Nat.le_of_ble_eq_true rfl) (Nat.zero_le _) (Nat.zero_le _) dX5_readWord_49 ?_
          refine lv_topi (fun v7 ev7 => ?_)
          have hf := nm_to hf ev7
          refine lv_istore_n (lv' := [(1, .int v7), (3, .int r4), (0, .ref (ad 3)), (2, .int x2)]) hx hb dX5_readWord_52 rfl hl (by decide) rfl (fun ls hl => ?_)
          obtain ⟨v8, ev8⟩ : ∃ y : Int32, y = x2 + 1 := ⟨_, rfl⟩
          have hf := nm_to hf ev8
          refine lv_iinc (v := v8) (lv' := [(2, .int v8), (1, .int v7), (3, .int r4), (0, .ref (ad 3))]) hx hb dX5_readWord_53 hl (k := 3) rfl (by rw [ev8]; rfl) (by decide) rfl (fun ls hl => ?_)
          refine lv_goto (tgt := 4) hx hb dX5_readWord_56 (by decide) ?_
          exact ih4 σ v7 v8 hf H locs hP hS ls (lv_sub hl [3, 1, 0] rfl)
        · have hf := (if_pos c6).symm.trans hf
          refine lv_aload_n hx hb dX5_readWord_30 rfl (lv_at hl 1 rfl) ?_
          refine lv_iload_n hx hb dX5_readWord_31 rfl (lv_at hl 3 rfl) ?_
          refine xt_put (ci := 5) (C := RX5) (T := TX5) (n := 6) hx hb hts iX5_readWord_X5 tyX5 tyX5_ok nmX5 hown hK hP hJ hS 3 (by decide) (LX5_obj ad cy _) rfl 1 (by decide) w1 rfl (v := x2) rfl rfl (Nat.le_of_ble_eq_true rfl) (LX5_obj ad cy _) dX5_readWord_32 (fun H locs hP hS => ?_)
          obtain ⟨σ9, eσ9⟩ : ∃ z : St, z = su σ 3 1 x2 := ⟨_, rfl⟩
          rw [← eσ9] at hP
          have hf := nm_to hf eσ9
          refine lv_aload_n hx hb dX5_readWord_35 rfl (lv_at hl 1 rfl) ?_
          refine lv_dup hx hb dX5_readWord_36 rfl ?_
          refine xt_get (ci := 5) (C := RX5) (T := TX5) (n := 6) (v := .int (σ9 3 5)) hx hb hts iX5_readWord_X5 hown hK hP 3 (by decide) (LX5_obj ad cy _) rfl 5 (by decide) w2 rfl dX5_readWord_37 ?_
          refine lv_iload_n hx hb dX5_readWord_40 rfl (lv_at hl 0 rfl) ?_
          refine lv_iadd hx hb dX5_readWord_41 ?_
          refine xt_put (ci := 5) (C := RX5) (T := TX5) (n := 6) hx hb hts iX5_readWord_X5 tyX5 tyX5_ok nmX5 hown hK hP hJ hS 3 (by decide) (LX5_obj ad cy _) rfl 5 (by decide) w2 rfl (v := ((σ9 3 5) + r4)) rfl rfl (Nat.le_of_ble_eq_true rfl) (LX5_obj ad cy _) dX5_readWord_42 (fun H locs hP hS => ?_)
          obtain ⟨σ10, eσ10⟩ : ∃ z : St, z = su σ9 3 5 ((σ9 3 5) + r4) := ⟨_, rfl⟩
          rw [← eσ10] at hP
          have hf := nm_to hf eσ10
          refine lv_iconst (v := 1) hx hb dX5_readWord_45 (by decide) ?_
          exact xt_zret hx hb hr rfl hP hS (rs_1 hf) (rs_2 hf) dX5_readWord_46 hlocks
  unfold fX5_readWord at hf
  obtain ⟨H, eH⟩ : ∃ H : Heap, H = s.heap := ⟨_, rfl⟩
  rw [← eH] at hP
  have hS : va_S (WA 93 ad) s.heap H [] := by rw [eH]; exact hS
  suffices K : W p l e rmX5_readWord s m args below meth c H [] 0 0 (MQ below (Qiw (dC, dI) 93 ad (layX ad cy) res.1 res.2) args s 0 0 (WA 93 ad)) (F0 m 0 ls []) by rw [eH] at K; exact K
  clear eH
  obtain ⟨locs, elocs⟩ : ∃ z : List Loc, z = [] := ⟨_, rfl⟩
  rw [← elocs] at hS ⊢
  refine lv_iconst (v := 0) hx hb dX5_readWord_0 (by decide) ?_
  refine lv_istore_n (lv' := [(1, .int 0), (0, .ref (ad 3))]) hx hb dX5_readWord_1 rfl hl (by decide) rfl (fun ls hl => ?_)
  refine lv_iconst (v := 0) hx hb dX5_readWord_2 (by decide) ?_
  refine lv_istore_n (lv' := [(2, .int 0), (1, .int 0), (0, .ref (ad 3))]) hx hb dX5_readWord_3 rfl hl (by decide) rfl (fun ls hl => ?_)
  exact loop4 1000 σ 0 0 hf H locs hP hS ls (lv_sub hl [2, 1, 0] rfl)
def fX5_readNext_B18 (σ : St) : Option (Int32 × St) :=
  bd (fX5_readWord σ) fun r1 => if r1.1 = 0 then (some (0, r1.2)) else (gd (okI (r1.2 3 1) 8) <| bd (fX5_readNumber r1.2 (dgF (r1.2 3 1).toNatClampNeg)) fun r4 => nm (su r4.2 3 2 r4.1) fun σ5 => if 0 ≤ (σ5 3 2) then (gd (okI (σ5 3 1) 8) <| if (dgS (σ5 3 1).toNatClampNeg) = 0 then (some (1, σ5)) else (bd (fX5_readSign σ5 32) fun r9 => if r9.1 = 0 then (some (0, r9.2)) else (gd (okI (r9.2 3 1) 8) <| bd (fX5_readNumber r9.2 (dgS (r9.2 3 1).toNatClampNeg)) fun r12 => nm (su r12.2 3 3 r12.1) fun σ13 => if (σ13 3 3) < 0 then (some (0, σ13)) else (some (1, σ13))))) else (some (0, σ5)))
def fX5_readNext (σ : St) : Option (Int32 × St) :=
  if (σ 3 5) ≤ 0 then (fX5_readNext_B18 σ) else (bd (fX5_readSign σ 59) fun r16 => if r16.1 = 0 then (some (0, r16.2)) else (fX5_readNext_B18 r16.2))
abbrev rmX5_readNext : Room := { frames := 6, cells := 0, slots := 0, locals := 146 }
theorem dmX5_readNext : yX5_readNext.cls = RX5 ∧ yX5_readNext.cls ≠ "java/lang/invoke/MethodHandle" ∧ yX5_readNext.cls ≠ "java/lang/invoke/VarHandle" ∧ (parseMethodDescriptor yX5_readNext.desc).map (fun d => d.parameters.length) = some 0 := by decide +kernel
theorem iX5_readNext_X5 : ∀ w ∈ wsX50, w ∈ wsX5_readNext := fun w h => List.mem_cons_of_mem _ (List.mem_append_right _ (h))
set_option maxHeartbeats 8000000 in
set_option maxRecDepth 100000 in
theorem mX5_readNext (l : Launch) (dC : Nat → ClassId) (dI : Nat → Nat → Nat) (ad : Nat → Nat) (cy : Nat → ClassId) (sa : SA) (hJ : WJ 93 ad) (σ : St) (res : (Int32 × St)) (hf : fX5_readNext σ = some res) : CMiE l yX5_readNext wsX5_readNext rmX5_readNext (dC, dI) (tysX cy) 93 ad (layX ad cy) sa [.ref (ad 3)] σ res.1 res.2 := by
  refine Met.ofW (cc := cX5_readNext) (maxL := 1) (ret := (some .boolean)) (by decide) rfl ?_
  intro p e s m args below meth c s₁ B hml hv
  obtain ⟨hargs, hP, hK, hE⟩ := hv
  have hx := B.exec
  have hb := B.bytes
  have hr := B.returns
  have hts := atoms_spec (ws := wsX5_readNext) B.pre
  have hown : s.vm.findClass RX5 = some m.cls := findClass_of_methodNamed B.named
  have hlocks := B.notSynchronized
  have w1 := hts (.fieldLink RX5 28 "PierRings$OrderText" "position" "I") (List.mem_of_getElem? (i := 1) rfl)
  have w2 := hts (.fieldLink RX5 45 "PierRings$OrderText" "DIGITS_OF_FIRST" "[I") (List.mem_of_getElem? (i := 2) rfl)
  have w3 := hts (.fieldLink RX5 15 "PierRings$OrderText" "kind" "I") (List.mem_of_getElem? (i := 3) rfl)
  have w4 := hts (.fieldLink RX5 18 "PierRings$OrderText" "first" "I") (List.mem_of_getElem? (i := 4) rfl)
  have w5 := hts (.fieldLink RX5 53 "PierRings$OrderText" "DIGITS_OF_SECOND" "[I") (List.mem_of_getElem? (i := 5) rfl)
  have w6 := hts (.fieldLink RX5 21 "PierRings$OrderText" "second" "I") (List.mem_of_getElem? (i := 6) rfl)
  have hS : va_S (WA 93 ad) s.heap s.heap [] := va_S.rf
  have hfr : entryFrame m args 1 = F0 m 0 ((lg_sl [.ref (ad 3)] ++ List.replicate (1 - (lg_sl [.ref (ad 3)]).length) Slot.unset).toArray) [] := by rw [hargs]; exact lg_entry_eq _ _ _
  rw [hfr]
  have hl := lv_entry ([.ref (ad 3)]) (n := 1) (Nat.le_of_ble_eq_true rfl)
  generalize (lg_sl [.ref (ad 3)] ++ List.replicate (1 - (lg_sl [.ref (ad 3)]).length) Slot.unset).toArray = ls at hl ⊢
  have hl : lv_has ls 1 [(0, .ref (ad 3))] := hl
  clear hfr hargs B
  show W p l e rmX5_readNext s m args below meth c s.heap [] 0 0 (MQ below (Qiw (dC, dI) 93 ad (layX ad cy) res.1 res.2) args s 0 0 (WA 93 ad)) (F0 m 0 ls [])
  have kB18 : ∀ (σ : St), fX5_readNext_B18 σ = some res → ∀ (H : Heap) (locs : List Loc), va_P (dC, dI) vwCl (wd 93 ad (layX ad cy) σ) H → va_S (WA 93 ad) s.heap H locs → ∀ (ls : Array Slot), lv_has ls 1 [(0, .ref (ad 3))] → W p l e rmX5_readNext s m args below meth c H locs 0 0 (MQ below (Qiw (dC, dI) 93 ad (layX ad cy) res.1 res.2) args s 0 0 (WA 93 ad)) (F0 m 18 ls []) := by
    intro σ hf H locs hP hS ls hl
    unfold fX5_readNext_B18 at hf
    refine lv_aload_n hx hb dX5_readNext_18 rfl (lv_at hl 0 rfl) ?_
    obtain ⟨r1, qr1, hf⟩ := bd_some hf
    refine xt_callViE (As := []) (rest := []) (C := RX5) ⟨hx, hb, hml, hown, hts⟩ (ad 3) (mX5_readWord l dC dI ad cy sa hJ σ r1 qr1) (cwV 0 hts gX5_readNext_X5_readWord rfl rfl rfl dmX5_readWord ⟨Nat.le_of_ble_eq_true rfl, Nat.le_of_ble_eq_true rfl⟩) hK hP hS hE (va_recv hK hP (ci := 5) rfl (wd_atE (by decide) (LX5_obj ad cy _))) rfl rfl hl.1 (Nat.le_of_ble_eq_true rfl) ⟨Nat.zero_le _, Nat.zero_le _⟩ dX5_readNext_19 (fun H locs hP hS => ?_)
    refine lv_if_ne (tgt := 27) hx hb dX5_readNext_22 (by decide) (fun c2 => ?_) (fun c2 => ?_)
    · have hf := (if_neg c2).symm.trans hf
      refine lv_aload_n hx hb dX5_readNext_27 rfl (lv_at hl 0 rfl) ?_
      refine lv_aload_n hx hb dX5_readNext_28 rfl (lv_at hl 0 rfl) ?_
      refine va_gets hx hb (C := RX5) (n := "DIGITS_OF_FIRST") (d := "[I") hE.2.2.2.2.1.1 hS hown w2 (fun _ h => h) dX5_readNext_29 ?_
      refine lv_aload_n hx hb dX5_readNext_32 rfl (lv_at hl 0 rfl) ?_
      refine xt_get (ci := 5) (C := RX5) (T := TX5) (n := 6) (v := .int (r1.2 3 1)) hx hb hts iX5_readNext_X5 hown hK hP 3 (by decide) (LX5_obj ad cy _) rfl 1 (by decide) w3 rfl dX5_readNext_33 ?_
      obtain ⟨g3, hf⟩ := gd_some hf
      refine va_ti hx hb hE.2.2.2.2.1.2 hS (okI_in g3) rfl dX5_readNext_36 ?_
      obtain ⟨r4, qr4, hf⟩ := bd_some hf
      refine xt_callVi (As := [.int (dgF (r1.2 3 1).toNatClampNeg)]) (rest := [.ref (ad 3)]) (C := RX5) (ci := 5) ⟨hx, hb, hml, hown, hts⟩ 3 (mX5_readNumber l dC dI ad cy hJ r1.2 (dgF (r1.2 3 1).toNatClampNeg) r4 qr4) (cwV 1 hts gX5_readNext_X5_readNumber rfl rfl rfl dmX5_readNumber ⟨Nat.le_of_ble_eq_true rfl, Nat.le_of_ble_eq_true rfl⟩) hK hP hS (by decide) (LX5_obj ad cy _) rfl rfl rfl hl.1 (Nat.le_of_ble_eq_true rfl) ⟨Nat.zero_le _, Nat.zero_le _⟩ dX5_readNext_37 (fun H locs hP hS => ?_)
      refine xt_put (ci := 5) (C := RX5) (T := TX5) (n := 6) hx hb hts iX5_readNext_X5 tyX5 tyX5_ok nmX5 hown hK hP hJ hS 3 (by decide) (LX5_obj ad cy _) rfl 2 (by decide) w4 rfl (v := r4.1) rfl rfl (Nat.le_of_ble_eq_true rfl) (LX5_obj ad cy _) dX5_readNext_40 (fun H locs hP hS => ?_)
      obtain ⟨σ5, eσ5⟩ : ∃ z : St, z = su r4.2 3 2 r4.1 := ⟨_, rfl⟩
      rw [← eσ5] at hP
      have hf := nm_to hf eσ5
      refine lv_aload_n hx hb dX5_readNext_43 rfl (lv_at hl 0 rfl) ?_
      refine xt_get (ci := 5) (C := RX5) (T := TX5) (n := 6) (v := .int (σ5 3 2)) hx hb hts iX5_readNext_X5 hown hK hP 3 (by decide) (LX5_obj ad cy _) rfl 2 (by decide) w4 rfl dX5_readNext_44 ?_
      refine lv_if_ge (tgt := 52) hx hb dX5_readNext_47 (by decide) (fun c6 => ?_) (fun c6 => ?_)
      · have hf := (if_pos c6).symm.trans hf
        refine va_gets hx hb (C := RX5) (n := "DIGITS_OF_SECOND") (d := "[I") hE.2.2.2.2.2.1 hS hown w5 (fun _ h => h) dX5_readNext_52 ?_
        refine lv_aload_n hx hb dX5_readNext_55 rfl (lv_at hl 0 rfl) ?_
        refine xt_get (ci := 5) (C := RX5) (T := TX5) (n := 6) (v := .int (σ5 3 1)) hx hb hts iX5_readNext_X5 hown hK hP 3 (by decide) (LX5_obj ad cy _) rfl 1 (by decide) w3 rfl dX5_readNext_56 ?_
        obtain ⟨g7, hf⟩ := gd_some hf
        refine va_ti hx hb hE.2.2.2.2.2.2 hS (okI_in g7) rfl dX5_readNext_59 ?_
        refine lv_if_ne (tgt := 65) hx hb dX5_readNext_60 (by decide) (fun c8 => ?_) (fun c8 => ?_)
        · have hf := (if_neg c8).symm.trans hf
          refine lv_aload_n hx hb dX5_readNext_65 rfl (lv_at hl 0 rfl) ?_
          refine lv_bipush (v := 32) hx hb dX5_readNext_66 (by decide) ?_
          obtain ⟨r9, qr9, hf⟩ := bd_some hf
          refine xt_callVi (As := [.int 32]) (rest := []) (C := RX5) (ci := 5) ⟨hx, hb, hml, hown, hts⟩ 3 (mX5_readSign l dC dI ad cy hJ σ5 32 r9 qr9) (cwV 1 hts gX5_readNext_X5_readSign rfl rfl rfl dmX5_readSign ⟨Nat.le_of_ble_eq_true rfl, Nat.le_of_ble_eq_true rfl⟩) hK hP hS (by decide) (LX5_obj ad cy _) rfl rfl rfl hl.1 (Nat.le_of_ble_eq_true rfl) ⟨Nat.zero_le _, Nat.zero_le _⟩ dX5_readNext_68 (fun H locs hP hS => ?_)
          refine lv_if_ne (tgt := 76) hx hb dX5_readNext_71 (by decide) (fun c10 => ?_) (fun c10 => ?_)
          · have hf := (if_neg c10).symm.trans hf
            refine lv_aload_n hx hb dX5_readNext_76 rfl (lv_at hl 0 rfl) ?_
            refine lv_aload_n hx hb dX5_readNext_77 rfl (lv_at hl 0 rfl) ?_
            refine va_gets hx hb (C := RX5) (n := "DIGITS_OF_SECOND") (d := "[I") hE.2.2.2.2.2.1 hS hown w5 (fun _ h => h) dX5_readNext_78 ?_
            refine lv_aload_n hx hb dX5_readNext_81 rfl (lv_at hl 0 rfl) ?_
            refine xt_get (ci := 5) (C := RX5) (T := TX5) (n := 6) (v := .int (r9.2 3 1)) hx hb hts iX5_readNext_X5 hown hK hP 3 (by decide) (LX5_obj ad cy _) rfl 1 (by decide) w3 rfl dX5_readNext_82 ?_
            obtain ⟨g11, hf⟩ := gd_some hf
            refine va_ti hx hb hE.2.2.2.2.2.2 hS (okI_in g11) rfl dX5_readNext_85 ?_
            obtain ⟨r12, qr12, hf⟩ := bd_some hf
            refine xt_callVi (As := [.int (dgS (r9.2 3 1).toNatClampNeg)]) (rest := [.ref (ad 3)]) (C := RX5) (ci := 5) ⟨hx, hb, hml, hown, hts⟩ 3 (mX5_readNumber l dC dI ad cy hJ r9.2 (dgS (r9.2 3 1).toNatClampNeg) r12 qr12) (cwV 1 hts gX5_readNext_X5_readNumber rfl rfl rfl dmX5_readNumber ⟨Nat.le_of_ble_eq_true rfl, Nat.le_of_ble_eq_true rfl⟩) hK hP hS (by decide) (LX5_obj ad cy _) rfl rfl rfl hl.1 (Nat.le_of_ble_eq_true rfl) ⟨Nat.zero_le _, Nat.zero_le _⟩ dX5_readNext_86 (fun H locs hP hS => ?_)
            refine xt_put (ci := 5) (C := RX5) (T := TX5) (n := 6) hx hb hts iX5_readNext_X5 tyX5 tyX5_ok nmX5 hown hK hP hJ hS 3 (by decide) (LX5_obj ad cy _) rfl 3 (by decide) w6 rfl (v := r12.1) rfl rfl (Nat.le_of_ble_eq_true rfl) (LX5_obj ad cy _) dX5_readNext_89 (fun H locs hP hS => ?_)
            obtain ⟨σ13, eσ13⟩ : ∃ z : St, z = su r12.2 3 3 r12.1 := ⟨_, rfl⟩
            rw [← eσ13] at hP
            have hf := nm_to hf eσ13
            refine lv_aload_n hx hb dX5_readNext_92 rfl (lv_at hl 0 rfl) ?_
            refine xt_get (ci := 5) (C := RX5) (T := TX5) (n := 6) (v := .int (σ13 3 3)) hx hb hts iX5_readNext_X5 hown hK hP 3 (by decide) (LX5_obj ad cy _) rfl 3 (by decide) w6 rfl dX5_readNext_93 ?_
            refine lv_if_lt (tgt := 103) hx hb dX5_readNext_96 (by decide) (fun c14 => ?_) (fun c14 => ?_)
            · have hf := (if_pos c14).symm.trans hf
              refine lv_iconst (v := 0) hx hb dX5_readNext_103 (by decide) ?_
              exact xt_zret hx hb hr rfl hP hS (rs_1 hf) (rs_2 hf) dX5_readNext_104 hlocks
            · have hf := (if_neg c14).symm.trans hf
              refine lv_iconst (v := 1) hx hb dX5_readNext_99 (by decide) ?_
              refine lv_goto (tgt := 104) hx hb dX5_readNext_100 (by decide) ?_
              exact xt_zret hx hb hr rfl hP hS (rs_1 hf) (rs_2 hf) dX5_readNext_104 hlocks
          · have hf := (if_pos c10).symm.trans hf
            refine lv_iconst (v := 0) hx hb dX5_readNext_74 (by decide) ?_
            exact xt_zret hx hb hr rfl hP hS (rs_1 hf) (rs_2 hf) dX5_readNext_75 hlocks
        · have hf := (if_pos c8).symm.trans hf
          refine lv_iconst (v := 1) hx hb dX5_readNext_63 (by decide) ?_
          exact xt_zret hx hb hr rfl hP hS (rs_1 hf) (rs_2 hf) dX5_readNext_64 hlocks
      · have hf := (if_neg c6).symm.trans hf
        refine lv_iconst (v := 0) hx hb dX5_readNext_50 (by decide) ?_
        exact xt_zret hx hb hr rfl hP hS (rs_1 hf) (rs_2 hf) dX5_readNext_51 hlocks
    · have hf := (if_pos c2).symm.trans hf
      refine lv_iconst (v := 0) hx hb dX5_readNext_25 (by decide) ?_
      exact xt_zret hx hb hr rfl hP hS (rs_1 hf) (rs_2 hf) dX5_readNext_26 hlocks
  unfold fX5_readNext at hf
  obtain ⟨H, eH⟩ : ∃ H : Heap, H = s.heap := ⟨_, rfl⟩
  rw [← eH] at hP
  have hS : va_S (WA 93 ad) s.heap H [] := by rw [eH]; exact hS
  suffices K : W p l e rmX5_readNext s m args below meth c H [] 0 0 (MQ below (Qiw (dC, dI) 93 ad (layX ad cy) res.1 res.2) args s 0 0 (WA 93 ad)) (F0 m 0 ls []) by rw [eH] at K; exact K
  clear eH
  obtain ⟨locs, elocs⟩ : ∃ z : List Loc, z = [] := ⟨_, rfl⟩
  rw [← elocs] at hS ⊢
  refine lv_aload_n hx hb dX5_readNext_0 rfl (lv_at hl 0 rfl) ?_
  refine xt_get (ci := 5) (C := RX5) (T := TX5) (n := 6) (v := .int (σ 3 5)) hx hb hts iX5_readNext_X5 hown hK hP 3 (by decide) (LX5_obj ad cy _) rfl 5 (by decide) w1 rfl dX5_readNext_1 ?_
  refine lv_if_le (tgt := 18) hx hb dX5_readNext_4 (by decide) (fun c15 => ?_) (fun c15 => ?_)
  · have hf := (if_pos c15).symm.trans hf
    exact kB18 σ hf H locs hP hS ls (lv_sub hl [0] rfl)
  · have hf := (if_neg c15).symm.trans hf
    refine lv_aload_n hx hb dX5_readNext_7 rfl (lv_at hl 0 rfl) ?_
    refine lv_bipush (v := 59) hx hb dX5_readNext_8 (by decide) ?_
    obtain ⟨r16, qr16, hf⟩ := bd_some hf
    refine xt_callVi (As := [.int 59]) (rest := []) (C := RX5) (ci := 5) ⟨hx, hb, hml, hown, hts⟩ 3 (mX5_readSign l dC dI ad cy hJ σ 59 r16 qr16) (cwV 1 hts gX5_readNext_X5_readSign rfl rfl rfl dmX5_readSign ⟨Nat.le_of_ble_eq_true rfl, Nat.le_of_ble_eq_true rfl⟩) hK hP hS (by decide) (LX5_obj ad cy _) rfl rfl rfl hl.1 (Nat.le_of_ble_eq_true rfl) ⟨Nat.zero_le _, Nat.zero_le _⟩ dX5_readNext_10 (fun H locs hP hS => ?_)
    refine lv_if_ne (tgt := 18) hx hb dX5_readNext_13 (by decide) (fun c17 => ?_) (fun c17 => ?_)
    · have hf := (if_neg c17).symm.trans hf
      exact kB18 r16.2 hf H locs hP hS ls (lv_sub hl [0] rfl)
    · have hf := (if_pos c17).symm.trans hf
      refine lv_iconst (v := 0) hx hb dX5_readNext_16 (by decide) ?_
      exact xt_zret hx hb hr rfl hP hS (rs_1 hf) (rs_2 hf) dX5_readNext_17 hlocks
def fX5_countOrders_B47 (σ : St) : Option (Int32 × St) :=
  some (((-1000) - (σ 3 5)), σ)
def fX5_countOrders_L6 (K6_47 : St → Option (Int32 × St)) : Nat → St → Int32 → Option (Int32 × St)
  | 0, _, _ => none
  | n6 + 1, σ, x1 => if (60 : Int32) < x1 then (K6_47 σ) else (bd (fX5_readNext σ) fun r2 => if r2.1 = 0 then (some (((-1000) - (r2.2 3 5)), r2.2)) else (if (r2.2 3 5) = (r2.2 3 0) then (some (x1, r2.2)) else (nm (x1 + 1) fun v5 => (fX5_countOrders_L6 K6_47 n6) r2.2 v5)))
def fX5_countOrders (σ : St) : Option (Int32 × St) :=
  bd (fX5_rewind σ) fun r6 => fX5_countOrders_L6 (fun σ => fX5_countOrders_B47 σ) 1000 r6 1
abbrev rmX5_countOrders : Room := { frames := 7, cells := 0, slots := 0, locals := 166 }
theorem dmX5_countOrders : yX5_countOrders.cls = RX5 ∧ yX5_countOrders.cls ≠ "java/lang/invoke/MethodHandle" ∧ yX5_countOrders.cls ≠ "java/lang/invoke/VarHandle" ∧ (parseMethodDescriptor yX5_countOrders.desc).map (fun d => d.parameters.length) = some 0 := by decide +kernel
theorem iX5_countOrders_X5 : ∀ w ∈ wsX50, w ∈ wsX5_countOrders := fun w h => List.mem_cons_of_mem _ (List.mem_append_right _ (h))
set_option maxHeartbeats 8000000 in
set_option maxRecDepth 100000 in
theorem mX5_countOrders (l : Launch) (dC : Nat → ClassId) (dI : Nat → Nat → Nat) (ad : Nat → Nat) (cy : Nat → ClassId) (sa : SA) (hJ : WJ 93 ad) (σ : St) (res : (Int32 × St)) (hf : fX5_countOrders σ = some res) : CMiE l yX5_countOrders wsX5_countOrders rmX5_countOrders (dC, dI) (tysX cy) 93 ad (layX ad cy) sa [.ref (ad 3)] σ res.1 res.2 := by
  refine Met.ofW (cc := cX5_countOrders) (maxL := 2) (ret := (some .int)) (by decide) rfl ?_
  intro p e s m args below meth c s₁ B hml hv
  obtain ⟨hargs, hP, hK, hE⟩ := hv
  have hx := B.exec
  have hb := B.bytes
  have hr := B.returns
  have hts := atoms_spec (ws := wsX5_countOrders) B.pre
  have hown : s.vm.findClass RX5 = some m.cls := findClass_of_methodNamed B.named
  have hlocks := B.notSynchronized
  have w1 := hts (.fieldLink RX5 28 "PierRings$OrderText" "position" "I") (List.mem_of_getElem? (i := 1) rfl)
  have w2 := hts (.fieldLink RX5 9 "PierRings$OrderText" "length" "I") (List.mem_of_getElem? (i := 2) rfl)
  have hS : va_S (WA 93 ad) s.heap s.heap [] := va_S.rf
  have hfr : entryFrame m args 2 = F0 m 0 ((lg_sl [.ref (ad 3)] ++ List.replicate (2 - (lg_sl [.ref (ad 3)]).length) Slot.unset).toArray) [] := by rw [hargs]; exact lg_entry_eq _ _ _
  rw [hfr]
  have hl := lv_entry ([.ref (ad 3)]) (n := 2) (Nat.le_of_ble_eq_true rfl)
  generalize (lg_sl [.ref (ad 3)] ++ List.replicate (2 - (lg_sl [.ref (ad 3)]).length) Slot.unset).toArray = ls at hl ⊢
  have hl : lv_has ls 2 [(0, .ref (ad 3))] := hl
  clear hfr hargs B
  show W p l e rmX5_countOrders s m args below meth c s.heap [] 0 0 (MQ below (Qiw (dC, dI) 93 ad (layX ad cy) res.1 res.2) args s 0 0 (WA 93 ad)) (F0 m 0 ls [])
  have kB47 : ∀ (σ : St), fX5_countOrders_B47 σ = some res → ∀ (H : Heap) (locs : List Loc), va_P (dC, dI) vwCl (wd 93 ad (layX ad cy) σ) H → va_S (WA 93 ad) s.heap H locs → ∀ (ls : Array Slot), lv_has ls 2 [(0, .ref (ad 3))] → W p l e rmX5_countOrders s m args below meth c H locs 0 0 (MQ below (Qiw (dC, dI) 93 ad (layX ad cy) res.1 res.2) args s 0 0 (WA 93 ad)) (F0 m 47 ls []) := by
    intro σ hf H locs hP hS ls hl
    unfold fX5_countOrders_B47 at hf
    refine lv_sipush (v := (-1000)) hx hb dX5_countOrders_47 (by decide) ?_
    refine lv_aload_n hx hb dX5_countOrders_50 rfl (lv_at hl 0 rfl) ?_
    refine xt_get (ci := 5) (C := RX5) (T := TX5) (n := 6) (v := .int (σ 3 5)) hx hb hts iX5_countOrders_X5 hown hK hP 3 (by decide) (LX5_obj ad cy _) rfl 5 (by decide) w1 rfl dX5_countOrders_51 ?_
    refine lv_isub hx hb dX5_countOrders_54 ?_
    exact xt_iret hx hb hr hP hS (rs_1 hf) (rs_2 hf) dX5_countOrders_55 hlocks
  have loop6 : ∀ (n6 : Nat) (σ : St) (x1 : Int32), fX5_countOrders_L6 (fun σ => fX5_countOrders_B47 σ) n6 σ x1 = some res → ∀ (H : Heap) (locs : List Loc), va_P (dC, dI) vwCl (wd 93 ad (layX ad cy) σ) H → va_S (WA 93 ad) s.heap H locs → ∀ (ls : Array Slot), lv_has ls 2 [(0, .ref (ad 3)), (1, .int x1)] → W p l e rmX5_countOrders s m args below meth c H locs 0 0 (MQ below (Qiw (dC, dI) 93 ad (layX ad cy) res.1 res.2) args s 0 0 (WA 93 ad)) (F0 m 6 ls []) := by
    intro n6
    induction n6 with
    | zero => intro σ x1 hf; simp [fX5_countOrders_L6] at hf
    | succ n6 ih6 =>
      intro σ x1 hf H locs hP hS ls hl
      rw [fX5_countOrders_L6] at hf
      refine lv_iload_n hx hb dX5_countOrders_6 rfl (lv_at hl 1 rfl) ?_
      refine lv_bipush (v := 60) hx hb dX5_countOrders_7 (by decide) ?_
      refine lv_icmp_gt (tgt := 47) hx hb dX5_countOrders_9 (by decide) (fun c1 => ?_) (fun c1 => ?_)
      · have hf := (if_pos c1).symm.trans hf
        exact kB47 σ hf H locs hP hS ls (lv_sub hl [0] rfl)
      · have hf := (if_neg c1).symm.trans hf
        refine lv_aload_n hx hb dX5_countOrders_12 rfl (lv_at hl 0 rfl) ?_
        obtain ⟨r2, qr2, hf⟩ := bd_some hf
        refine xt_callViE (As := []) (rest := []) (C := RX5) ⟨hx, hb, hml, hown, hts⟩ (ad 3) (mX5_readNext l dC dI ad cy sa hJ σ r2 qr2) (cwV 0 hts gX5_countOrders_X5_readNext rfl rfl rfl dmX5_readNext ⟨Nat.le_of_ble_eq_true rfl, Nat.le_of_ble_eq_true rfl⟩) hK hP hS hE (va_recv hK hP (ci := 5) rfl (wd_atE (by decide) (LX5_obj ad cy _))) rfl rfl hl.1 (Nat.le_of_ble_eq_true rfl) ⟨Nat.zero_le _, Nat.zero_le _⟩ dX5_countOrders_13 (fun H locs hP hS => ?_)
        refine lv_if_ne (tgt := 28) hx hb dX5_countOrders_16 (by decide) (fun c3 => ?_) (fun c3 => ?_)
        · have hf := (if_neg c3).symm.trans hf
          refine lv_aload_n hx hb dX5_countOrders_28 rfl (lv_at hl 0 rfl) ?_
          refine xt_get (ci := 5) (C := RX5) (T := TX5) (n := 6) (v := .int (r2.2 3 5)) hx hb hts iX5_countOrders_X5 hown hK hP 3 (by decide) (LX5_obj ad cy _) rfl 5 (by decide) w1 rfl dX5_countOrders_29 ?_
          refine lv_aload_n hx hb dX5_countOrders_32 rfl (lv_at hl 0 rfl) ?_
          refine xt_get (ci := 5) (C := RX5) (T := TX5) (n := 6) (v := .int (r2.2 3 0)) hx hb hts iX5_countOrders_X5 hown hK hP 3 (by decide) (LX5_obj ad cy _) rfl 0 (by decide) w2 rfl dX5_countOrders_33 ?_
          refine lv_icmp_ne (tgt := 41) hx hb dX5_countOrders_36 (by decide) (fun c4 => ?_) (fun c4 => ?_)
          · have hf := (if_neg c4).symm.trans hf
            obtain ⟨v5, ev5⟩ : ∃ y : Int32, y = x1 + 1 := ⟨_, rfl⟩
            have hf := nm_to hf ev5
            refine lv_iinc (v := v5) (lv' := [(1, .int v5), (0, .ref (ad 3))]) hx hb dX5_countOrders_41 hl (k := 1) rfl (by rw [ev5]; rfl) (by decide) rfl (fun ls hl => ?_)
            refine lv_goto (tgt := 6) hx hb dX5_countOrders_44 (by decide) ?_
            exact ih6 r2.2 v5 hf H locs hP hS ls (lv_sub hl [1, 0] rfl)
          · have hf := (if_pos c4).symm.trans hf
            refine lv_iload_n hx hb dX5_countOrders_39 rfl (lv_at hl 1 rfl) ?_
            exact xt_iret hx hb hr hP hS (rs_1 hf) (rs_2 hf) dX5_countOrders_40 hlocks
        · have hf := (if_pos c3).symm.trans hf
          refine lv_sipush (v := (-1000)) hx hb dX5_countOrders_19 (by decide) ?_
          refine lv_aload_n hx hb dX5_countOrders_22 rfl (lv_at hl 0 rfl) ?_
          refine xt_get (ci := 5) (C := RX5) (T := TX5) (n := 6) (v := .int (r2.2 3 5)) hx hb hts iX5_countOrders_X5 hown hK hP 3 (by decide) (LX5_obj ad cy _) rfl 5 (by decide) w1 rfl dX5_countOrders_23 ?_
          refine lv_isub hx hb dX5_countOrders_26 ?_
          exact xt_iret hx hb hr hP hS (rs_1 hf) (rs_2 hf) dX5_countOrders_27 hlocks
  unfold fX5_countOrders at hf
  obtain ⟨H, eH⟩ : ∃ H : Heap, H = s.heap := ⟨_, rfl⟩
  rw [← eH] at hP
  have hS : va_S (WA 93 ad) s.heap H [] := by rw [eH]; exact hS
  suffices K : W p l e rmX5_countOrders s m args below meth c H [] 0 0 (MQ below (Qiw (dC, dI) 93 ad (layX ad cy) res.1 res.2) args s 0 0 (WA 93 ad)) (F0 m 0 ls []) by rw [eH] at K; exact K
  clear eH
  obtain ⟨locs, elocs⟩ : ∃ z : List Loc, z = [] := ⟨_, rfl⟩
  rw [← elocs] at hS ⊢
  refine lv_aload_n hx hb dX5_countOrders_0 rfl (lv_at hl 0 rfl) ?_
  obtain ⟨r6, qr6, hf⟩ := bd_some hf
  refine xt_callVv (As := []) (rest := []) (C := RX5) (ci := 5) ⟨hx, hb, hml, hown, hts⟩ 3 (mX5_rewind l dC dI ad cy hJ σ r6 qr6) (cwV 0 hts gX5_countOrders_X5_rewind rfl rfl rfl dmX5_rewind ⟨Nat.le_of_ble_eq_true rfl, Nat.le_of_ble_eq_true rfl⟩) hK hP hS (by decide) (LX5_obj ad cy _) rfl rfl rfl hl.1 (Nat.le_of_ble_eq_true rfl) ⟨Nat.zero_le _, Nat.zero_le _⟩ dX5_countOrders_1 (fun H locs hP hS => ?_)
  refine lv_iconst (v := 1) hx hb dX5_countOrders_4 (by decide) ?_
  refine lv_istore_n (lv' := [(1, .int 1), (0, .ref (ad 3))]) hx hb dX5_countOrders_5 rfl hl (by decide) rfl (fun ls hl => ?_)
  exact loop6 1000 r6 1 hf H locs hP hS ls (lv_sub hl [1, 0] rfl)
def fX6_run_B88 (σ : St) (x1 : Int32) : Option (Int32 × St) :=
  bd (fX5_empty σ) fun r1 => bd (fX6_keepIfDone r1 x1) fun r2 => some (r2.1, r2.2)
def fX6_run_B50 (G28 : St → Int32 → Option (Int32 × St)) (K28_88 : St → Option (Int32 × St)) (σ : St) (x2 : Int32) : Option (Int32 × St) :=
  bd (fX5_empty σ) fun r3 => bd (fX2_drafted r3) fun r4 => bd (fX1_takeFrom 0 r4 r3) fun r5 => bd (fX6_settleAnew r5) fun r6 => bd (fX6_refuse r6 4 x2) fun r7 => some (r7.1, r7.2)
def fX6_run_L28 (x1 : Int32) (K28_88 : St → Option (Int32 × St)) : Nat → St → Int32 → Option (Int32 × St)
  | 0, _, _ => none
  | n28 + 1, σ, x2 => if x1 ≤ x2 then (K28_88 σ) else (bd (fX5_readNext σ) fun r9 => if r9.1 = 0 then (fX6_run_B50 (fX6_run_L28 x1 K28_88 n28) K28_88 r9.2 x2) else (bd (fX6_carryOut r9.2) fun r11 => if 0 ≤ r11.1 then (nm (x2 + 1) fun v13 => (fX6_run_L28 x1 K28_88 n28) r11.2 v13) else (fX6_run_B50 (fX6_run_L28 x1 K28_88 n28) K28_88 r11.2 x2)))
def fX6_run (σ : St) : Option (Int32 × St) :=
  bd (fX2_draft 0 σ) fun r14 => bd (fX5_countOrders r14) fun r15 => bd (fX5_rewind r15.2) fun r16 => fX6_run_L28 r15.1 (fun σ => fX6_run_B88 σ r15.1) 1000 r16 0
abbrev rmX6_run : Room := { frames := 8, cells := 0, slots := 0, locals := 187 }
theorem dmX6_run : yX6_run.cls = RX6 ∧ yX6_run.cls ≠ "java/lang/invoke/MethodHandle" ∧ yX6_run.cls ≠ "java/lang/invoke/VarHandle" ∧ (parseMethodDescriptor yX6_run.desc).map (fun d => d.parameters.length) = some 0 := by decide +kernel
theorem iX6_run_X6 : ∀ w ∈ wsX60, w ∈ wsX6_run := fun w h => List.mem_cons_of_mem _ (List.mem_append_left _ (List.mem_append_left _ (List.mem_append_left _ (List.mem_append_left _ (List.mem_append_left _ (List.mem_append_right _ (h)))))))
set_option maxHeartbeats 8000000 in
set_option maxRecDepth 100000 in
theorem mX6_run (l : Launch) (dC : Nat → ClassId) (dI : Nat → Nat → Nat) (ad : Nat → Nat) (cy : Nat → ClassId) (sa : SA) (hJ : WJ 93 ad) (σ : St) (res : (Int32 × St)) (hf : fX6_run σ = some res) : CMiE l yX6_run wsX6_run rmX6_run (dC, dI) (tysX cy) 93 ad (layX ad cy) sa [.ref (ad 0)] σ res.1 res.2 := by
  refine Met.ofW (cc := cX6_run) (maxL := 3) (ret := (some .int)) (by decide) rfl ?_
  intro p e s m args below meth c s₁ B hml hv
  obtain ⟨hargs, hP, hK, hE⟩ := hv
  have hx := B.exec
  have hb := B.bytes
  have hr := B.returns
  have hts := atoms_spec (ws := wsX6_run) B.pre
  have hown : s.vm.findClass RX6 = some m.cls := findClass_of_methodNamed B.named
  have hlocks := B.notSynchronized
  have w1 := hts (.fieldLink RX6 39 "PierRings" "history" "LPierRings$History;") (List.mem_of_getElem? (i := 1) rfl)
  have w2 := hts (.fieldLink RX6 12 "PierRings" "harbour" "LPierRings$Harbour;") (List.mem_of_getElem? (i := 2) rfl)
  have w3 := hts (.fieldLink RX6 49 "PierRings" "text" "LPierRings$OrderText;") (List.mem_of_getElem? (i := 3) rfl)
  have hS : va_S (WA 93 ad) s.heap s.heap [] := va_S.rf
  have hfr : entryFrame m args 3 = F0 m 0 ((lg_sl [.ref (ad 0)] ++ List.replicate (3 - (lg_sl [.ref (ad 0)]).length) Slot.unset).toArray) [] := by rw [hargs]; exact lg_entry_eq _ _ _
  rw [hfr]
  have hl := lv_entry ([.ref (ad 0)]) (n := 3) (Nat.le_of_ble_eq_true rfl)
  generalize (lg_sl [.ref (ad 0)] ++ List.replicate (3 - (lg_sl [.ref (ad 0)]).length) Slot.unset).toArray = ls at hl ⊢
  have hl : lv_has ls 3 [(0, .ref (ad 0))] := hl
  clear hfr hargs B
  show W p l e rmX6_run s m args below meth c s.heap [] 0 0 (MQ below (Qiw (dC, dI) 93 ad (layX ad cy) res.1 res.2) args s 0 0 (WA 93 ad)) (F0 m 0 ls [])
  have kB88 : ∀ (σ : St) (x1 : Int32), fX6_run_B88 σ x1 = some res → ∀ (H : Heap) (locs : List Loc), va_P (dC, dI) vwCl (wd 93 ad (layX ad cy) σ) H → va_S (WA 93 ad) s.heap H locs → ∀ (ls : Array Slot), lv_has ls 3 [(0, .ref (ad 0)), (1, .int x1)] → W p l e rmX6_run s m args below meth c H locs 0 0 (MQ below (Qiw (dC, dI) 93 ad (layX ad cy) res.1 res.2) args s 0 0 (WA 93 ad)) (F0 m 88 ls []) := by
    intro σ x1 hf H locs hP hS ls hl
    unfold fX6_run_B88 at hf
    refine lv_aload_n hx hb dX6_run_88 rfl (lv_at hl 0 rfl) ?_
    refine xt_get (ci := 6) (C := RX6) (T := TX6) (n := 12) (v := .ref (ad 3)) hx hb hts iX6_run_X6 hown hK hP 0 (by decide) (LX6_obj ad cy _) rfl 7 (by decide) w3 rfl dX6_run_89 ?_
    obtain ⟨r1, qr1, hf⟩ := bd_some hf
    refine xt_callVv (As := []) (rest := []) (C := RX5) (ci := 5) ⟨hx, hb, hml, hown, hts⟩ 3 (mX5_empty l dC dI ad cy hJ σ r1 qr1) (cwV 0 hts gX6_run_X5_empty rfl rfl rfl dmX5_empty ⟨Nat.le_of_ble_eq_true rfl, Nat.le_of_ble_eq_true rfl⟩) hK hP hS (by decide) (LX5_obj ad cy _) rfl rfl rfl hl.1 (Nat.le_of_ble_eq_true rfl) ⟨Nat.zero_le _, Nat.zero_le _⟩ dX6_run_92 (fun H locs hP hS => ?_)
    refine lv_aload_n hx hb dX6_run_95 rfl (lv_at hl 0 rfl) ?_
    refine lv_iload_n hx hb dX6_run_96 rfl (lv_at hl 1 rfl) ?_
    obtain ⟨r2, qr2, hf⟩ := bd_some hf
    refine xt_callVi (As := [.int x1]) (rest := []) (C := RX6) (ci := 6) ⟨hx, hb, hml, hown, hts⟩ 0 (mX6_keepIfDone l dC dI ad cy hJ r1 x1 r2 qr2) (cwV 1 hts gX6_run_X6_keepIfDone rfl rfl rfl dmX6_keepIfDone ⟨Nat.le_of_ble_eq_true rfl, Nat.le_of_ble_eq_true rfl⟩) hK hP hS (by decide) (LX6_obj ad cy _) rfl rfl rfl hl.1 (Nat.le_of_ble_eq_true rfl) ⟨Nat.zero_le _, Nat.zero_le _⟩ dX6_run_97 (fun H locs hP hS => ?_)
    exact xt_iret hx hb hr hP hS (rs_1 hf) (rs_2 hf) dX6_run_100 hlocks
  have loop28 : ∀ (x1 : Int32) (n28 : Nat) (σ : St) (x2 : Int32), fX6_run_L28 x1 (fun σ => fX6_run_B88 σ x1) n28 σ x2 = some res → ∀ (H : Heap) (locs : List Loc), va_P (dC, dI) vwCl (wd 93 ad (layX ad cy) σ) H → va_S (WA 93 ad) s.heap H locs → ∀ (ls : Array Slot), lv_has ls 3 [(0, .ref (ad 0)), (1, .int x1), (2, .int x2)] → W p l e rmX6_run s m args below meth c H locs 0 0 (MQ below (Qiw (dC, dI) 93 ad (layX ad cy) res.1 res.2) args s 0 0 (WA 93 ad)) (F0 m 28 ls []) := by
    intro x1 n28
    induction n28 with
    | zero => intro σ x2 hf; simp [fX6_run_L28] at hf
    | succ n28 ih28 =>
      intro σ x2 hf H locs hP hS ls hl
      rw [fX6_run_L28] at hf
      have kB50 : ∀ (σ : St) (x2 : Int32), fX6_run_B50 (fX6_run_L28 x1 (fun σ => fX6_run_B88 σ x1) n28) (fun σ => fX6_run_B88 σ x1) σ x2 = some res → ∀ (H : Heap) (locs : List Loc), va_P (dC, dI) vwCl (wd 93 ad (layX ad cy) σ) H → va_S (WA 93 ad) s.heap H locs → ∀ (ls : Array Slot), lv_has ls 3 [(0, .ref (ad 0)), (2, .int x2)] → W p l e rmX6_run s m args below meth c H locs 0 0 (MQ below (Qiw (dC, dI) 93 ad (layX ad cy) res.1 res.2) args s 0 0 (WA 93 ad)) (F0 m 50 ls []) := by
        intro σ x2 hf H locs hP hS ls hl
        unfold fX6_run_B50 at hf
        refine lv_aload_n hx hb dX6_run_50 rfl (lv_at hl 0 rfl) ?_
        refine xt_get (ci := 6) (C := RX6) (T := TX6) (n := 12) (v := .ref (ad 3)) hx hb hts iX6_run_X6 hown hK hP 0 (by decide) (LX6_obj ad cy _) rfl 7 (by decide) w3 rfl dX6_run_51 ?_
        obtain ⟨r3, qr3, hf⟩ := bd_some hf
        refine xt_callVv (As := []) (rest := []) (C := RX5) (ci := 5) ⟨hx, hb, hml, hown, hts⟩ 3 (mX5_empty l dC dI ad cy hJ σ r3 qr3) (cwV 0 hts gX6_run_X5_empty rfl rfl rfl dmX5_empty ⟨Nat.le_of_ble_eq_true rfl, Nat.le_of_ble_eq_true rfl⟩) hK hP hS (by decide) (LX5_obj ad cy _) rfl rfl rfl hl.1 (Nat.le_of_ble_eq_true rfl) ⟨Nat.zero_le _, Nat.zero_le _⟩ dX6_run_54 (fun H locs hP hS => ?_)
        refine lv_aload_n hx hb dX6_run_57 rfl (lv_at hl 0 rfl) ?_
        refine xt_get (ci := 6) (C := RX6) (T := TX6) (n := 12) (v := .ref (ad 33)) hx hb hts iX6_run_X6 hown hK hP 0 (by decide) (LX6_obj ad cy _) rfl 0 (by decide) w2 rfl dX6_run_58 ?_
        refine lv_aload_n hx hb dX6_run_61 rfl (lv_at hl 0 rfl) ?_
        refine xt_get (ci := 6) (C := RX6) (T := TX6) (n := 12) (v := .ref (ad 1)) hx hb hts iX6_run_X6 hown hK hP 0 (by decide) (LX6_obj ad cy _) rfl 5 (by decide) w1 rfl dX6_run_62 ?_
        obtain ⟨r4, qr4, hf⟩ := bd_some hf
        refine xt_callVr (As := []) (rest := [.ref (ad 33)]) (C := RX2) (ci := 2) ⟨hx, hb, hml, hown, hts⟩ 1 (mX2_drafted l dC dI ad cy hJ r3 r4 qr4) (cwV 0 hts gX6_run_X2_drafted rfl rfl rfl dmX2_drafted ⟨Nat.le_of_ble_eq_true rfl, Nat.le_of_ble_eq_true rfl⟩) hK hP hS (by decide) (LX2_obj ad cy _) rfl rfl rfl hl.1 (Nat.le_of_ble_eq_true rfl) ⟨Nat.zero_le _, Nat.zero_le _⟩ dX6_run_65 (fun H locs hP hS => ?_)
        have hr4 : r4 < 12 := mX2_drafted_lt r3 qr4
        obtain ⟨r5, qr5, hf⟩ := bd_some hf
        refine xt_callVv (As := [.ref (ad (33 + 5 * r4))]) (rest := []) (C := RX1) (ci := 1) ⟨hx, hb, hml, hown, hts⟩ 33 (mX1_takeFrom l dC dI ad cy hJ 0 (by decide) r4 hr4 r3 r5 qr5) (cwV 1 hts gX6_run_X1_takeFrom rfl rfl rfl dmX1_takeFrom ⟨Nat.le_of_ble_eq_true rfl, Nat.le_of_ble_eq_true rfl⟩) hK hP hS (by decide) (LX1_obj ad cy 0 (by decide) _) rfl rfl rfl hl.1 (Nat.le_of_ble_eq_true rfl) ⟨Nat.zero_le _, Nat.zero_le _⟩ dX6_run_68 (fun H locs hP hS => ?_)
        refine lv_aload_n hx hb dX6_run_71 rfl (lv_at hl 0 rfl) ?_
        obtain ⟨r6, qr6, hf⟩ := bd_some hf
        refine xt_callVv (As := []) (rest := []) (C := RX6) (ci := 6) ⟨hx, hb, hml, hown, hts⟩ 0 (mX6_settleAnew l dC dI ad cy hJ r5 r6 qr6) (cwV 0 hts gX6_run_X6_settleAnew rfl rfl rfl dmX6_settleAnew ⟨Nat.le_of_ble_eq_true rfl, Nat.le_of_ble_eq_true rfl⟩) hK hP hS (by decide) (LX6_obj ad cy _) rfl rfl rfl hl.1 (Nat.le_of_ble_eq_true rfl) ⟨Nat.zero_le _, Nat.zero_le _⟩ dX6_run_72 (fun H locs hP hS => ?_)
        refine lv_aload_n hx hb dX6_run_75 rfl (lv_at hl 0 rfl) ?_
        refine lv_iconst (v := 4) hx hb dX6_run_76 (by decide) ?_
        refine lv_iload_n hx hb dX6_run_77 rfl (lv_at hl 1 rfl) ?_
        obtain ⟨r7, qr7, hf⟩ := bd_some hf
        refine xt_callVi (As := [.int 4, .int x2]) (rest := []) (C := RX6) (ci := 6) ⟨hx, hb, hml, hown, hts⟩ 0 (mX6_refuse l dC dI ad cy hJ r6 4 x2 r7 qr7) (cwV 2 hts gX6_run_X6_refuse rfl rfl rfl dmX6_refuse ⟨Nat.le_of_ble_eq_true rfl, Nat.le_of_ble_eq_true rfl⟩) hK hP hS (by decide) (LX6_obj ad cy _) rfl rfl rfl hl.1 (Nat.le_of_ble_eq_true rfl) ⟨Nat.zero_le _, Nat.zero_le _⟩ dX6_run_78 (fun H locs hP hS => ?_)
        exact xt_iret hx hb hr hP hS (rs_1 hf) (rs_2 hf) dX6_run_81 hlocks
      refine lv_iload_n hx hb dX6_run_28 rfl (lv_at hl 2 rfl) ?_
      refine lv_iload_n hx hb dX6_run_29 rfl (lv_at hl 1 rfl) ?_
      refine lv_icmp_ge (tgt := 88) hx hb dX6_run_30 (by decide) (fun c8 => ?_) (fun c8 => ?_)
      · have hf := (if_pos c8).symm.trans hf
        exact kB88 σ x1 hf H locs hP hS ls (lv_sub hl [0, 1] rfl)
      · have hf := (if_neg c8).symm.trans hf
        refine lv_aload_n hx hb dX6_run_33 rfl (lv_at hl 0 rfl) ?_
        refine xt_get (ci := 6) (C := RX6) (T := TX6) (n := 12) (v := .ref (ad 3)) hx hb hts iX6_run_X6 hown hK hP 0 (by decide) (LX6_obj ad cy _) rfl 7 (by decide) w3 rfl dX6_run_34 ?_
        obtain ⟨r9, qr9, hf⟩ := bd_some hf
        refine xt_callViE (As := []) (rest := []) (C := RX5) ⟨hx, hb, hml, hown, hts⟩ (ad 3) (mX5_readNext l dC dI ad cy sa hJ σ r9 qr9) (cwV 0 hts gX6_run_X5_readNext rfl rfl rfl dmX5_readNext ⟨Nat.le_of_ble_eq_true rfl, Nat.le_of_ble_eq_true rfl⟩) hK hP hS hE (va_recv hK hP (ci := 5) rfl (wd_atE (by decide) (LX5_obj ad cy _))) rfl rfl hl.1 (Nat.le_of_ble_eq_true rfl) ⟨Nat.zero_le _, Nat.zero_le _⟩ dX6_run_37 (fun H locs hP hS => ?_)
        refine lv_if_eq (tgt := 50) hx hb dX6_run_40 (by decide) (fun c10 => ?_) (fun c10 => ?_)
        · have hf := (if_pos c10).symm.trans hf
          exact kB50 r9.2 x2 hf H locs hP hS ls (lv_sub hl [0, 2] rfl)
        · have hf := (if_neg c10).symm.trans hf
          refine lv_aload_n hx hb dX6_run_43 rfl (lv_at hl 0 rfl) ?_
          obtain ⟨r11, qr11, hf⟩ := bd_some hf
          refine xt_callVi (As := []) (rest := []) (C := RX6) (ci := 6) ⟨hx, hb, hml, hown, hts⟩ 0 (mX6_carryOut l dC dI ad cy hJ r9.2 r11 qr11) (cwV 0 hts gX6_run_X6_carryOut rfl rfl rfl dmX6_carryOut ⟨Nat.le_of_ble_eq_true rfl, Nat.le_of_ble_eq_true rfl⟩) hK hP hS (by decide) (LX6_obj ad cy _) rfl rfl rfl hl.1 (Nat.le_of_ble_eq_true rfl) ⟨Nat.zero_le _, Nat.zero_le _⟩ dX6_run_44 (fun H locs hP hS => ?_)
          refine lv_if_ge (tgt := 82) hx hb dX6_run_47 (by decide) (fun c12 => ?_) (fun c12 => ?_)
          · have hf := (if_pos c12).symm.trans hf
            obtain ⟨v13, ev13⟩ : ∃ y : Int32, y = x2 + 1 := ⟨_, rfl⟩
            have hf := nm_to hf ev13
            refine lv_iinc (v := v13) (lv' := [(2, .int v13), (0, .ref (ad 0)), (1, .int x1)]) hx hb dX6_run_82 hl (k := 2) rfl (by rw [ev13]; rfl) (by decide) rfl (fun ls hl => ?_)
            refine lv_goto (tgt := 28) hx hb dX6_run_85 (by decide) ?_
            exact ih28 r11.2 v13 hf H locs hP hS ls (lv_sub hl [1, 2, 0] rfl)
          · have hf := (if_neg c12).symm.trans hf
            exact kB50 r11.2 x2 hf H locs hP hS ls (lv_sub hl [0, 2] rfl)
  unfold fX6_run at hf
  obtain ⟨H, eH⟩ : ∃ H : Heap, H = s.heap := ⟨_, rfl⟩
  rw [← eH] at hP
  have hS : va_S (WA 93 ad) s.heap H [] := by rw [eH]; exact hS
  suffices K : W p l e rmX6_run s m args below meth c H [] 0 0 (MQ below (Qiw (dC, dI) 93 ad (layX ad cy) res.1 res.2) args s 0 0 (WA 93 ad)) (F0 m 0 ls []) by rw [eH] at K; exact K
  clear eH
  obtain ⟨locs, elocs⟩ : ∃ z : List Loc, z = [] := ⟨_, rfl⟩
  rw [← elocs] at hS ⊢
  refine lv_aload_n hx hb dX6_run_0 rfl (lv_at hl 0 rfl) ?_
  refine xt_get (ci := 6) (C := RX6) (T := TX6) (n := 12) (v := .ref (ad 1)) hx hb hts iX6_run_X6 hown hK hP 0 (by decide) (LX6_obj ad cy _) rfl 5 (by decide) w1 rfl dX6_run_1 ?_
  refine lv_aload_n hx hb dX6_run_4 rfl (lv_at hl 0 rfl) ?_
  refine xt_get (ci := 6) (C := RX6) (T := TX6) (n := 12) (v := .ref (ad 33)) hx hb hts iX6_run_X6 hown hK hP 0 (by decide) (LX6_obj ad cy _) rfl 0 (by decide) w2 rfl dX6_run_5 ?_
  obtain ⟨r14, qr14, hf⟩ := bd_some hf
  refine xt_callVv (As := [.ref (ad 33)]) (rest := []) (C := RX2) (ci := 2) ⟨hx, hb, hml, hown, hts⟩ 1 (mX2_draft l dC dI ad cy hJ 0 (by decide) σ r14 qr14) (cwV 1 hts gX6_run_X2_draft rfl rfl rfl dmX2_draft ⟨Nat.le_of_ble_eq_true rfl, Nat.le_of_ble_eq_true rfl⟩) hK hP hS (by decide) (LX2_obj ad cy _) rfl rfl rfl hl.1 (Nat.le_of_ble_eq_true rfl) ⟨Nat.zero_le _, Nat.zero_le _⟩ dX6_run_8 (fun H locs hP hS => ?_)
  refine lv_aload_n hx hb dX6_run_11 rfl (lv_at hl 0 rfl) ?_
  refine xt_get (ci := 6) (C := RX6) (T := TX6) (n := 12) (v := .ref (ad 3)) hx hb hts iX6_run_X6 hown hK hP 0 (by decide) (LX6_obj ad cy _) rfl 7 (by decide) w3 rfl dX6_run_12 ?_
  obtain ⟨r15, qr15, hf⟩ := bd_some hf
  refine xt_callViE (As := []) (rest := []) (C := RX5) ⟨hx, hb, hml, hown, hts⟩ (ad 3) (mX5_countOrders l dC dI ad cy sa hJ r14 r15 qr15) (cwV 0 hts gX6_run_X5_countOrders rfl rfl rfl dmX5_countOrders ⟨Nat.le_of_ble_eq_true rfl, Nat.le_of_ble_eq_true rfl⟩) hK hP hS hE (va_recv hK hP (ci := 5) rfl (wd_atE (by decide) (LX5_obj ad cy _))) rfl rfl hl.1 (Nat.le_of_ble_eq_true rfl) ⟨Nat.zero_le _, Nat.zero_le _⟩ dX6_run_15 (fun H locs hP hS => ?_)
  refine lv_istore_n (lv' := [(1, .int r15.1), (0, .ref (ad 0))]) hx hb dX6_run_18 rfl hl (by decide) rfl (fun ls hl => ?_)
  refine lv_aload_n hx hb dX6_run_19 rfl (lv_at hl 1 rfl) ?_
  refine xt_get (ci := 6) (C := RX6) (T := TX6) (n := 12) (v := .ref (ad 3)) hx hb hts iX6_run_X6 hown hK hP 0 (by decide) (LX6_obj ad cy _) rfl 7 (by decide) w3 rfl dX6_run_20 ?_
  obtain ⟨r16, qr16, hf⟩ := bd_some hf
  refine xt_callVv (As := []) (rest := []) (C := RX5) (ci := 5) ⟨hx, hb, hml, hown, hts⟩ 3 (mX5_rewind l dC dI ad cy hJ r15.2 r16 qr16) (cwV 0 hts gX6_run_X5_rewind rfl rfl rfl dmX5_rewind ⟨Nat.le_of_ble_eq_true rfl, Nat.le_of_ble_eq_true rfl⟩) hK hP hS (by decide) (LX5_obj ad cy _) rfl rfl rfl hl.1 (Nat.le_of_ble_eq_true rfl) ⟨Nat.zero_le _, Nat.zero_le _⟩ dX6_run_23 (fun H locs hP hS => ?_)
  refine lv_iconst (v := 0) hx hb dX6_run_26 (by decide) ?_
  refine lv_istore_n (lv' := [(2, .int 0), (1, .int r15.1), (0, .ref (ad 0))]) hx hb dX6_run_27 rfl hl (by decide) rfl (fun ls hl => ?_)
  exact loop28 r15.1 1000 r16 0 hf H locs hP hS ls (lv_sub hl [2, 1, 0] rfl)
