/-! The two fractions: their answers are told up to the bits of a NaN. -/
def postD (r : UInt64) (z : Int32 × Int32) : Prop := (z.1 = 0 → r = 0) ∧ (¬ z.1 = 0 → alike64 r (FP.ddiv 4645040803167600640 (FP.i2d z.1)) = true)
def postF (r : UInt32) (z : Int32 × Int32) : Prop := (z.1 = 0 → r = 0) ∧ (¬ z.1 = 0 → alike32 r (FP.fdiv (FP.i2f z.2) (FP.i2f z.1)) = true)
def CMd (l : Launch) (y : MethodName) (ws : List Cond) (rm : Room) (D : va_G) (tys : List (ClassId × FieldType)) (N : Nat) (ad : Nat → Nat) (L : Nat → (Nat → Int32) → va_E) (av : List Value) (σ : St) (z : Int32 × Int32) (σ' : St) : Prop := MetD lw_cs l y ws rm (Pcw av D tys N ad L σ) (va_Qd (fun (v : UInt64) (u : St) => postD v z ∧ u = σ') (Bw D N ad L) (WA N ad)) 0 0 (WA N ad)
def CMf (l : Launch) (y : MethodName) (ws : List Cond) (rm : Room) (D : va_G) (tys : List (ClassId × FieldType)) (N : Nat) (ad : Nat → Nat) (L : Nat → (Nat → Int32) → va_E) (av : List Value) (σ : St) (z : Int32 × Int32) (σ' : St) : Prop := MetD lw_cs l y ws rm (Pcw av D tys N ad L σ) (va_Qf (fun (v : UInt32) (u : St) => postF v z ∧ u = σ') (Bw D N ad L) (WA N ad)) 0 0 (WA N ad)
def fX6_meanStretch (σ : St) : Option (Int32 × Int32) := bd (fX1_openPiers 0 σ) fun r => some (r, 0)
def fX6_takenShare (σ : St) : Option (Int32 × Int32) := bd (fX1_allRoom 0 σ) fun r => if r = 0 then some (r, 0) else bd (fX4_allLyingTons σ) fun t => some (r, t)

abbrev rmX6_meanStretch : Room := { frames := 1, cells := 0, slots := 0, locals := 22 }
theorem dmX6_meanStretch : yX6_meanStretch.cls = RX6 ∧ yX6_meanStretch.cls ≠ "java/lang/invoke/MethodHandle" ∧ yX6_meanStretch.cls ≠ "java/lang/invoke/VarHandle" ∧ (parseMethodDescriptor yX6_meanStretch.desc).map (fun d => d.parameters.length) = some 0 := by decide +kernel
theorem iX6_meanStretch_X6 : ∀ w ∈ wsX60, w ∈ wsX6_meanStretch := fun w h => List.mem_cons_of_mem _ (List.mem_append_left _ (List.mem_append_right _ (h)))
set_option maxHeartbeats 8000000 in
set_option maxRecDepth 100000 in
theorem mX6_meanStretch (l : Launch) (dC : Nat → ClassId) (dI : Nat → Nat → Nat) (ad : Nat → Nat) (cy : Nat → ClassId) (hJ : WJ 93 ad) (σ : St) (res : Int32 × Int32) (hf : fX6_meanStretch σ = some res) : CMd l yX6_meanStretch wsX6_meanStretch rmX6_meanStretch (dC, dI) (tysX cy) 93 ad (layX ad cy) [.ref (ad 0)] σ res σ := by
  refine MetD.ofW (cc := cX6_meanStretch) (maxL := 2) (ret := (some .double)) (by decide) rfl ?_
  intro p e s m args below meth c s₁ B hml hv hd0
  obtain ⟨hargs, hP, hK⟩ := hv
  have hx := B.exec
  have hb := B.bytes
  have hr := B.returns
  have hts0 := atoms_spec (ws := wsX6_meanStretch) B.pre
  have hts := dr_words hts0 s.drawn
  have hown : s.vm.findClass RX6 = some m.cls := findClass_of_methodNamed B.named
  have hlocks := B.notSynchronized
  have w1 := hts (.fieldLink RX6 12 "PierRings" "harbour" "LPierRings$Harbour;") (List.mem_of_getElem? (i := 1) rfl)
  have w2 := hts (.constantDouble RX6 302 (4645040803167600640)) (List.mem_of_getElem? (i := 2) rfl)
  have hS : va_S (WA 93 ad) s.heap s.heap [] := va_S.rf
  have hfr : entryFrame m args 2 = F0 m 0 ((lg_sl [.ref (ad 0)] ++ List.replicate (2 - (lg_sl [.ref (ad 0)]).length) Slot.unset).toArray) [] := by rw [hargs]; exact lg_entry_eq _ _ _
  rw [hfr]
  have hl := lv_entry ([.ref (ad 0)]) (n := 2) (Nat.le_of_ble_eq_true rfl)
  generalize (lg_sl [.ref (ad 0)] ++ List.replicate (2 - (lg_sl [.ref (ad 0)]).length) Slot.unset).toArray = ls at hl ⊢
  have hl : lv_has ls 2 [(0, .ref (ad 0))] := hl
  clear hfr hargs B
  unfold fX6_meanStretch at hf
  refine lv_aload_n hx hb dX6_meanStretch_0 rfl (lv_at hl 0 rfl) ?_
  refine xt_get (ci := 6) (C := RX6) (T := TX6) (n := 12) (v := .ref (ad 33)) hx hb hts iX6_meanStretch_X6 hown hK hP 0 (by decide) (LX6_obj ad cy _) rfl 0 (by decide) w1 rfl dX6_meanStretch_1 ?_
  obtain ⟨r1, qr1, hf⟩ := bd_some hf
  refine xt_callVi (As := []) (rest := []) (C := RX1) (ci := 1) ⟨hx, hb, hml, hown, hts⟩ 33 (mX1_openPiers l dC dI ad cy hJ 0 (by decide) σ r1 qr1) (cwV 0 hts gX6_meanStretch_X1_openPiers rfl rfl rfl dmX1_openPiers ⟨Nat.le_of_ble_eq_true rfl, Nat.le_of_ble_eq_true rfl⟩) hK hP hS (by decide) (LX1_obj ad cy 0 (by decide) _) rfl rfl rfl hl.1 (Nat.le_of_ble_eq_true rfl) ⟨Nat.zero_le _, Nat.zero_le _⟩ dX6_meanStretch_4 (fun H locs hP hS => ?_)
  obtain rfl := Option.some.inj hf
  refine lv_istore_n (lv' := [(1, .int r1), (0, .ref (ad 0))]) hx hb dX6_meanStretch_7 rfl hl (by decide) rfl (fun ls hl => ?_)
  refine lv_iload_n hx hb dX6_meanStretch_8 rfl (lv_at hl 0 rfl) ?_
  refine lv_if_ne (tgt := 16) hx hb dX6_meanStretch_9 (by decide) (fun c1 => ?_) (fun c1 => ?_)
  · refine lv_ldc2d hx hb hown w2 dX6_meanStretch_16 ?_
    refine lv_iload_n hx hb dX6_meanStretch_19 rfl (lv_at hl 0 rfl) ?_
    refine lv_i2d hx hb dX6_meanStretch_20 ?_
    refine lv_ddiv_any hd0 lw_bits hx hb dX6_meanStretch_21 (fun v d1 hal hd1 => ?_)
    refine W.endD hd1 ?_
    exact W.dret hx hb hr (fun t ht _ => ⟨⟨_, σ, rfl, ⟨⟨fun q => absurd q c1, fun _ => hal⟩, rfl⟩, by show va_P (dC, dI) vwCl (wd _ ad _ σ) t.heap; rw [ht]; exact hP⟩, hS.F ht⟩) hS.2.2 dX6_meanStretch_22 hlocks
  · refine lv_dconst0 hx hb dX6_meanStretch_12 ?_
    refine lv_goto (tgt := 22) hx hb dX6_meanStretch_13 (by decide) ?_
    refine W.endD hd0 ?_
    exact W.dret hx hb hr (fun t ht _ => ⟨⟨_, σ, rfl, ⟨⟨fun _ => rfl, fun q => absurd c1 q⟩, rfl⟩, by show va_P (dC, dI) vwCl (wd _ ad _ σ) t.heap; rw [ht]; exact hP⟩, hS.F ht⟩) hS.2.2 dX6_meanStretch_22 hlocks
abbrev rmX6_takenShare : Room := { frames := 2, cells := 0, slots := 0, locals := 43 }
theorem dmX6_takenShare : yX6_takenShare.cls = RX6 ∧ yX6_takenShare.cls ≠ "java/lang/invoke/MethodHandle" ∧ yX6_takenShare.cls ≠ "java/lang/invoke/VarHandle" ∧ (parseMethodDescriptor yX6_takenShare.desc).map (fun d => d.parameters.length) = some 0 := by decide +kernel
theorem iX6_takenShare_X6 : ∀ w ∈ wsX60, w ∈ wsX6_takenShare := fun w h => List.mem_cons_of_mem _ (List.mem_append_left _ (List.mem_append_left _ (List.mem_append_right _ (h))))
set_option maxHeartbeats 8000000 in
set_option maxRecDepth 100000 in
theorem mX6_takenShare (l : Launch) (dC : Nat → ClassId) (dI : Nat → Nat → Nat) (ad : Nat → Nat) (cy : Nat → ClassId) (hJ : WJ 93 ad) (σ : St) (res : Int32 × Int32) (hf : fX6_takenShare σ = some res) : CMf l yX6_takenShare wsX6_takenShare rmX6_takenShare (dC, dI) (tysX cy) 93 ad (layX ad cy) [.ref (ad 0)] σ res σ := by
  refine MetD.ofW (cc := cX6_takenShare) (maxL := 2) (ret := (some .float)) (by decide) rfl ?_
  intro p e s m args below meth c s₁ B hml hv hd0
  obtain ⟨hargs, hP, hK⟩ := hv
  have hx := B.exec
  have hb := B.bytes
  have hr := B.returns
  have hts0 := atoms_spec (ws := wsX6_takenShare) B.pre
  have hts := dr_words hts0 s.drawn
  have hown : s.vm.findClass RX6 = some m.cls := findClass_of_methodNamed B.named
  have hlocks := B.notSynchronized
  have w1 := hts (.fieldLink RX6 12 "PierRings" "harbour" "LPierRings$Harbour;") (List.mem_of_getElem? (i := 1) rfl)
  have w2 := hts (.fieldLink RX6 26 "PierRings" "moorings" "LPierRings$Moorings;") (List.mem_of_getElem? (i := 2) rfl)
  have hS : va_S (WA 93 ad) s.heap s.heap [] := va_S.rf
  have hfr : entryFrame m args 2 = F0 m 0 ((lg_sl [.ref (ad 0)] ++ List.replicate (2 - (lg_sl [.ref (ad 0)]).length) Slot.unset).toArray) [] := by rw [hargs]; exact lg_entry_eq _ _ _
  rw [hfr]
  have hl := lv_entry ([.ref (ad 0)]) (n := 2) (Nat.le_of_ble_eq_true rfl)
  generalize (lg_sl [.ref (ad 0)] ++ List.replicate (2 - (lg_sl [.ref (ad 0)]).length) Slot.unset).toArray = ls at hl ⊢
  have hl : lv_has ls 2 [(0, .ref (ad 0))] := hl
  clear hfr hargs B
  unfold fX6_takenShare at hf
  refine lv_aload_n hx hb dX6_takenShare_0 rfl (lv_at hl 0 rfl) ?_
  refine xt_get (ci := 6) (C := RX6) (T := TX6) (n := 12) (v := .ref (ad 33)) hx hb hts iX6_takenShare_X6 hown hK hP 0 (by decide) (LX6_obj ad cy _) rfl 0 (by decide) w1 rfl dX6_takenShare_1 ?_
  obtain ⟨r1, qr1, hf⟩ := bd_some hf
  refine xt_callVi (As := []) (rest := []) (C := RX1) (ci := 1) ⟨hx, hb, hml, hown, hts⟩ 33 (mX1_allRoom l dC dI ad cy hJ 0 (by decide) σ r1 qr1) (cwV 0 hts gX6_takenShare_X1_allRoom rfl rfl rfl dmX1_allRoom ⟨Nat.le_of_ble_eq_true rfl, Nat.le_of_ble_eq_true rfl⟩) hK hP hS (by decide) (LX1_obj ad cy 0 (by decide) _) rfl rfl rfl hl.1 (Nat.le_of_ble_eq_true rfl) ⟨Nat.zero_le _, Nat.zero_le _⟩ dX6_takenShare_4 (fun H locs hP hS => ?_)
  refine lv_istore_n (lv' := [(1, .int r1), (0, .ref (ad 0))]) hx hb dX6_takenShare_7 rfl hl (by decide) rfl (fun ls hl => ?_)
  refine lv_iload_n hx hb dX6_takenShare_8 rfl (lv_at hl 0 rfl) ?_
  refine lv_if_ne (tgt := 16) hx hb dX6_takenShare_9 (by decide) (fun c1 => ?_) (fun c1 => ?_)
  · have hf := (if_neg c1).symm.trans hf
    refine lv_aload_n hx hb dX6_takenShare_16 rfl (lv_at hl 1 rfl) ?_
    refine xt_get (ci := 6) (C := RX6) (T := TX6) (n := 12) (v := .ref (ad 7)) hx hb hts iX6_takenShare_X6 hown hK hP 0 (by decide) (LX6_obj ad cy _) rfl 2 (by decide) w2 rfl dX6_takenShare_17 ?_
    obtain ⟨r2, qr2, hf⟩ := bd_some hf
    refine xt_callVi (As := []) (rest := []) (C := RX4) (ci := 4) ⟨hx, hb, hml, hown, hts⟩ 7 (mX4_allLyingTons l dC dI ad cy hJ σ r2 qr2) (cwV 0 hts gX6_takenShare_X4_allLyingTons rfl rfl rfl dmX4_allLyingTons ⟨Nat.le_of_ble_eq_true rfl, Nat.le_of_ble_eq_true rfl⟩) hK hP hS (by decide) (LX4_obj ad cy _) rfl rfl rfl hl.1 (Nat.le_of_ble_eq_true rfl) ⟨Nat.zero_le _, Nat.zero_le _⟩ dX6_takenShare_20 (fun H locs hP hS => ?_)
    obtain rfl := Option.some.inj hf
    refine lv_i2f hx hb dX6_takenShare_23 ?_
    refine lv_iload_n hx hb dX6_takenShare_24 rfl (lv_at hl 0 rfl) ?_
    refine lv_i2f hx hb dX6_takenShare_25 ?_
    refine lv_fdiv_any hd0 lw_bits hx hb dX6_takenShare_26 (fun v d1 hal hd1 => ?_)
    refine W.endD hd1 ?_
    exact W.fret hx hb hr (fun t ht _ => ⟨⟨_, σ, rfl, ⟨⟨fun q => absurd q c1, fun _ => hal⟩, rfl⟩, by show va_P (dC, dI) vwCl (wd _ ad _ σ) t.heap; rw [ht]; exact hP⟩, hS.F ht⟩) hS.2.2 dX6_takenShare_27 hlocks
  · have hf := (if_pos c1).symm.trans hf
    obtain rfl := Option.some.inj hf
    refine lv_fconst0 hx hb dX6_takenShare_12 ?_
    refine lv_goto (tgt := 27) hx hb dX6_takenShare_13 (by decide) ?_
    refine W.endD hd0 ?_
    exact W.fret hx hb hr (fun t ht _ => ⟨⟨_, σ, rfl, ⟨⟨fun _ => rfl, fun q => absurd c1 q⟩, rfl⟩, by show va_P (dC, dI) vwCl (wd _ ad _ σ) t.heap; rw [ht]; exact hP⟩, hS.F ht⟩) hS.2.2 dX6_takenShare_27 hlocks
