/-! The law: order, isNearest. -/
def fL_order (σ : St) (a1 : Int32) : Option Int32 :=
  bd (fX6_ring σ a1 1) fun r1 => bd (fX6_ring σ a1 2) fun r2 => some ((10 * r1) + r2)
abbrev rmL_order : Room := { frames := 1, cells := 0, slots := 0, locals := 23 }
theorem dmL_order : yL_order.cls ≠ "java/lang/invoke/MethodHandle" ∧ yL_order.cls ≠ "java/lang/invoke/VarHandle" ∧ (parseMethodDescriptor yL_order.desc).map (fun d => d.parameters.length) = some 2 := by decide +kernel
set_option maxHeartbeats 8000000 in
set_option maxRecDepth 100000 in
theorem mL_order (l : Launch) (dC : Nat → ClassId) (dI : Nat → Nat → Nat) (ad : Nat → Nat) (cy : Nat → ClassId) (hJ : WJ 93 ad) (σ : St) (a1 : Int32) (res : Int32) (hf : fL_order σ a1 = some res) : CMi l yL_order wsL_order rmL_order (dC, dI) (tysX cy) 93 ad (layX ad cy) [.ref (ad 0), .int a1] σ res σ := by
  refine Met.ofW (cc := cL_order) (maxL := 2) (ret := (some .int)) (by decide) rfl ?_
  intro p e s m args below meth c s₁ B hml hv
  obtain ⟨hargs, hP, hK⟩ := hv
  have hx := B.exec
  have hb := B.bytes
  have hr := B.returns
  have hts := atoms_spec (ws := wsL_order) B.pre
  have hown : s.vm.findClass RL = some m.cls := findClass_of_methodNamed B.named
  have hlocks := B.notSynchronized
  have hS : va_S (WA 93 ad) s.heap s.heap [] := va_S.rf
  have hfr : entryFrame m args 2 = F0 m 0 ((lg_sl [.ref (ad 0), .int a1] ++ List.replicate (2 - (lg_sl [.ref (ad 0), .int a1]).length) Slot.unset).toArray) [] := by rw [hargs]; exact lg_entry_eq _ _ _
  rw [hfr]
  have hl := lv_entry ([.ref (ad 0), .int a1]) (n := 2) (Nat.le_of_ble_eq_true rfl)
  generalize (lg_sl [.ref (ad 0), .int a1] ++ List.replicate (2 - (lg_sl [.ref (ad 0), .int a1]).length) Slot.unset).toArray = ls at hl ⊢
  have hl : lv_has ls 2 [(0, .ref (ad 0)), (1, .int a1)] := hl
  clear hfr hargs B
  show W p l e rmL_order s m args below meth c s.heap [] 0 0 (MQ below (Qiw (dC, dI) 93 ad (layX ad cy) res σ) args s 0 0 (WA 93 ad)) (F0 m 0 ls [])
  unfold fL_order at hf
  obtain ⟨H, eH⟩ : ∃ H : Heap, H = s.heap := ⟨_, rfl⟩
  rw [← eH] at hP
  have hS : va_S (WA 93 ad) s.heap H [] := by rw [eH]; exact hS
  suffices K : W p l e rmL_order s m args below meth c H [] 0 0 (MQ below (Qiw (dC, dI) 93 ad (layX ad cy) res σ) args s 0 0 (WA 93 ad)) (F0 m 0 ls []) by rw [eH] at K; exact K
  clear eH
  obtain ⟨locs, elocs⟩ : ∃ z : List Loc, z = [] := ⟨_, rfl⟩
  rw [← elocs] at hS ⊢
  refine lv_bipush (v := 10) hx hb dL_order_0 (by decide) ?_
  refine lv_aload_n hx hb dL_order_2 rfl (lv_at hl 0 rfl) ?_
  refine lv_iload_n hx hb dL_order_3 rfl (lv_at hl 1 rfl) ?_
  refine lv_iconst (v := 1) hx hb dL_order_4 (by decide) ?_
  obtain ⟨r1, qr1, hf⟩ := bd_some hf
  refine xt_callVi (As := [.int a1, .int 1]) (rest := [.int 10]) (C := RX6) (ci := 6) ⟨hx, hb, hml, hown, hts⟩ 0 (mX6_ring l dC dI ad cy hJ σ a1 1 r1 qr1) (cwV 2 hts gL_order_X6_ring rfl rfl rfl dmX6_ring ⟨Nat.le_of_ble_eq_true rfl, Nat.le_of_ble_eq_true rfl⟩) hK hP hS (by decide) (LX6_obj ad cy _) rfl rfl rfl hl.1 (Nat.le_of_ble_eq_true rfl) ⟨Nat.zero_le _, Nat.zero_le _⟩ dL_order_5 (fun H locs hP hS => ?_)
  refine lv_imul hx hb dL_order_8 ?_
  refine lv_aload_n hx hb dL_order_9 rfl (lv_at hl 0 rfl) ?_
  refine lv_iload_n hx hb dL_order_10 rfl (lv_at hl 1 rfl) ?_
  refine lv_iconst (v := 2) hx hb dL_order_11 (by decide) ?_
  obtain ⟨r2, qr2, hf⟩ := bd_some hf
  refine xt_callVi (As := [.int a1, .int 2]) (rest := [.int (10 * r1)]) (C := RX6) (ci := 6) ⟨hx, hb, hml, hown, hts⟩ 0 (mX6_ring l dC dI ad cy hJ σ a1 2 r2 qr2) (cwV 2 hts gL_order_X6_ring rfl rfl rfl dmX6_ring ⟨Nat.le_of_ble_eq_true rfl, Nat.le_of_ble_eq_true rfl⟩) hK hP hS (by decide) (LX6_obj ad cy _) rfl rfl rfl hl.1 (Nat.le_of_ble_eq_true rfl) ⟨Nat.zero_le _, Nat.zero_le _⟩ dL_order_12 (fun H locs hP hS => ?_)
  refine lv_iadd hx hb dL_order_15 ?_
  exact xt_iret hx hb hr hP hS (Option.some.inj hf) rfl dL_order_16 hlocks
def fL_isNearest_B47 (σ : St) : Option Int32 :=
  some (1 : Int32)
def fL_isNearest_L13 (σ : St) (x1 : Int32) (x2 : Int32) (x3 : Int32) (K13_47 : Option Int32) : Nat → Int32 → Option Int32
  | 0, _ => none
  | n13 + 1, x4 => if (if x1 < x2 then x2 else x1) < x4 then (K13_47) else (if x4 = x1 then (nm (x4 + 1) fun v3 => (fL_isNearest_L13 σ x1 x2 x3 K13_47 n13) v3) else (bd (fL_order σ x4) fun r4 => if x3 ≤ r4 then (nm (x4 + 1) fun v6 => (fL_isNearest_L13 σ x1 x2 x3 K13_47 n13) v6) else (some (0 : Int32))))
def fL_isNearest (σ : St) (a1 : Int32) (a2 : Int32) : Option Int32 :=
  bd (fL_order σ a1) fun r7 => nm (if a2 < a1 then a2 else a1) fun v8 => fL_isNearest_L13 σ a1 a2 r7 (fL_isNearest_B47 σ) 1000 v8
abbrev rmL_isNearest : Room := { frames := 2, cells := 0, slots := 0, locals := 64 }
theorem dmL_isNearest : yL_isNearest.cls ≠ "java/lang/invoke/MethodHandle" ∧ yL_isNearest.cls ≠ "java/lang/invoke/VarHandle" ∧ (parseMethodDescriptor yL_isNearest.desc).map (fun d => d.parameters.length) = some 3 := by decide +kernel
set_option maxHeartbeats 8000000 in
set_option maxRecDepth 100000 in
theorem mL_isNearest (l : Launch) (dC : Nat → ClassId) (dI : Nat → Nat → Nat) (ad : Nat → Nat) (cy : Nat → ClassId) (hJ : WJ 93 ad) (σ : St) (a1 : Int32) (a2 : Int32) (res : Int32) (hf : fL_isNearest σ a1 a2 = some res) : CMi l yL_isNearest wsL_isNearest rmL_isNearest (dC, dI) (tysX cy) 93 ad (layX ad cy) [.ref (ad 0), .int a1, .int a2] σ res σ := by
  refine Met.ofW (cc := cL_isNearest) (maxL := 5) (ret := (some .boolean)) (by decide) rfl ?_
  intro p e s m args below meth c s₁ B hml hv
  obtain ⟨hargs, hP, hK⟩ := hv
  have hx := B.exec
  have hb := B.bytes
  have hr := B.returns
  have hts := atoms_spec (ws := wsL_isNearest) B.pre
  have hown : s.vm.findClass RL = some m.cls := findClass_of_methodNamed B.named
  have hlocks := B.notSynchronized
  have w1 := hts (.methodLink RL 94 Lib.Math.min.name) (List.mem_of_getElem? (i := 1) rfl)
  have w2 := hts (.static Lib.Math.min.name) (List.mem_of_getElem? (i := 2) rfl)
  have w3 := hts (.initialized "java/lang/Math") (List.mem_of_getElem? (i := 3) rfl)
  have w4 := hts (.code Lib.Math.min.name Lib.Math.min.code 2 (some .int)) (List.mem_of_getElem? (i := 4) rfl)
  have w5 := hts (.methodLink RL 57 Lib.Math.max.name) (List.mem_of_getElem? (i := 5) rfl)
  have w6 := hts (.static Lib.Math.max.name) (List.mem_of_getElem? (i := 6) rfl)
  have w7 := hts (.code Lib.Math.max.name Lib.Math.max.code 2 (some .int)) (List.mem_of_getElem? (i := 7) rfl)
  have hS : va_S (WA 93 ad) s.heap s.heap [] := va_S.rf
  have hfr : entryFrame m args 5 = F0 m 0 ((lg_sl [.ref (ad 0), .int a1, .int a2] ++ List.replicate (5 - (lg_sl [.ref (ad 0), .int a1, .int a2]).length) Slot.unset).toArray) [] := by rw [hargs]; exact lg_entry_eq _ _ _
  rw [hfr]
  have hl := lv_entry ([.ref (ad 0), .int a1, .int a2]) (n := 5) (Nat.le_of_ble_eq_true rfl)
  generalize (lg_sl [.ref (ad 0), .int a1, .int a2] ++ List.replicate (5 - (lg_sl [.ref (ad 0), .int a1, .int a2]).length) Slot.unset).toArray = ls at hl ⊢
  have hl : lv_has ls 5 [(0, .ref (ad 0)), (1, .int a1), (2, .int a2)] := hl
  clear hfr hargs B
  show W p l e rmL_isNearest s m args below meth c s.heap [] 0 0 (MQ below (Qiw (dC, dI) 93 ad (layX ad cy) res σ) args s 0 0 (WA 93 ad)) (F0 m 0 ls [])
  have kB47 : fL_isNearest_B47 σ = some res → ∀ (H : Heap) (locs : List Loc), va_P (dC, dI) vwCl (wd 93 ad (layX ad cy) σ) H → va_S (WA 93 ad) s.heap H locs → ∀ (ls : Array Slot), lv_has ls 5 [] → W p l e rmL_isNearest s m args below meth c H locs 0 0 (MQ below (Qiw (dC, dI) 93 ad (layX ad cy) res σ) args s 0 0 (WA 93 ad)) (F0 m 47 ls []) := by
    intro  hf H locs hP hS ls hl
    unfold fL_isNearest_B47 at hf
    refine lv_iconst (v := 1) hx hb dL_isNearest_47 (by decide) ?_
    exact xt_zret hx hb hr rfl hP hS (Option.some.inj hf) rfl dL_isNearest_48 hlocks
  have loop13 : ∀ (x1 : Int32) (x2 : Int32) (x3 : Int32) (n13 : Nat) (x4 : Int32), fL_isNearest_L13 σ x1 x2 x3 (fL_isNearest_B47 σ) n13 x4 = some res → ∀ (H : Heap) (locs : List Loc), va_P (dC, dI) vwCl (wd 93 ad (layX ad cy) σ) H → va_S (WA 93 ad) s.heap H locs → ∀ (ls : Array Slot), lv_has ls 5 [(0, .ref (ad 0)), (1, .int x1), (2, .int x2), (3, .int x3), (4, .int x4)] → W p l e rmL_isNearest s m args below meth c H locs 0 0 (MQ below (Qiw (dC, dI) 93 ad (layX ad cy) res σ) args s 0 0 (WA 93 ad)) (F0 m 13 ls []) := by
    intro x1 x2 x3 n13
    induction n13 with
    | zero => intro x4 hf; simp [fL_isNearest_L13] at hf
    | succ n13 ih13 =>
      intro x4 hf H locs hP hS ls hl
      rw [fL_isNearest_L13] at hf
      refine lv_iload hx hb dL_isNearest_13 (lv_at hl 4 rfl) ?_
      refine lv_iload_n hx hb dL_isNearest_15 rfl (lv_at hl 1 rfl) ?_
      refine lv_iload_n hx hb dL_isNearest_16 rfl (lv_at hl 2 rfl) ?_
      refine va_mmax hx hb (hml.trans hl.1.symm) hown w5 w6 w3 w7 (Nat.le_of_ble_eq_true rfl) (Nat.le_of_ble_eq_true rfl) (Nat.zero_le _) (Nat.zero_le _) dL_isNearest_17 ?_
      refine lv_icmp_gt (tgt := 47) hx hb dL_isNearest_20 (by decide) (fun c1 => ?_) (fun c1 => ?_)
      · have hf := (if_pos c1).symm.trans hf
        exact kB47 hf H locs hP hS ls (lv_sub hl [] rfl)
      · have hf := (if_neg c1).symm.trans hf
        refine lv_iload hx hb dL_isNearest_23 (lv_at hl 4 rfl) ?_
        refine lv_iload_n hx hb dL_isNearest_25 rfl (lv_at hl 1 rfl) ?_
        refine lv_icmp_eq (tgt := 41) hx hb dL_isNearest_26 (by decide) (fun c2 => ?_) (fun c2 => ?_)
        · have hf := (if_pos c2).symm.trans hf
          obtain ⟨v3, ev3⟩ : ∃ y : Int32, y = x4 + 1 := ⟨_, rfl⟩
          have hf := nm_to hf ev3
          refine lv_iinc (v := v3) (lv' := [(4, .int v3), (0, .ref (ad 0)), (1, .int x1), (2, .int x2), (3, .int x3)]) hx hb dL_isNearest_41 hl (k := 4) rfl (by rw [ev3]; rfl) (by decide) rfl (fun ls hl => ?_)
          refine lv_goto (tgt := 13) hx hb dL_isNearest_44 (by decide) ?_
          exact ih13 v3 hf H locs hP hS ls (lv_sub hl [1, 2, 3, 4, 0] rfl)
        · have hf := (if_neg c2).symm.trans hf
          refine lv_aload_n hx hb dL_isNearest_29 rfl (lv_at hl 0 rfl) ?_
          refine lv_iload hx hb dL_isNearest_30 (lv_at hl 4 rfl) ?_
          obtain ⟨r4, qr4, hf⟩ := bd_some hf
          refine xt_callSi (As := [.ref (ad 0), .int x4]) (rest := []) ⟨hx, hb, hml, hown, hts⟩ (mL_order l dC dI ad cy hJ σ x4 r4 qr4) (va_cwS 2 hts gL_isNearest_L_order rfl rfl rfl dmL_order ⟨Nat.le_of_ble_eq_true rfl, Nat.le_of_ble_eq_true rfl⟩) hK hP hS rfl rfl hl.1 (Nat.le_of_ble_eq_true rfl) ⟨Nat.zero_le _, Nat.zero_le _⟩ dL_isNearest_32 (fun H locs hP hS => ?_)
          refine lv_iload_n hx hb dL_isNearest_35 rfl (lv_at hl 3 rfl) ?_
          refine lv_icmp_ge (tgt := 41) hx hb dL_isNearest_36 (by decide) (fun c5 => ?_) (fun c5 => ?_)
          · have hf := (if_pos c5).symm.trans hf
            obtain ⟨v6, ev6⟩ : ∃ y : Int32, y = x4 + 1 := ⟨_, rfl⟩
            have hf := nm_to hf ev6
            refine lv_iinc (v := v6) (lv' := [(4, .int v6), (0, .ref (ad 0)), (1, .int x1), (2, .int x2), (3, .int x3)]) hx hb dL_isNearest_41 hl (k := 4) rfl (by rw [ev6]; rfl) (by decide) rfl (fun ls hl => ?_)
            refine lv_goto (tgt := 13) hx hb dL_isNearest_44 (by decide) ?_
            exact ih13 v6 hf H locs hP hS ls (lv_sub hl [1, 2, 3, 4, 0] rfl)
          · have hf := (if_neg c5).symm.trans hf
            refine lv_iconst (v := 0) hx hb dL_isNearest_39 (by decide) ?_
            exact xt_zret hx hb hr rfl hP hS (Option.some.inj hf) rfl dL_isNearest_40 hlocks
  unfold fL_isNearest at hf
  obtain ⟨H, eH⟩ : ∃ H : Heap, H = s.heap := ⟨_, rfl⟩
  rw [← eH] at hP
  have hS : va_S (WA 93 ad) s.heap H [] := by rw [eH]; exact hS
  suffices K : W p l e rmL_isNearest s m args below meth c H [] 0 0 (MQ below (Qiw (dC, dI) 93 ad (layX ad cy) res σ) args s 0 0 (WA 93 ad)) (F0 m 0 ls []) by rw [eH] at K; exact K
  clear eH
  obtain ⟨locs, elocs⟩ : ∃ z : List Loc, z = [] := ⟨_, rfl⟩
  rw [← elocs] at hS ⊢
  refine lv_aload_n hx hb dL_isNearest_0 rfl (lv_at hl 0 rfl) ?_
  refine lv_iload_n hx hb dL_isNearest_1 rfl (lv_at hl 1 rfl) ?_
  obtain ⟨r7, qr7, hf⟩ := bd_some hf
  refine xt_callSi (As := [.ref (ad 0), .int a1]) (rest := []) ⟨hx, hb, hml, hown, hts⟩ (mL_order l dC dI ad cy hJ σ a1 r7 qr7) (va_cwS 2 hts gL_isNearest_L_order rfl rfl rfl dmL_order ⟨Nat.le_of_ble_eq_true rfl, Nat.le_of_ble_eq_true rfl⟩) hK hP hS rfl rfl hl.1 (Nat.le_of_ble_eq_true rfl) ⟨Nat.zero_le _, Nat.zero_le _⟩ dL_isNearest_2 (fun H locs hP hS => ?_)
  refine lv_istore_n (lv' := [(3, .int r7), (0, .ref (ad 0)), (1, .int a1), (2, .int a2)]) hx hb dL_isNearest_5 rfl hl (by decide) rfl (fun ls hl => ?_)
  refine lv_iload_n hx hb dL_isNearest_6 rfl (lv_at hl 2 rfl) ?_
  refine lv_iload_n hx hb dL_isNearest_7 rfl (lv_at hl 3 rfl) ?_
  refine va_mmin hx hb (hml.trans hl.1.symm) hown w1 w2 w3 w4 (Nat.le_of_ble_eq_true rfl) (Nat.le_of_ble_eq_true rfl) (Nat.zero_le _) (Nat.zero_le _) dL_isNearest_8 ?_
  refine lv_topi (fun v8 ev8 => ?_)
  have hf := nm_to hf ev8
  refine lv_istore (lv' := [(4, .int v8), (3, .int r7), (0, .ref (ad 0)), (1, .int a1), (2, .int a2)]) hx hb dL_isNearest_11 hl (by decide) rfl (fun ls hl => ?_)
  exact loop13 a1 a2 r7 1000 v8 hf H locs hP hS ls (lv_sub hl [2, 3, 4, 1, 0] rfl)
