theorem dmJ5_init_d00df : yJ5_init_d00df.cls = RJ5 ∧ yJ5_init_d00df.cls ≠ "java/lang/invoke/MethodHandle" ∧ yJ5_init_d00df.cls ≠ "java/lang/invoke/VarHandle" ∧ (parseMethodDescriptor yJ5_init_d00df.desc).map (fun d => d.parameters.length) = some 1 := by decide +kernel
abbrev rmJ5_init_d00df : Room := { frames := 1, cells := 1, slots := 16, locals := 64 }
theorem iJ_J5_init_d00df_J4 : ∀ w ∈ wsJ40, w ∈ wsJ5_init_d00df := fun w h => List.mem_cons_of_mem _ (List.mem_append_right _ (h))
set_option maxHeartbeats 8000000 in
set_option maxRecDepth 100000 in
theorem mJ5_init_d00df (l0 : Launch) (dC : Nat → ClassId) (dI : Nat → Nat → Nat) (cy : Nat → ClassId) (tb : Nat × Nat) (B sz : Nat) : Met l0 yJ5_init_d00df wsJ5_init_d00df rmJ5_init_d00df (PcJ [.ref B, .int 16] sz (dC, dI) cy [(B, .inr (8, [.null, .int 0, .int 0, .int (nI 0)]))] (va_A [(B, .inr (8, [.null, .int 0, .int 0, .int (nI 0)]))] sz) tb) (va_Qv (fun (_ : Nat) => True) (fun V t => va_P (dC, dI) vwCl (SB cy B V 16 (fun _ => 0) 0) t.heap ∧ va_D (va_A [(B, .inr (8, [.null, .int 0, .int 0, .int (nI 0)]))] sz) (SB cy B V 16 (fun _ => 0) 0)) (va_A [(B, .inr (8, [.null, .int 0, .int 0, .int (nI 0)]))] sz)) 1 16 (va_A [(B, .inr (8, [.null, .int 0, .int 0, .int (nI 0)]))] sz) := by
  refine Met.ofW (cc := cJ5_init_d00df) (maxL := 2) (ret := none) (by decide) rfl ?_
  intro p e s mt args below meth c s₁ BY hml hv
  obtain ⟨hargs, hsz, hP, hK, hE⟩ := hv
  have hx := BY.exec
  have hb := BY.bytes
  have hr := BY.returns
  have hts := atoms_spec (ws := wsJ5_init_d00df) BY.pre
  have hown : s.vm.findClass RJ5 = some mt.cls := findClass_of_methodNamed BY.named
  have hlocks := BY.notSynchronized
  have w1 := hts (.methodLink RJ5 3 objectInit) (List.mem_of_getElem? (i := 1) rfl)
  have w2 := hts (.instanceMethod objectInit) (List.mem_of_getElem? (i := 2) rfl)
  have w3 := hts (.code objectInit ⟨#[0xb1]⟩ 1 none) (List.mem_of_getElem? (i := 3) rfl)
  have w4 := hts (.fieldLink RJ5 18 "java/lang/String" "COMPACT_STRINGS" "Z") (List.mem_of_getElem? (i := 4) rfl)
  have w5 := hts (.arrayClass .byte) (List.mem_of_getElem? (i := 5) rfl)
  have w6 := hts (.fieldLink RJ5 15 "java/lang/AbstractStringBuilder" "value" "[B") (List.mem_of_getElem? (i := 6) rfl)
  have w7 := hts (.fieldLink RJ5 22 "java/lang/AbstractStringBuilder" "coder" "B") (List.mem_of_getElem? (i := 7) rfl)
  have hS : va_S (va_A [(B, .inr (8, [.null, .int 0, .int 0, .int (nI 0)]))] sz) s.heap s.heap [] := va_S.rf
  have hfr : entryFrame mt args 2 = F0 mt 0 ((lg_sl [.ref B, .int 16] ++ List.replicate (2 - (lg_sl [.ref B, .int 16]).length) Slot.unset).toArray) [] := by rw [hargs]; exact lg_entry_eq _ _ _
  rw [hfr]
  have hl := lv_entry ([.ref B, .int 16]) (n := 2) (Nat.le_of_ble_eq_true rfl)
  generalize (lg_sl [.ref B, .int 16] ++ List.replicate (2 - (lg_sl [.ref B, .int 16]).length) Slot.unset).toArray = ls at hl ⊢
  have hl : lv_has ls 2 [(0, .ref B), (1, .int 16)] := hl
  clear hfr hargs BY
  show W p l0 e rmJ5_init_d00df s mt args below meth c s.heap [] 0 0 (MQ below (va_Qv (fun (_ : Nat) => True) (fun V t => va_P (dC, dI) vwCl (SB cy B V 16 (fun _ => 0) 0) t.heap ∧ va_D (va_A [(B, .inr (8, [.null, .int 0, .int 0, .int (nI 0)]))] sz) (SB cy B V 16 (fun _ => 0) 0)) (va_A [(B, .inr (8, [.null, .int 0, .int 0, .int (nI 0)]))] sz)) args s 1 16 (va_A [(B, .inr (8, [.null, .int 0, .int 0, .int (nI 0)]))] sz)) (F0 mt 0 ls [])
  have hEn := hE.narrow (B := (va_A [(B, .inr (8, [.null, .int 0, .int 0, .int (nI 0)]))] sz)) (fun x h => h)
  subst hsz
  have hD : va_D (va_A [(B, .inr (8, [.null, .int 0, .int 0, .int (nI 0)]))] s.heap.size) [(B, .inr (8, [.null, .int 0, .int 0, .int (nI 0)]))] := D1 (Or.inl ⟨0, _, rfl⟩)
  have hA : ∀ x : Nat, s.heap.size ≤ x → (va_A [(B, .inr (8, [.null, .int 0, .int 0, .int (nI 0)]))] s.heap.size) x := fun x h => Or.inr h
  refine lv_aload_n hx hb dJ5_init_d00df_0 rfl (lv_at hl 0 rfl) ?_
  refine W.objInit hx hb hown w1 w2 w3 rfl (by rw [hml]; exact hl.1) rfl dJ5_init_d00df_1 (Nat.le_of_ble_eq_true rfl) (Nat.le_of_ble_eq_true rfl) ?_
  refine W.eq (g2 := F0 mt 4 ls []) rfl ?_
  refine va_gets hx hb (C := "java/lang/String") (n := "COMPACT_STRINGS") (d := "Z") hEn.1 hS hown w4 (fun _ h9 => h9) dJ5_init_d00df_4 ?_
  refine lv_if_eq (tgt := 25) hx hb dJ5_init_d00df_7 (by decide) (fun q9 => absurd q9 (by decide)) (fun _ => ?_)
  refine lv_aload_n hx hb dJ5_init_d00df_10 rfl (lv_at hl 0 rfl) ?_
  refine lv_iload_n hx hb dJ5_init_d00df_11 rfl (lv_at hl 1 rfl) ?_
  refine xt_newa (atype := .byte) (N' := 16) (ty := .byte) hx hb w5 rfl 4 rfl (fun _ h1 h2 => ra_b h1 h2) hK hP hD hS hA rfl (by decide) (by decide) (Nat.le_of_ble_eq_true rfl) (Nat.le_of_ble_eq_true rfl) (Nat.le_of_ble_eq_true rfl) dJ5_init_d00df_12 (fun V H hP hD hS => ?_)
  have hP : va_P (dC, dI) vwCl [(B, .inr (8, [.null, .int 0, .int 0, .int (nI 0)])), (V, .inl (cy 4, 16, .inl (fun _ => 0)))] H := hP
  have hD : va_D (va_A [(B, .inr (8, [.null, .int 0, .int 0, .int (nI 0)]))] s.heap.size) [(B, .inr (8, [.null, .int 0, .int 0, .int (nI 0)])), (V, .inl (cy 4, 16, .inl (fun _ => 0)))] := hD
  refine va_put (D := (dC, dI)) (ci := 8) (v := .ref V) (ty := tyJ4 0) (C := RJ4) (T := TJ4) (N := 4) hx hb hts iJ_J5_init_d00df_J4 tyJ4 tyJ4_ok nmJ4 hown hK hP hD hS 0 rfl rfl 0 (by decide) w6 (fun _ h9 => h9) rfl (tyJ4_ok 0 (by decide)) rfl rfl (Nat.le_of_ble_eq_true rfl) dJ5_init_d00df_14 (fun H locs hP hD hS => ?_)
  have hP : va_P (dC, dI) vwCl [(B, .inr (8, [.ref V, .int 0, .int 0, .int (nI 0)])), (V, .inl (cy 4, 16, .inl (fun _ => 0)))] H := hP
  have hD : va_D (va_A [(B, .inr (8, [.null, .int 0, .int 0, .int (nI 0)]))] s.heap.size) [(B, .inr (8, [.ref V, .int 0, .int 0, .int (nI 0)])), (V, .inl (cy 4, 16, .inl (fun _ => 0)))] := hD
  refine lv_aload_n hx hb dJ5_init_d00df_17 rfl (lv_at hl 0 rfl) ?_
  refine lv_iconst (v := 0) hx hb dJ5_init_d00df_18 (by decide) ?_
  refine va_put (D := (dC, dI)) (ci := 8) (v := .int 0) (ty := tyJ4 1) (C := RJ4) (T := TJ4) (N := 4) hx hb hts iJ_J5_init_d00df_J4 tyJ4 tyJ4_ok nmJ4 hown hK hP hD hS 0 rfl rfl 1 (by decide) w7 (fun _ h9 => h9) rfl (tyJ4_ok 1 (by decide)) rfl rfl (Nat.le_of_ble_eq_true rfl) dJ5_init_d00df_19 (fun H locs hP hD hS => ?_)
  have hP : va_P (dC, dI) vwCl [(B, .inr (8, [.ref V, .int 0, .int 0, .int (nI 0)])), (V, .inl (cy 4, 16, .inl (fun _ => 0)))] H := hP
  have hD : va_D (va_A [(B, .inr (8, [.null, .int 0, .int 0, .int (nI 0)]))] s.heap.size) [(B, .inr (8, [.ref V, .int 0, .int 0, .int (nI 0)])), (V, .inl (cy 4, 16, .inl (fun _ => 0)))] := hD
  refine lv_goto (tgt := 38) hx hb dJ5_init_d00df_22 (by decide) ?_
  refine W.widen (k := 1) (n := 16) (Nat.le_of_ble_eq_true rfl) (Nat.le_of_ble_eq_true rfl) ?_
  exact W.vret hx hb hr (fun t ht _ => ⟨⟨V, rfl, trivial, by rw [ht]; exact hP, hD⟩, hS.F ht⟩) hS.2.2 dJ5_init_d00df_38 hlocks
theorem dmJ4_init_da8c8 : yJ4_init_da8c8.cls = RJ4 ∧ yJ4_init_da8c8.cls ≠ "java/lang/invoke/MethodHandle" ∧ yJ4_init_da8c8.cls ≠ "java/lang/invoke/VarHandle" ∧ (parseMethodDescriptor yJ4_init_da8c8.desc).map (fun d => d.parameters.length) = some 0 := by decide +kernel
abbrev rmJ4_init_da8c8 : Room := { frames := 2, cells := 1, slots := 16, locals := 100 }
set_option maxHeartbeats 8000000 in
set_option maxRecDepth 100000 in
theorem mJ4_init_da8c8 (l0 : Launch) (dC : Nat → ClassId) (dI : Nat → Nat → Nat) (cy : Nat → ClassId) (tb : Nat × Nat) (B sz : Nat) : Met l0 yJ4_init_da8c8 wsJ4_init_da8c8 rmJ4_init_da8c8 (PcJ [.ref B] sz (dC, dI) cy [(B, .inr (8, [.null, .int 0, .int 0, .int (nI 0)]))] (va_A [(B, .inr (8, [.null, .int 0, .int 0, .int (nI 0)]))] sz) tb) (va_Qv (fun (_ : Nat) => True) (fun V t => va_P (dC, dI) vwCl (SB cy B V 16 (fun _ => 0) 0) t.heap ∧ va_D (va_A [(B, .inr (8, [.null, .int 0, .int 0, .int (nI 0)]))] sz) (SB cy B V 16 (fun _ => 0) 0)) (va_A [(B, .inr (8, [.null, .int 0, .int 0, .int (nI 0)]))] sz)) 1 16 (va_A [(B, .inr (8, [.null, .int 0, .int 0, .int (nI 0)]))] sz) := by
  refine Met.ofW (cc := cJ4_init_da8c8) (maxL := 1) (ret := none) (by decide) rfl ?_
  intro p e s mt args below meth c s₁ BY hml hv
  obtain ⟨hargs, hsz, hP, hK, hE⟩ := hv
  have hx := BY.exec
  have hb := BY.bytes
  have hr := BY.returns
  have hts := atoms_spec (ws := wsJ4_init_da8c8) BY.pre
  have hown : s.vm.findClass RJ4 = some mt.cls := findClass_of_methodNamed BY.named
  have hlocks := BY.notSynchronized
  have w1 := hts (.methodLink RJ4 1 yJ5_init_d00df) (List.mem_of_getElem? (i := 1) rfl)
  have w2 := hts (.instanceMethod yJ5_init_d00df) (List.mem_of_getElem? (i := 2) rfl)
  have w3 := hts (.initialized RJ5) (List.mem_of_getElem? (i := 3) rfl)
  have hS : va_S (va_A [(B, .inr (8, [.null, .int 0, .int 0, .int (nI 0)]))] sz) s.heap s.heap [] := va_S.rf
  have hfr : entryFrame mt args 1 = F0 mt 0 ((lg_sl [.ref B] ++ List.replicate (1 - (lg_sl [.ref B]).length) Slot.unset).toArray) [] := by rw [hargs]; exact lg_entry_eq _ _ _
  rw [hfr]
  have hl := lv_entry ([.ref B]) (n := 1) (Nat.le_of_ble_eq_true rfl)
  generalize (lg_sl [.ref B] ++ List.replicate (1 - (lg_sl [.ref B]).length) Slot.unset).toArray = ls at hl ⊢
  have hl : lv_has ls 1 [(0, .ref B)] := hl
  clear hfr hargs BY
  show W p l0 e rmJ4_init_da8c8 s mt args below meth c s.heap [] 0 0 (MQ below (va_Qv (fun (_ : Nat) => True) (fun V t => va_P (dC, dI) vwCl (SB cy B V 16 (fun _ => 0) 0) t.heap ∧ va_D (va_A [(B, .inr (8, [.null, .int 0, .int 0, .int (nI 0)]))] sz) (SB cy B V 16 (fun _ => 0) 0)) (va_A [(B, .inr (8, [.null, .int 0, .int 0, .int (nI 0)]))] sz)) args s 1 16 (va_A [(B, .inr (8, [.null, .int 0, .int 0, .int (nI 0)]))] sz)) (F0 mt 0 ls [])
  have hEn := hE.narrow (B := (va_A [(B, .inr (8, [.null, .int 0, .int 0, .int (nI 0)]))] sz)) (fun x h => h)
  subst hsz
  have hD : va_D (va_A [(B, .inr (8, [.null, .int 0, .int 0, .int (nI 0)]))] s.heap.size) [(B, .inr (8, [.null, .int 0, .int 0, .int (nI 0)]))] := D1 (Or.inl ⟨0, _, rfl⟩)
  have hA : ∀ x : Nat, s.heap.size ≤ x → (va_A [(B, .inr (8, [.null, .int 0, .int 0, .int (nI 0)]))] s.heap.size) x := fun x h => Or.inr h
  refine lv_aload_n hx hb dJ4_init_da8c8_0 rfl (lv_at hl 0 rfl) ?_
  refine lv_bipush (v := 16) hx hb dJ4_init_da8c8_1 (by decide) ?_
  refine va_callv (va_runI (As := [.int 16]) (rest := []) ⟨hx, hb, hml, hown, hts⟩ (mJ5_init_d00df l0 dC dI cy tb B s.heap.size) (cwI 1 hts gJ4_init_da8c8_J5_init_d00df rfl rfl rfl w3 w1 w2 rfl ⟨by decide, by decide, by decide +kernel⟩ ⟨Nat.le_of_ble_eq_true rfl, Nat.le_of_ble_eq_true rfl⟩) ⟨PcJ_blind, fun U hU hW => ⟨rfl, by rw [hU], by rw [hU]; exact hP, va_K.moved hW.alike hK, hE.go hS hU hW (fun x h => h)⟩⟩ rfl rfl hl.1 rfl (lv_room (Nat.le_of_ble_eq_true rfl)) dJ4_init_da8c8_3 ⟨Nat.le_of_ble_eq_true rfl, Nat.le_of_ble_eq_true rfl⟩) hS (fun _ _ h => h) (fun _ h => h) (fun u tS H1 locs ht hvm hw hB hz1 hk1 hS => ?_)
  obtain ⟨hP, hD⟩ := hB
  rw [ht] at hP
  exact W.vret hx hb hr (fun t ht _ => ⟨⟨u, rfl, trivial, by rw [ht]; exact hP, hD⟩, hS.F ht⟩) hS.2.2 dJ4_init_da8c8_6 hlocks
theorem dmJ5_getValue_6d5f1 : yJ5_getValue_6d5f1.cls = RJ5 ∧ yJ5_getValue_6d5f1.cls ≠ "java/lang/invoke/MethodHandle" ∧ yJ5_getValue_6d5f1.cls ≠ "java/lang/invoke/VarHandle" ∧ (parseMethodDescriptor yJ5_getValue_6d5f1.desc).map (fun d => d.parameters.length) = some 0 := by decide +kernel
abbrev rmJ5_getValue_6d5f1 : Room := { frames := 0, cells := 0, slots := 0, locals := 0 }
theorem iJ_J5_getValue_6d5f1_J4 : ∀ w ∈ wsJ40, w ∈ wsJ5_getValue_6d5f1 := fun w h => List.mem_cons_of_mem _ (List.mem_append_right _ (h))
set_option maxHeartbeats 8000000 in
set_option maxRecDepth 100000 in
theorem mJ5_getValue_6d5f1 (l0 : Launch) (dC : Nat → ClassId) (dI : Nat → Nat → Nat) (cy : Nat → ClassId) (tb : Nat × Nat) (B V m n : Nat) (a : Nat → Int32) (sz : Nat) : Met l0 yJ5_getValue_6d5f1 wsJ5_getValue_6d5f1 rmJ5_getValue_6d5f1 (PcJ [.ref B] sz (dC, dI) cy (SB cy B V m a n) (va_A (SB cy B V m a n) sz) tb) (va_Qr (fun (_ : Unit) => True) (fun _ ra _ => ra = V) (fun _ => False)) 0 0 (fun _ => False) := by
  refine Met.ofW (cc := cJ5_getValue_6d5f1) (maxL := 1) (ret := (some (.array .byte))) (by decide) rfl ?_
  intro p e s mt args below meth c s₁ BY hml hv
  obtain ⟨hargs, hsz, hP, hK, hE⟩ := hv
  have hx := BY.exec
  have hb := BY.bytes
  have hr := BY.returns
  have hts := atoms_spec (ws := wsJ5_getValue_6d5f1) BY.pre
  have hown : s.vm.findClass RJ5 = some mt.cls := findClass_of_methodNamed BY.named
  have hlocks := BY.notSynchronized
  have w1 := hts (.fieldLink RJ5 15 "java/lang/AbstractStringBuilder" "value" "[B") (List.mem_of_getElem? (i := 1) rfl)
  have hS : va_S (fun _ => False) s.heap s.heap [] := va_S.rf
  have hfr : entryFrame mt args 1 = F0 mt 0 ((lg_sl [.ref B] ++ List.replicate (1 - (lg_sl [.ref B]).length) Slot.unset).toArray) [] := by rw [hargs]; exact lg_entry_eq _ _ _
  rw [hfr]
  have hl := lv_entry ([.ref B]) (n := 1) (Nat.le_of_ble_eq_true rfl)
  generalize (lg_sl [.ref B] ++ List.replicate (1 - (lg_sl [.ref B]).length) Slot.unset).toArray = ls at hl ⊢
  have hl : lv_has ls 1 [(0, .ref B)] := hl
  clear hfr hargs BY
  show W p l0 e rmJ5_getValue_6d5f1 s mt args below meth c s.heap [] 0 0 (MQ below (va_Qr (fun (_ : Unit) => True) (fun _ ra _ => ra = V) (fun _ => False)) args s 0 0 (fun _ => False)) (F0 mt 0 ls [])
  have hEn := hE.narrow (B := (fun _ => False)) (fun x h => h.elim)
  refine lv_aload_n hx hb dJ5_getValue_6d5f1_0 rfl (lv_at hl 0 rfl) ?_
  refine va_get (D := (dC, dI)) (ci := 8) (v := .ref V) (C := RJ4) (T := TJ4) (N := 4) hx hb hts iJ_J5_getValue_6d5f1_J4 hown hK hP 0 rfl rfl 0 (by decide) w1 (fun _ h9 => h9) rfl dJ5_getValue_6d5f1_1 ?_
  exact W.aret hx hb hr (Or.inr ⟨_, rfl⟩) (Or.inr ⟨_, rfl⟩) (fun t ht _ => ⟨⟨(), _, rfl, trivial, rfl⟩, hS.F ht⟩) hS.2.2 dJ5_getValue_6d5f1_4 hlocks
theorem dmJ5_length_8abf5 : yJ5_length_8abf5.cls = RJ5 ∧ yJ5_length_8abf5.cls ≠ "java/lang/invoke/MethodHandle" ∧ yJ5_length_8abf5.cls ≠ "java/lang/invoke/VarHandle" ∧ (parseMethodDescriptor yJ5_length_8abf5.desc).map (fun d => d.parameters.length) = some 0 := by decide +kernel
abbrev rmJ5_length_8abf5 : Room := { frames := 0, cells := 0, slots := 0, locals := 0 }
theorem iJ_J5_length_8abf5_J4 : ∀ w ∈ wsJ40, w ∈ wsJ5_length_8abf5 := fun w h => List.mem_cons_of_mem _ (List.mem_append_right _ (h))
set_option maxHeartbeats 8000000 in
set_option maxRecDepth 100000 in
theorem mJ5_length_8abf5 (l0 : Launch) (dC : Nat → ClassId) (dI : Nat → Nat → Nat) (cy : Nat → ClassId) (tb : Nat × Nat) (B V m n : Nat) (a : Nat → Int32) (sz : Nat) : Met l0 yJ5_length_8abf5 wsJ5_length_8abf5 rmJ5_length_8abf5 (PcJ [.ref B] sz (dC, dI) cy (SB cy B V m a n) (va_A (SB cy B V m a n) sz) tb) (va_Qi (fun (z : Int32) (_ : Unit) => z = nI n) (fun _ _ => True) (fun _ => False)) 0 0 (fun _ => False) := by
  refine Met.ofW (cc := cJ5_length_8abf5) (maxL := 1) (ret := (some .int)) (by decide) rfl ?_
  intro p e s mt args below meth c s₁ BY hml hv
  obtain ⟨hargs, hsz, hP, hK, hE⟩ := hv
  have hx := BY.exec
  have hb := BY.bytes
  have hr := BY.returns
  have hts := atoms_spec (ws := wsJ5_length_8abf5) BY.pre
  have hown : s.vm.findClass RJ5 = some mt.cls := findClass_of_methodNamed BY.named
  have hlocks := BY.notSynchronized
  have w1 := hts (.fieldLink RJ5 79 "java/lang/AbstractStringBuilder" "count" "I") (List.mem_of_getElem? (i := 1) rfl)
  have hS : va_S (fun _ => False) s.heap s.heap [] := va_S.rf
  have hfr : entryFrame mt args 1 = F0 mt 0 ((lg_sl [.ref B] ++ List.replicate (1 - (lg_sl [.ref B]).length) Slot.unset).toArray) [] := by rw [hargs]; exact lg_entry_eq _ _ _
  rw [hfr]
  have hl := lv_entry ([.ref B]) (n := 1) (Nat.le_of_ble_eq_true rfl)
  generalize (lg_sl [.ref B] ++ List.replicate (1 - (lg_sl [.ref B]).length) Slot.unset).toArray = ls at hl ⊢
  have hl : lv_has ls 1 [(0, .ref B)] := hl
  clear hfr hargs BY
  show W p l0 e rmJ5_length_8abf5 s mt args below meth c s.heap [] 0 0 (MQ below (va_Qi (fun (z : Int32) (_ : Unit) => z = nI n) (fun _ _ => True) (fun _ => False)) args s 0 0 (fun _ => False)) (F0 mt 0 ls [])
  have hEn := hE.narrow (B := (fun _ => False)) (fun x h => h.elim)
  refine lv_aload_n hx hb dJ5_length_8abf5_0 rfl (lv_at hl 0 rfl) ?_
  refine va_get (D := (dC, dI)) (ci := 8) (v := .int (nI n)) (C := RJ4) (T := TJ4) (N := 4) hx hb hts iJ_J5_length_8abf5_J4 hown hK hP 0 rfl rfl 3 (by decide) w1 (fun _ h9 => h9) rfl dJ5_length_8abf5_1 ?_
  exact W.iret hx hb hr (fun t ht _ => ⟨⟨_, (), rfl, rfl, trivial⟩, hS.F ht⟩) hS.2.2 dJ5_length_8abf5_4 hlocks
theorem dmJ4_length_8abf5 : yJ4_length_8abf5.cls = RJ4 ∧ yJ4_length_8abf5.cls ≠ "java/lang/invoke/MethodHandle" ∧ yJ4_length_8abf5.cls ≠ "java/lang/invoke/VarHandle" ∧ (parseMethodDescriptor yJ4_length_8abf5.desc).map (fun d => d.parameters.length) = some 0 := by decide +kernel
abbrev rmJ4_length_8abf5 : Room := { frames := 1, cells := 0, slots := 0, locals := 20 }
set_option maxHeartbeats 8000000 in
set_option maxRecDepth 100000 in
theorem mJ4_length_8abf5 (l0 : Launch) (dC : Nat → ClassId) (dI : Nat → Nat → Nat) (cy : Nat → ClassId) (tb : Nat × Nat) (B V m n : Nat) (a : Nat → Int32) (sz : Nat) : Met l0 yJ4_length_8abf5 wsJ4_length_8abf5 rmJ4_length_8abf5 (PcJ [.ref B] sz (dC, dI) cy (SB cy B V m a n) (va_A (SB cy B V m a n) sz) tb) (va_Qi (fun (z : Int32) (_ : Unit) => z = nI n) (fun _ _ => True) (fun _ => False)) 0 0 (fun _ => False) := by
  refine Met.ofW (cc := cJ4_length_8abf5) (maxL := 1) (ret := (some .int)) (by decide) rfl ?_
  intro p e s mt args below meth c s₁ BY hml hv
  obtain ⟨hargs, hsz, hP, hK, hE⟩ := hv
  have hx := BY.exec
  have hb := BY.bytes
  have hr := BY.returns
  have hts := atoms_spec (ws := wsJ4_length_8abf5) BY.pre
  have hown : s.vm.findClass RJ4 = some mt.cls := findClass_of_methodNamed BY.named
  have hlocks := BY.notSynchronized
  have hS : va_S (fun _ => False) s.heap s.heap [] := va_S.rf
  have hfr : entryFrame mt args 1 = F0 mt 0 ((lg_sl [.ref B] ++ List.replicate (1 - (lg_sl [.ref B]).length) Slot.unset).toArray) [] := by rw [hargs]; exact lg_entry_eq _ _ _
  rw [hfr]
  have hl := lv_entry ([.ref B]) (n := 1) (Nat.le_of_ble_eq_true rfl)
  generalize (lg_sl [.ref B] ++ List.replicate (1 - (lg_sl [.ref B]).length) Slot.unset).toArray = ls at hl ⊢
  have hl : lv_has ls 1 [(0, .ref B)] := hl
  clear hfr hargs BY
  show W p l0 e rmJ4_length_8abf5 s mt args below meth c s.heap [] 0 0 (MQ below (va_Qi (fun (z : Int32) (_ : Unit) => z = nI n) (fun _ _ => True) (fun _ => False)) args s 0 0 (fun _ => False)) (F0 mt 0 ls [])
  have hEn := hE.narrow (B := (fun _ => False)) (fun x h => h.elim)
  subst hsz
  refine lv_aload_n hx hb dJ4_length_8abf5_0 rfl (lv_at hl 0 rfl) ?_
  refine va_calli (va_runSU (C := RJ4) ((hK.1 8 _ rfl).2) (As := []) (rest := []) ⟨hx, hb, hml, hown, hts⟩ (mJ5_length_8abf5 l0 dC dI cy tb B V m n a s.heap.size) (va_cwSU 0 hts gJ4_length_8abf5_J5_length_8abf5_s343 rfl rfl rfl ⟨by decide, by decide +kernel⟩ ⟨Nat.le_of_ble_eq_true rfl, Nat.le_of_ble_eq_true rfl⟩) ⟨PcJ_blind, (va_recv hK hP (ci := 8) (q0 := 0) rfl rfl), fun U hU hW => ⟨rfl, by rw [hU], by rw [hU]; exact hP, va_K.moved hW.alike hK, hE.go hS hU hW (fun x h => vaA_mono hS.1 h)⟩⟩ rfl rfl hl.1 rfl (lv_room (Nat.le_of_ble_eq_true rfl)) dJ4_length_8abf5_1 ⟨Nat.le_of_ble_eq_true rfl, Nat.le_of_ble_eq_true rfl⟩) hS (fun _ _ h => h.elim) (fun _ h => h.elim) (fun r0 u0 tS H1 locs ht hvm hw hB hz1 hk1 hS => ?_)
  obtain rfl := hw
  exact W.iret hx hb hr (fun t ht _ => ⟨⟨_, (), rfl, rfl, trivial⟩, hS.F ht⟩) hS.2.2 dJ4_length_8abf5_4 hlocks
theorem dmJ7_checkLength_df160 : yJ7_checkLength_df160.cls ≠ "java/lang/invoke/MethodHandle" ∧ yJ7_checkLength_df160.cls ≠ "java/lang/invoke/VarHandle" ∧ (parseMethodDescriptor yJ7_checkLength_df160.desc).map (fun d => d.parameters.length) = some 2 := by decide +kernel
abbrev rmJ7_checkLength_df160 : Room := { frames := 0, cells := 0, slots := 0, locals := 0 }
set_option maxHeartbeats 8000000 in
set_option maxRecDepth 100000 in
theorem mJ7_checkLength_df160 (l0 : Launch) (n : Nat) (hn : n ≤ 200) : Met l0 yJ7_checkLength_df160 wsJ7_checkLength_df160 rmJ7_checkLength_df160 (va_Pc [.int 0, .int (nI n)] (fun _ => True)) (va_Qv (fun (_ : Unit) => True) (fun _ _ => True) (fun _ => False)) 0 0 (fun _ => False) := by
  refine Met.ofW (cc := cJ7_checkLength_df160) (maxL := 2) (ret := none) (by decide) rfl ?_
  intro p e s mt args below meth c s₁ BY hml hv
  obtain ⟨hargs, -⟩ := hv
  have hx := BY.exec
  have hb := BY.bytes
  have hr := BY.returns
  have hts := atoms_spec (ws := wsJ7_checkLength_df160) BY.pre
  have hown : s.vm.findClass RJ7 = some mt.cls := findClass_of_methodNamed BY.named
  have hlocks := BY.notSynchronized
  have hS : va_S (fun _ => False) s.heap s.heap [] := va_S.rf
  have hfr : entryFrame mt args 2 = F0 mt 0 ((lg_sl [.int 0, .int (nI n)] ++ List.replicate (2 - (lg_sl [.int 0, .int (nI n)]).length) Slot.unset).toArray) [] := by rw [hargs]; exact lg_entry_eq _ _ _
  rw [hfr]
  have hl := lv_entry ([.int 0, .int (nI n)]) (n := 2) (Nat.le_of_ble_eq_true rfl)
  generalize (lg_sl [.int 0, .int (nI n)] ++ List.replicate (2 - (lg_sl [.int 0, .int (nI n)]).length) Slot.unset).toArray = ls at hl ⊢
  have hl : lv_has ls 2 [(0, .int 0), (1, .int (nI n))] := hl
  clear hfr hargs BY
  show W p l0 e rmJ7_checkLength_df160 s mt args below meth c s.heap [] 0 0 (MQ below (va_Qv (fun (_ : Unit) => True) (fun _ _ => True) (fun _ => False)) args s 0 0 (fun _ => False)) (F0 mt 0 ls [])
  refine lv_iload_n hx hb dJ7_checkLength_df160_0 rfl (lv_at hl 1 rfl) ?_
  refine lv_iload_n hx hb dJ7_checkLength_df160_1 rfl (lv_at hl 0 rfl) ?_
  refine lv_icmp_ge (tgt := 37) hx hb dJ7_checkLength_df160_2 (by decide) (fun _ => ?_) (fun q9 => absurd (nI_pos' (by omega)) q9)
  exact W.vret hx hb hr (fun t ht _ => ⟨⟨(), rfl, trivial, trivial⟩, hS.F ht⟩) hS.2.2 dJ7_checkLength_df160_37 hlocks
theorem dmJ7_copyOfRangeByte_39247 : yJ7_copyOfRangeByte_39247.cls ≠ "java/lang/invoke/MethodHandle" ∧ yJ7_copyOfRangeByte_39247.cls ≠ "java/lang/invoke/VarHandle" ∧ (parseMethodDescriptor yJ7_copyOfRangeByte_39247.desc).map (fun d => d.parameters.length) = some 3 := by decide +kernel
abbrev rmJ7_copyOfRangeByte_39247 : Room := { frames := 1, cells := 1, slots := 200, locals := 64 }
set_option maxHeartbeats 8000000 in
set_option maxRecDepth 100000 in
theorem mJ7_copyOfRangeByte_39247 (l0 : Launch) (dC : Nat → ClassId) (dI : Nat → Nat → Nat) (cy : Nat → ClassId) (V m n : Nat) (a : Nat → Int32) (sz : Nat) (hnm : n ≤ m) (hm : m ≤ 200) (hf : sb_Fit a) : Met l0 yJ7_copyOfRangeByte_39247 wsJ7_copyOfRangeByte_39247 rmJ7_copyOfRangeByte_39247 (va_Pc [.ref V, .int 0, .int (nI n)] (fun U => U.heap.size = sz ∧ va_P (dC, dI) vwCl [(V, .inl (cy 4, m, .inl a))] U.heap ∧ va_K (dC, dI) vwCl (tysX cy) U)) (va_Qr (fun (b : Nat → Int32) => ∀ i, i < n → b i = a i) (fun b Wq t => va_P (dC, dI) vwCl [(V, .inl (cy 4, m, .inl a)), (Wq, .inl (cy 4, n, .inl b))] t.heap ∧ va_D (va_A [(V, .inl (cy 4, m, .inl a))] sz) [(V, .inl (cy 4, m, .inl a)), (Wq, .inl (cy 4, n, .inl b))]) (va_A [(V, .inl (cy 4, m, .inl a))] sz)) 1 200 (va_A [(V, .inl (cy 4, m, .inl a))] sz) := by
  refine Met.ofW (cc := cJ7_copyOfRangeByte_39247) (maxL := 5) (ret := (some (.array .byte))) (by decide) rfl ?_
  intro p e s mt args below meth c s₁ BY hml hv
  obtain ⟨hargs, hsz, hP, hK⟩ := hv
  have hx := BY.exec
  have hb := BY.bytes
  have hr := BY.returns
  have hts := atoms_spec (ws := wsJ7_copyOfRangeByte_39247) BY.pre
  have hown : s.vm.findClass RJ7 = some mt.cls := findClass_of_methodNamed BY.named
  have hlocks := BY.notSynchronized
  have w1 := hts (.arrayClass .byte) (List.mem_of_getElem? (i := 1) rfl)
  have w2 := hts (.methodLink RJ7 304 Lib.Math.min.name) (List.mem_of_getElem? (i := 2) rfl)
  have w3 := hts (.static Lib.Math.min.name) (List.mem_of_getElem? (i := 3) rfl)
  have w4 := hts (.initialized "java/lang/Math") (List.mem_of_getElem? (i := 4) rfl)
  have w5 := hts (.code Lib.Math.min.name Lib.Math.min.code 2 (some .int)) (List.mem_of_getElem? (i := 5) rfl)
  have w6 := hts (.methodLink RJ7 150 arraycopyName) (List.mem_of_getElem? (i := 6) rfl)
  have w7 := hts (.native arraycopyName) (List.mem_of_getElem? (i := 7) rfl)
  have w8 := hts (.static arraycopyName) (List.mem_of_getElem? (i := 8) rfl)
  have w9 := hts (.initialized "java/lang/System") (List.mem_of_getElem? (i := 9) rfl)
  have hS : va_S (va_A [(V, .inl (cy 4, m, .inl a))] sz) s.heap s.heap [] := va_S.rf
  have hfr : entryFrame mt args 5 = F0 mt 0 ((lg_sl [.ref V, .int 0, .int (nI n)] ++ List.replicate (5 - (lg_sl [.ref V, .int 0, .int (nI n)]).length) Slot.unset).toArray) [] := by rw [hargs]; exact lg_entry_eq _ _ _
  rw [hfr]
  have hl := lv_entry ([.ref V, .int 0, .int (nI n)]) (n := 5) (Nat.le_of_ble_eq_true rfl)
  generalize (lg_sl [.ref V, .int 0, .int (nI n)] ++ List.replicate (5 - (lg_sl [.ref V, .int 0, .int (nI n)]).length) Slot.unset).toArray = ls at hl ⊢
  have hl : lv_has ls 5 [(0, .ref V), (1, .int 0), (2, .int (nI n))] := hl
  clear hfr hargs BY
  show W p l0 e rmJ7_copyOfRangeByte_39247 s mt args below meth c s.heap [] 0 0 (MQ below (va_Qr (fun (b : Nat → Int32) => ∀ i, i < n → b i = a i) (fun b Wq t => va_P (dC, dI) vwCl [(V, .inl (cy 4, m, .inl a)), (Wq, .inl (cy 4, n, .inl b))] t.heap ∧ va_D (va_A [(V, .inl (cy 4, m, .inl a))] sz) [(V, .inl (cy 4, m, .inl a)), (Wq, .inl (cy 4, n, .inl b))]) (va_A [(V, .inl (cy 4, m, .inl a))] sz)) args s 1 200 (va_A [(V, .inl (cy 4, m, .inl a))] sz)) (F0 mt 0 ls [])
  subst hsz
  have hD : va_D (va_A [(V, .inl (cy 4, m, .inl a))] s.heap.size) [(V, .inl (cy 4, m, .inl a))] := D1 (Or.inl ⟨0, _, rfl⟩)
  have hA : ∀ x : Nat, s.heap.size ≤ x → (va_A [(V, .inl (cy 4, m, .inl a))] s.heap.size) x := fun x h => Or.inr h
  refine lv_iload_n hx hb dJ7_copyOfRangeByte_39247_0 rfl (lv_at hl 1 rfl) ?_
  refine lv_iload_n hx hb dJ7_copyOfRangeByte_39247_1 rfl (lv_at hl 2 rfl) ?_
  refine va_callv (va_runS (As := [.int 0, .int (nI n)]) (rest := []) ⟨hx, hb, hml, hown, hts⟩ (mJ7_checkLength_df160 l0 n (by omega)) (va_cwS 2 hts gJ7_copyOfRangeByte_39247_J7_checkLength_df160 rfl rfl rfl dmJ7_checkLength_df160 ⟨Nat.le_of_ble_eq_true rfl, Nat.le_of_ble_eq_true rfl⟩) ⟨T_blind, fun U hU hW => ⟨rfl, trivial⟩⟩ rfl rfl hl.1 rfl (lv_room (Nat.le_of_ble_eq_true rfl)) dJ7_copyOfRangeByte_39247_2 ⟨Nat.le_of_ble_eq_true rfl, Nat.le_of_ble_eq_true rfl⟩) hS (fun _ _ h => h.elim) (fun _ h => h.elim) (fun u0 tS H1 locs ht hvm hw hB hz1 hk1 hS => ?_)
  have hP := hP.kept (fun k x hx => hk1 x.1 (hP k x hx).lt (fun z => z))
  generalize H1 = H at hP hS ⊢
  refine lv_iload_n hx hb dJ7_copyOfRangeByte_39247_5 rfl (lv_at hl 2 rfl) ?_
  refine lv_iload_n hx hb dJ7_copyOfRangeByte_39247_6 rfl (lv_at hl 1 rfl) ?_
  refine lv_isub hx hb dJ7_copyOfRangeByte_39247_7 ?_
  rw [show (((nI n) - 0) : Int32) = (nI n) from Int32.sub_zero _]
  refine lv_istore_n (lv' := [(3, .int (nI n)), (0, .ref V), (1, .int 0), (2, .int (nI n))]) hx hb dJ7_copyOfRangeByte_39247_8 rfl hl (by decide) rfl (fun ls hl => ?_)
  refine lv_iload_n hx hb dJ7_copyOfRangeByte_39247_9 rfl (lv_at hl 0 rfl) ?_
  refine xt_newa (atype := .byte) (N' := n) (ty := .byte) hx hb w1 rfl 4 rfl (fun _ h1 h2 => ra_b h1 h2) hK hP hD hS hA rfl (nI_pos (by omega)) (nI_clamp (by omega)) (by show n * 1 ≤ _; omega) (by decide) (by show 0 + n ≤ 200; omega) dJ7_copyOfRangeByte_39247_10 (fun Wq H hP hD hS => ?_)
  have hP : va_P (dC, dI) vwCl [(V, .inl (cy 4, m, .inl a)), (Wq, .inl (cy 4, n, .inl (fun _ => 0)))] H := hP
  have hD : va_D (va_A [(V, .inl (cy 4, m, .inl a))] s.heap.size) [(V, .inl (cy 4, m, .inl a)), (Wq, .inl (cy 4, n, .inl (fun _ => 0)))] := hD
  refine lv_astore (lv' := [(4, .ref Wq), (3, .int (nI n)), (0, .ref V), (1, .int 0), (2, .int (nI n))]) hx hb dJ7_copyOfRangeByte_39247_12 hl (by decide) rfl (fun ls hl => ?_)
  refine lv_aload_n hx hb dJ7_copyOfRangeByte_39247_14 rfl (lv_at hl 2 rfl) ?_
  refine lv_iload_n hx hb dJ7_copyOfRangeByte_39247_15 rfl (lv_at hl 3 rfl) ?_
  refine lv_aload hx hb dJ7_copyOfRangeByte_39247_16 (lv_at hl 0 rfl) ?_
  refine lv_iconst (v := 0) hx hb dJ7_copyOfRangeByte_39247_18 (by decide) ?_
  refine lv_aload_n hx hb dJ7_copyOfRangeByte_39247_19 rfl (lv_at hl 2 rfl) ?_
  refine va_alen hx hb hK hP 0 4 rfl rfl (v := (nI m)) (rfl) dJ7_copyOfRangeByte_39247_20 ?_
  refine lv_iload_n hx hb dJ7_copyOfRangeByte_39247_21 rfl (lv_at hl 3 rfl) ?_
  refine lv_isub hx hb dJ7_copyOfRangeByte_39247_22 ?_
  rw [show (((nI m) - 0) : Int32) = (nI m) from Int32.sub_zero _]
  refine lv_iload_n hx hb dJ7_copyOfRangeByte_39247_23 rfl (lv_at hl 1 rfl) ?_
  refine va_mmin hx hb (hml.trans hl.1.symm) hown w2 w3 w4 w5 (Nat.le_of_ble_eq_true rfl) (Nat.le_of_ble_eq_true rfl) (Nat.le_of_ble_eq_true rfl) (by show 0 + n ≤ 200; omega) dJ7_copyOfRangeByte_39247_24 ?_
  rw [show ((if nI n < nI m then nI n else nI m) : Int32) = (nI n) from nI_min2 hnm (by omega)]
  refine va_copyi hx hb (hml.trans hl.1.symm) hown w6 w7 w8 w9 hK hP hD hS 0 1 4 4 rfl rfl rfl rfl rfl (by decide) (by decide) (nI_pos (by omega)) (by rw [nI_clamp (n := n) (by omega), sb_cl0]; omega) (by rw [nI_clamp (n := n) (by omega), sb_cl0]; omega) (fun _ _ => hf _) (Nat.le_of_ble_eq_true rfl) (Nat.le_of_ble_eq_true rfl) dJ7_copyOfRangeByte_39247_27 (fun H locs hP hD hS => ?_)
  rw [nI_clamp (n := n) (by omega), sb_cl0] at hP hD
  refine lv_aload hx hb dJ7_copyOfRangeByte_39247_30 (lv_at hl 0 rfl) ?_
  refine W.widen (k := 1) (n := 200) (Nat.le_of_ble_eq_true rfl) (by show 0 + n ≤ 200; omega) ?_
  exact W.aret hx hb hr (Or.inr ⟨_, rfl⟩) (Or.inr ⟨_, rfl⟩) (fun t ht _ => ⟨⟨va_cpy a (fun _ => 0) 0 0 n, _, rfl, fun i hi => sb_cpy0 hi, by rw [ht]; exact hP, hD⟩, hS.F ht⟩) hS.2.2 dJ7_copyOfRangeByte_39247_32 hlocks
theorem dmJ7_copyOfRange_39247 : yJ7_copyOfRange_39247.cls ≠ "java/lang/invoke/MethodHandle" ∧ yJ7_copyOfRange_39247.cls ≠ "java/lang/invoke/VarHandle" ∧ (parseMethodDescriptor yJ7_copyOfRange_39247.desc).map (fun d => d.parameters.length) = some 3 := by decide +kernel
abbrev rmJ7_copyOfRange_39247 : Room := { frames := 2, cells := 1, slots := 200, locals := 110 }
set_option maxHeartbeats 8000000 in
set_option maxRecDepth 100000 in
theorem mJ7_copyOfRange_39247 (l0 : Launch) (dC : Nat → ClassId) (dI : Nat → Nat → Nat) (cy : Nat → ClassId) (tb : Nat × Nat) (V m n : Nat) (a : Nat → Int32) (sz : Nat) (hnm : n ≤ m) (hm : m ≤ 200) (hf : sb_Fit a) : Met l0 yJ7_copyOfRange_39247 wsJ7_copyOfRange_39247 rmJ7_copyOfRange_39247 (PcJ [.ref V, .int 0, .int (nI n)] sz (dC, dI) cy [(V, .inl (cy 4, m, .inl a))] (va_A [(V, .inl (cy 4, m, .inl a))] sz) tb) (va_Qr (fun (b : Nat → Int32) => ∀ i, i < n → b i = a i) (fun b Wq t => va_P (dC, dI) vwCl [(V, .inl (cy 4, m, .inl a)), (Wq, .inl (cy 4, n, .inl b))] t.heap ∧ va_D (va_A [(V, .inl (cy 4, m, .inl a))] sz) [(V, .inl (cy 4, m, .inl a)), (Wq, .inl (cy 4, n, .inl b))]) (va_A [(V, .inl (cy 4, m, .inl a))] sz)) 1 200 (va_A [(V, .inl (cy 4, m, .inl a))] sz) := by
  refine Met.ofW (cc := cJ7_copyOfRange_39247) (maxL := 3) (ret := (some (.array .byte))) (by decide) rfl ?_
  intro p e s mt args below meth c s₁ BY hml hv
  obtain ⟨hargs, hsz, hP, hK, hE⟩ := hv
  have hx := BY.exec
  have hb := BY.bytes
  have hr := BY.returns
  have hts := atoms_spec (ws := wsJ7_copyOfRange_39247) BY.pre
  have hown : s.vm.findClass RJ7 = some mt.cls := findClass_of_methodNamed BY.named
  have hlocks := BY.notSynchronized
  have w1 := hts (.methodLink RJ7 310 ⟨"[B", "clone", "()Ljava/lang/Object;"⟩) (List.mem_of_getElem? (i := 1) rfl)
  have w2 := hts (.sameMethod "[B" "java/lang/Object" "clone" "()Ljava/lang/Object;") (List.mem_of_getElem? (i := 2) rfl)
  have w3 := hts (.native ⟨"java/lang/Object", "clone", "()Ljava/lang/Object;"⟩) (List.mem_of_getElem? (i := 3) rfl)
  have w4 := hts (.instanceMethod ⟨"java/lang/Object", "clone", "()Ljava/lang/Object;"⟩) (List.mem_of_getElem? (i := 4) rfl)
  have w5 := hts (.selects "[B" ⟨"[B", "clone", "()Ljava/lang/Object;"⟩ ⟨"java/lang/Object", "clone", "()Ljava/lang/Object;"⟩) (List.mem_of_getElem? (i := 5) rfl)
  have w6 := hts (.classLink RJ7 311 "[B") (List.mem_of_getElem? (i := 6) rfl)
  have hS : va_S (va_A [(V, .inl (cy 4, m, .inl a))] sz) s.heap s.heap [] := va_S.rf
  have hfr : entryFrame mt args 3 = F0 mt 0 ((lg_sl [.ref V, .int 0, .int (nI n)] ++ List.replicate (3 - (lg_sl [.ref V, .int 0, .int (nI n)]).length) Slot.unset).toArray) [] := by rw [hargs]; exact lg_entry_eq _ _ _
  rw [hfr]
  have hl := lv_entry ([.ref V, .int 0, .int (nI n)]) (n := 3) (Nat.le_of_ble_eq_true rfl)
  generalize (lg_sl [.ref V, .int 0, .int (nI n)] ++ List.replicate (3 - (lg_sl [.ref V, .int 0, .int (nI n)]).length) Slot.unset).toArray = ls at hl ⊢
  have hl : lv_has ls 3 [(0, .ref V), (1, .int 0), (2, .int (nI n))] := hl
  clear hfr hargs BY
  show W p l0 e rmJ7_copyOfRange_39247 s mt args below meth c s.heap [] 0 0 (MQ below (va_Qr (fun (b : Nat → Int32) => ∀ i, i < n → b i = a i) (fun b Wq t => va_P (dC, dI) vwCl [(V, .inl (cy 4, m, .inl a)), (Wq, .inl (cy 4, n, .inl b))] t.heap ∧ va_D (va_A [(V, .inl (cy 4, m, .inl a))] sz) [(V, .inl (cy 4, m, .inl a)), (Wq, .inl (cy 4, n, .inl b))]) (va_A [(V, .inl (cy 4, m, .inl a))] sz)) args s 1 200 (va_A [(V, .inl (cy 4, m, .inl a))] sz)) (F0 mt 0 ls [])
  have hEn := hE.narrow (B := (va_A [(V, .inl (cy 4, m, .inl a))] sz)) (fun x h => h)
  subst hsz
  have hD : va_D (va_A [(V, .inl (cy 4, m, .inl a))] s.heap.size) [(V, .inl (cy 4, m, .inl a))] := D1 (Or.inl ⟨0, _, rfl⟩)
  have hA : ∀ x : Nat, s.heap.size ≤ x → (va_A [(V, .inl (cy 4, m, .inl a))] s.heap.size) x := fun x h => Or.inr h
  refine lv_iload_n hx hb dJ7_copyOfRange_39247_0 rfl (lv_at hl 1 rfl) ?_
  refine lv_if_ne (tgt := 10) hx hb dJ7_copyOfRange_39247_1 (by decide) (fun q9 => absurd (rfl) q9) (fun _ => ?_)
  refine lv_iload_n hx hb dJ7_copyOfRange_39247_4 rfl (lv_at hl 2 rfl) ?_
  refine lv_aload_n hx hb dJ7_copyOfRange_39247_5 rfl (lv_at hl 0 rfl) ?_
  refine va_alen hx hb hK hP 0 4 rfl rfl (v := (nI m)) (rfl) dJ7_copyOfRange_39247_6 ?_
  rcases Nat.lt_or_ge n m with h1 | h1
  · refine lv_icmp_eq (tgt := 17) hx hb dJ7_copyOfRange_39247_7 (by decide) (fun q9 => absurd q9 (fun z => by have := (nI_eq (by omega) (by omega)).mp z; omega)) (fun _ => ?_)
    refine lv_aload_n hx hb dJ7_copyOfRange_39247_10 rfl (lv_at hl 0 rfl) ?_
    refine lv_iload_n hx hb dJ7_copyOfRange_39247_11 rfl (lv_at hl 1 rfl) ?_
    refine lv_iload_n hx hb dJ7_copyOfRange_39247_12 rfl (lv_at hl 2 rfl) ?_
    refine va_callr (va_runS (As := [.ref V, .int 0, .int (nI n)]) (rest := []) ⟨hx, hb, hml, hown, hts⟩ (mJ7_copyOfRangeByte_39247 l0 dC dI cy V m n a s.heap.size hnm hm hf) (va_cwS 3 hts gJ7_copyOfRange_39247_J7_copyOfRangeByte_39247 rfl rfl rfl dmJ7_copyOfRangeByte_39247 ⟨Nat.le_of_ble_eq_true rfl, Nat.le_of_ble_eq_true rfl⟩) ⟨PV_blind, fun U hU hW => ⟨rfl, by rw [hU], by rw [hU]; exact hP, va_K.moved hW.alike hK⟩⟩ rfl rfl hl.1 rfl (lv_room (Nat.le_of_ble_eq_true rfl)) dJ7_copyOfRange_39247_13 ⟨Nat.le_of_ble_eq_true rfl, Nat.le_of_ble_eq_true rfl⟩) hS (fun _ _ h => h) (fun _ h => h) (fun b Wq tS H1 locs ht hvm hw hB hz1 hk1 hS => ?_)
    obtain ⟨hP, hD⟩ := hB
    rw [ht] at hP
    exact W.aret hx hb hr (Or.inr ⟨_, rfl⟩) (Or.inr ⟨_, rfl⟩) (fun t ht _ => ⟨⟨b, _, rfl, hw, by rw [ht]; exact hP, hD⟩, hS.F ht⟩) hS.2.2 dJ7_copyOfRange_39247_16 hlocks
  · obtain rfl : n = m := Nat.le_antisymm hnm h1
    refine lv_icmp_eq (tgt := 17) hx hb dJ7_copyOfRange_39247_7 (by decide) (fun _ => ?_) (fun q9 => absurd (rfl) q9)
    refine lv_aload_n hx hb dJ7_copyOfRange_39247_17 rfl (lv_at hl 0 rfl) ?_
    have hBf : s.vm.findClass "[B" = some (cy 4) := (hK.2 4 _ rfl).2
    refine va_clone hx hb (hml.trans hl.1.symm) hown w1 w2 w3 w4 w5 hE.2.2.2.2 hK hP hD hS hA 0 4 rfl rfl hBf (fun i v hv => ?_) (Nat.le_of_ble_eq_true rfl) (Nat.le_of_ble_eq_true rfl) (Nat.le_of_ble_eq_true rfl) (by show 0 + n ≤ 200; omega) dJ7_copyOfRange_39247_18 (fun Wq H hK2 hP hD hS => ?_)
    · rcases Nat.lt_or_ge i n with hi | hi
      · rw [show (vp_cell (cy 4) (n, .inl a)).slots[i]? = some (.int (a i)) from arrV_read _ _ hi] at hv; cases hv; exact hf i
      · rw [Array.getElem?_eq_none (by rw [show (vp_cell (cy 4) (n, .inl a)).slots.size = n from arrV_size _ _ _]; exact hi)] at hv; cases hv
    have hP : va_P (dC, dI) vwCl [(V, .inl (cy 4, n, .inl a)), (Wq, .inl (cy 4, n, .inl a))] H := hP
    have hD : va_D (va_A [(V, .inl (cy 4, n, .inl a))] s.heap.size) [(V, .inl (cy 4, n, .inl a)), (Wq, .inl (cy 4, n, .inl a))] := hD
    refine va_castA hx hb hown w6 hP 1 rfl hBf dJ7_copyOfRange_39247_21 ?_
    refine W.widen (k := 1) (n := 200) (Nat.le_of_ble_eq_true rfl) (by show 0 + n ≤ 200; omega) ?_
    exact W.aret hx hb hr (Or.inr ⟨_, rfl⟩) (Or.inr ⟨_, rfl⟩) (fun t ht _ => ⟨⟨a, _, rfl, fun _ _ => rfl, by rw [ht]; exact hP, hD⟩, hS.F ht⟩) hS.2.2 dJ7_copyOfRange_39247_24 hlocks
