-- strings
theorem dmJ0_coder_7d493 : yJ0_coder_7d493.cls = RJ0 ∧ yJ0_coder_7d493.cls ≠ "java/lang/invoke/MethodHandle" ∧ yJ0_coder_7d493.cls ≠ "java/lang/invoke/VarHandle" ∧ (parseMethodDescriptor yJ0_coder_7d493.desc).map (fun d => d.parameters.length) = some 0 := by decide +kernel
abbrev rmJ0_coder_7d493 : Room := { frames := 0, cells := 0, slots := 0, locals := 0 }
set_option maxHeartbeats 8000000 in
set_option maxRecDepth 100000 in
theorem mJ0_coder_7d493 (l0 : Launch) (dC : Nat → ClassId) (dI : Nat → Nat → Nat) (cy : Nat → ClassId) (tb : Nat × Nat) (q v k : Nat) (t : Nat → Int32) (sz : Nat) : Met l0 yJ0_coder_7d493 wsJ0_coder_7d493 rmJ0_coder_7d493 (PcS [.ref q] sz (dC, dI) cy [] (fun _ => False) tb q v k t) (va_Qi (fun (z : Int32) (_ : Unit) => z = 0) (fun _ _ => True) (fun _ => False)) 0 0 (fun _ => False) := by
  refine Met.ofW (cc := cJ0_coder_7d493) (maxL := 1) (ret := (some .byte)) (by decide) rfl ?_
  intro p e s mt args below meth c s₁ BY hml hv
  obtain ⟨hargs, hsz, hP, hK, hE, hT⟩ := hv
  have hx := BY.exec
  have hb := BY.bytes
  have hr := BY.returns
  have hts := atoms_spec (ws := wsJ0_coder_7d493) BY.pre
  have hown : s.vm.findClass RJ0 = some mt.cls := findClass_of_methodNamed BY.named
  have hlocks := BY.notSynchronized
  have w1 := hts (.fieldLink RJ0 38 "java/lang/String" "COMPACT_STRINGS" "Z") (List.mem_of_getElem? (i := 1) rfl)
  have w2 := hts (.fieldLink RJ0 15 "java/lang/String" "coder" "B") (List.mem_of_getElem? (i := 2) rfl)
  have hS : va_S (fun _ => False) s.heap s.heap [] := va_S.rf
  have hfr : entryFrame mt args 1 = F0 mt 0 ((lg_sl [.ref q] ++ List.replicate (1 - (lg_sl [.ref q]).length) Slot.unset).toArray) [] := by rw [hargs]; exact lg_entry_eq _ _ _
  rw [hfr]
  have hl := lv_entry ([.ref q]) (n := 1) (Nat.le_of_ble_eq_true rfl)
  generalize (lg_sl [.ref q] ++ List.replicate (1 - (lg_sl [.ref q]).length) Slot.unset).toArray = ls at hl ⊢
  have hl : lv_has ls 1 [(0, .ref q)] := hl
  clear hfr hargs BY
  show W p l0 e rmJ0_coder_7d493 s mt args below meth c s.heap [] 0 0 (MQ below (va_Qi (fun (z : Int32) (_ : Unit) => z = 0) (fun _ _ => True) (fun _ => False)) args s 0 0 (fun _ => False)) (F0 mt 0 ls [])
  have hEn := hE.narrow (B := (fun _ => False)) (fun x h => h.elim)
  refine va_gets hx hb (C := "java/lang/String") (n := "COMPACT_STRINGS") (d := "Z") hEn.1 hS hown w1 (fun _ h9 => h9) dJ0_coder_7d493_0 ?_
  refine lv_if_eq (tgt := 13) hx hb dJ0_coder_7d493_3 (by decide) (fun q9 => absurd q9 (by decide)) (fun _ => ?_)
  refine lv_aload_n hx hb dJ0_coder_7d493_6 rfl (lv_at hl 0 rfl) ?_
  refine vk_getf hx hb (o := "java/lang/String") (n := "coder") (d := "B") hT.2.1 hS hown w2 (fun _ h9 => h9) dJ0_coder_7d493_7 ?_
  refine lv_goto (tgt := 14) hx hb dJ0_coder_7d493_10 (by decide) ?_
  exact W.zret hx hb hr rfl (fun t ht _ => ⟨⟨_, (), rfl, rfl, trivial⟩, hS.F ht⟩) hS.2.2 dJ0_coder_7d493_14 hlocks
theorem dmJ0_length_8abf5 : yJ0_length_8abf5.cls = RJ0 ∧ yJ0_length_8abf5.cls ≠ "java/lang/invoke/MethodHandle" ∧ yJ0_length_8abf5.cls ≠ "java/lang/invoke/VarHandle" ∧ (parseMethodDescriptor yJ0_length_8abf5.desc).map (fun d => d.parameters.length) = some 0 := by decide +kernel
abbrev rmJ0_length_8abf5 : Room := { frames := 1, cells := 0, slots := 0, locals := 20 }
set_option maxHeartbeats 8000000 in
set_option maxRecDepth 100000 in
theorem mJ0_length_8abf5 (l0 : Launch) (dC : Nat → ClassId) (dI : Nat → Nat → Nat) (cy : Nat → ClassId) (tb : Nat × Nat) (q v k : Nat) (t : Nat → Int32) (sz : Nat) : Met l0 yJ0_length_8abf5 wsJ0_length_8abf5 rmJ0_length_8abf5 (PcS [.ref q] sz (dC, dI) cy [] (fun _ => False) tb q v k t) (va_Qi (fun (z : Int32) (_ : Unit) => z = nI k) (fun _ _ => True) (fun _ => False)) 0 0 (fun _ => False) := by
  refine Met.ofW (cc := cJ0_length_8abf5) (maxL := 1) (ret := (some .int)) (by decide) rfl ?_
  intro p e s mt args below meth c s₁ BY hml hv
  obtain ⟨hargs, hsz, hP, hK, hE, hT⟩ := hv
  have hx := BY.exec
  have hb := BY.bytes
  have hr := BY.returns
  have hts := atoms_spec (ws := wsJ0_length_8abf5) BY.pre
  have hown : s.vm.findClass RJ0 = some mt.cls := findClass_of_methodNamed BY.named
  have hlocks := BY.notSynchronized
  have w1 := hts (.fieldLink RJ0 9 "java/lang/String" "value" "[B") (List.mem_of_getElem? (i := 1) rfl)
  have hS : va_S (fun _ => False) s.heap s.heap [] := va_S.rf
  have hfr : entryFrame mt args 1 = F0 mt 0 ((lg_sl [.ref q] ++ List.replicate (1 - (lg_sl [.ref q]).length) Slot.unset).toArray) [] := by rw [hargs]; exact lg_entry_eq _ _ _
  rw [hfr]
  have hl := lv_entry ([.ref q]) (n := 1) (Nat.le_of_ble_eq_true rfl)
  generalize (lg_sl [.ref q] ++ List.replicate (1 - (lg_sl [.ref q]).length) Slot.unset).toArray = ls at hl ⊢
  have hl : lv_has ls 1 [(0, .ref q)] := hl
  clear hfr hargs BY
  show W p l0 e rmJ0_length_8abf5 s mt args below meth c s.heap [] 0 0 (MQ below (va_Qi (fun (z : Int32) (_ : Unit) => z = nI k) (fun _ _ => True) (fun _ => False)) args s 0 0 (fun _ => False)) (F0 mt 0 ls [])
  have hEn := hE.narrow (B := (fun _ => False)) (fun x h => h.elim)
  refine lv_aload_n hx hb dJ0_length_8abf5_0 rfl (lv_at hl 0 rfl) ?_
  refine vk_getf hx hb (o := "java/lang/String") (n := "value") (d := "[B") hT.2.2.1 hS hown w1 (fun _ h9 => h9) dJ0_length_8abf5_1 ?_
  refine va_tlen hx hb hT.2.2.2 hS (v := nI k) rfl dJ0_length_8abf5_4 ?_
  refine lv_aload_n hx hb dJ0_length_8abf5_5 rfl (lv_at hl 0 rfl) ?_
  refine va_calli (va_runV (As := []) (rest := [.int (nI k)]) ⟨hx, hb, hml, hown, hts⟩ (mJ0_coder_7d493 l0 dC dI cy tb q v k t s.heap.size) (cwV 0 hts gJ0_length_8abf5_J0_coder_7d493 rfl rfl rfl dmJ0_coder_7d493 ⟨Nat.le_of_ble_eq_true rfl, Nat.le_of_ble_eq_true rfl⟩) ⟨PcS_blind, hT.recv hS, fun U hU hW => ⟨rfl, by rw [hU], fun k x hx => by simp at hx, va_K.moved hW.alike hK, hE.go hS hU hW (fun x h => h.elim), hT.go hS hU hW (fun x h => h.elim)⟩⟩ rfl rfl hl.1 rfl (lv_room (Nat.le_of_ble_eq_true rfl)) dJ0_length_8abf5_6 ⟨Nat.le_of_ble_eq_true rfl, Nat.le_of_ble_eq_true rfl⟩) hS (fun _ _ h => h.elim) (fun _ h => h.elim) (fun r0 u0 tS H1 locs ht hvm hw hB hz1 hk1 hS => ?_)
  obtain rfl := hw
  have hP := hP.kept (fun k x hx => hk1 x.1 (hP k x hx).lt (fun z => z))
  generalize H1 = H at hP hS ⊢
  refine lv_ishr hx hb dJ0_length_8abf5_9 ?_
  rw [show (((nI k) >>> (0 &&& 31)) : Int32) = (nI k) from sb_shr0 _]
  exact W.iret hx hb hr (fun t ht _ => ⟨⟨_, (), rfl, rfl, trivial⟩, hS.F ht⟩) hS.2.2 dJ0_length_8abf5_10 hlocks
theorem dmJ0_isLatin1_aae02 : yJ0_isLatin1_aae02.cls = RJ0 ∧ yJ0_isLatin1_aae02.cls ≠ "java/lang/invoke/MethodHandle" ∧ yJ0_isLatin1_aae02.cls ≠ "java/lang/invoke/VarHandle" ∧ (parseMethodDescriptor yJ0_isLatin1_aae02.desc).map (fun d => d.parameters.length) = some 0 := by decide +kernel
abbrev rmJ0_isLatin1_aae02 : Room := { frames := 0, cells := 0, slots := 0, locals := 0 }
set_option maxHeartbeats 8000000 in
set_option maxRecDepth 100000 in
theorem mJ0_isLatin1_aae02 (l0 : Launch) (dC : Nat → ClassId) (dI : Nat → Nat → Nat) (cy : Nat → ClassId) (tb : Nat × Nat) (q v k : Nat) (t : Nat → Int32) (sz : Nat) : Met l0 yJ0_isLatin1_aae02 wsJ0_isLatin1_aae02 rmJ0_isLatin1_aae02 (PcS [.ref q] sz (dC, dI) cy [] (fun _ => False) tb q v k t) (va_Qi (fun (z : Int32) (_ : Unit) => z = 1) (fun _ _ => True) (fun _ => False)) 0 0 (fun _ => False) := by
  refine Met.ofW (cc := cJ0_isLatin1_aae02) (maxL := 1) (ret := (some .boolean)) (by decide) rfl ?_
  intro p e s mt args below meth c s₁ BY hml hv
  obtain ⟨hargs, hsz, hP, hK, hE, hT⟩ := hv
  have hx := BY.exec
  have hb := BY.bytes
  have hr := BY.returns
  have hts := atoms_spec (ws := wsJ0_isLatin1_aae02) BY.pre
  have hown : s.vm.findClass RJ0 = some mt.cls := findClass_of_methodNamed BY.named
  have hlocks := BY.notSynchronized
  have w1 := hts (.fieldLink RJ0 38 "java/lang/String" "COMPACT_STRINGS" "Z") (List.mem_of_getElem? (i := 1) rfl)
  have w2 := hts (.fieldLink RJ0 15 "java/lang/String" "coder" "B") (List.mem_of_getElem? (i := 2) rfl)
  have hS : va_S (fun _ => False) s.heap s.heap [] := va_S.rf
  have hfr : entryFrame mt args 1 = F0 mt 0 ((lg_sl [.ref q] ++ List.replicate (1 - (lg_sl [.ref q]).length) Slot.unset).toArray) [] := by rw [hargs]; exact lg_entry_eq _ _ _
  rw [hfr]
  have hl := lv_entry ([.ref q]) (n := 1) (Nat.le_of_ble_eq_true rfl)
  generalize (lg_sl [.ref q] ++ List.replicate (1 - (lg_sl [.ref q]).length) Slot.unset).toArray = ls at hl ⊢
  have hl : lv_has ls 1 [(0, .ref q)] := hl
  clear hfr hargs BY
  show W p l0 e rmJ0_isLatin1_aae02 s mt args below meth c s.heap [] 0 0 (MQ below (va_Qi (fun (z : Int32) (_ : Unit) => z = 1) (fun _ _ => True) (fun _ => False)) args s 0 0 (fun _ => False)) (F0 mt 0 ls [])
  have hEn := hE.narrow (B := (fun _ => False)) (fun x h => h.elim)
  refine va_gets hx hb (C := "java/lang/String") (n := "COMPACT_STRINGS") (d := "Z") hEn.1 hS hown w1 (fun _ h9 => h9) dJ0_isLatin1_aae02_0 ?_
  refine lv_if_eq (tgt := 17) hx hb dJ0_isLatin1_aae02_3 (by decide) (fun q9 => absurd q9 (by decide)) (fun _ => ?_)
  refine lv_aload_n hx hb dJ0_isLatin1_aae02_6 rfl (lv_at hl 0 rfl) ?_
  refine vk_getf hx hb (o := "java/lang/String") (n := "coder") (d := "B") hT.2.1 hS hown w2 (fun _ h9 => h9) dJ0_isLatin1_aae02_7 ?_
  refine lv_if_ne (tgt := 17) hx hb dJ0_isLatin1_aae02_10 (by decide) (fun q9 => absurd (rfl) q9) (fun _ => ?_)
  refine lv_iconst (v := 1) hx hb dJ0_isLatin1_aae02_13 (by decide) ?_
  refine lv_goto (tgt := 18) hx hb dJ0_isLatin1_aae02_14 (by decide) ?_
  exact W.zret hx hb hr rfl (fun t ht _ => ⟨⟨_, (), rfl, rfl, trivial⟩, hS.F ht⟩) hS.2.2 dJ0_isLatin1_aae02_18 hlocks
theorem dmJ3_checkIndex_8e157 : yJ3_checkIndex_8e157.cls ≠ "java/lang/invoke/MethodHandle" ∧ yJ3_checkIndex_8e157.cls ≠ "java/lang/invoke/VarHandle" ∧ (parseMethodDescriptor yJ3_checkIndex_8e157.desc).map (fun d => d.parameters.length) = some 3 := by decide +kernel
abbrev rmJ3_checkIndex_8e157 : Room := { frames := 0, cells := 0, slots := 0, locals := 0 }
set_option maxHeartbeats 8000000 in
set_option maxRecDepth 100000 in
theorem mJ3_checkIndex_8e157_n (l0 : Launch) (x y : Int32) (h0 : ¬ x < 0) (hk : x < y) : Met l0 yJ3_checkIndex_8e157 wsJ3_checkIndex_8e157 rmJ3_checkIndex_8e157 (va_Pc [.int x, .int y, .null] (fun _ => True)) (va_Qi (fun (z : Int32) (_ : Unit) => z = x) (fun _ _ => True) (fun _ => False)) 0 0 (fun _ => False) := by
  refine Met.ofW (cc := cJ3_checkIndex_8e157) (maxL := 3) (ret := (some .int)) (by decide) rfl ?_
  intro p e s mt args below meth c s₁ BY hml hv
  obtain ⟨hargs, -⟩ := hv
  have hx := BY.exec
  have hb := BY.bytes
  have hr := BY.returns
  have hts := atoms_spec (ws := wsJ3_checkIndex_8e157) BY.pre
  have hown : s.vm.findClass RJ3 = some mt.cls := findClass_of_methodNamed BY.named
  have hlocks := BY.notSynchronized
  have hS : va_S (fun _ => False) s.heap s.heap [] := va_S.rf
  have hfr : entryFrame mt args 3 = F0 mt 0 ((lg_sl [.int x, .int y, .null] ++ List.replicate (3 - (lg_sl [.int x, .int y, .null]).length) Slot.unset).toArray) [] := by rw [hargs]; exact lg_entry_eq _ _ _
  rw [hfr]
  have hl := lv_entry ([.int x, .int y, .null]) (n := 3) (Nat.le_of_ble_eq_true rfl)
  generalize (lg_sl [.int x, .int y, .null] ++ List.replicate (3 - (lg_sl [.int x, .int y, .null]).length) Slot.unset).toArray = ls at hl ⊢
  have hl : lv_has ls 3 [(0, .int x), (1, .int y), (2, .null)] := hl
  clear hfr hargs BY
  show W p l0 e rmJ3_checkIndex_8e157 s mt args below meth c s.heap [] 0 0 (MQ below (va_Qi (fun (z : Int32) (_ : Unit) => z = x) (fun _ _ => True) (fun _ => False)) args s 0 0 (fun _ => False)) (F0 mt 0 ls [])
  refine lv_iload_n hx hb dJ3_checkIndex_8e157_0 rfl (lv_at hl 0 rfl) ?_
  refine lv_if_lt (tgt := 9) hx hb dJ3_checkIndex_8e157_1 (by decide) (fun q9 => absurd q9 (h0)) (fun _ => ?_)
  refine lv_iload_n hx hb dJ3_checkIndex_8e157_4 rfl (lv_at hl 0 rfl) ?_
  refine lv_iload_n hx hb dJ3_checkIndex_8e157_5 rfl (lv_at hl 1 rfl) ?_
  refine lv_icmp_lt (tgt := 16) hx hb dJ3_checkIndex_8e157_6 (by decide) (fun _ => ?_) (fun q9 => absurd (hk) q9)
  refine lv_iload_n hx hb dJ3_checkIndex_8e157_16 rfl (lv_at hl 0 rfl) ?_
  exact W.iret hx hb hr (fun t ht _ => ⟨⟨_, (), rfl, rfl, trivial⟩, hS.F ht⟩) hS.2.2 dJ3_checkIndex_8e157_17 hlocks
set_option maxHeartbeats 8000000 in
set_option maxRecDepth 100000 in
theorem mJ3_checkIndex_8e157_r (l0 : Launch) (w : Nat) (x y : Int32) (h0 : ¬ x < 0) (hk : x < y) : Met l0 yJ3_checkIndex_8e157 wsJ3_checkIndex_8e157 rmJ3_checkIndex_8e157 (va_Pc [.int x, .int y, .ref w] (fun _ => True)) (va_Qi (fun (z : Int32) (_ : Unit) => z = x) (fun _ _ => True) (fun _ => False)) 0 0 (fun _ => False) := by
  refine Met.ofW (cc := cJ3_checkIndex_8e157) (maxL := 3) (ret := (some .int)) (by decide) rfl ?_
  intro p e s mt args below meth c s₁ BY hml hv
  obtain ⟨hargs, -⟩ := hv
  have hx := BY.exec
  have hb := BY.bytes
  have hr := BY.returns
  have hts := atoms_spec (ws := wsJ3_checkIndex_8e157) BY.pre
  have hown : s.vm.findClass RJ3 = some mt.cls := findClass_of_methodNamed BY.named
  have hlocks := BY.notSynchronized
  have hS : va_S (fun _ => False) s.heap s.heap [] := va_S.rf
  have hfr : entryFrame mt args 3 = F0 mt 0 ((lg_sl [.int x, .int y, .ref w] ++ List.replicate (3 - (lg_sl [.int x, .int y, .ref w]).length) Slot.unset).toArray) [] := by rw [hargs]; exact lg_entry_eq _ _ _
  rw [hfr]
  have hl := lv_entry ([.int x, .int y, .ref w]) (n := 3) (Nat.le_of_ble_eq_true rfl)
  generalize (lg_sl [.int x, .int y, .ref w] ++ List.replicate (3 - (lg_sl [.int x, .int y, .ref w]).length) Slot.unset).toArray = ls at hl ⊢
  have hl : lv_has ls 3 [(0, .int x), (1, .int y), (2, .ref w)] := hl
  clear hfr hargs BY
  show W p l0 e rmJ3_checkIndex_8e157 s mt args below meth c s.heap [] 0 0 (MQ below (va_Qi (fun (z : Int32) (_ : Unit) => z = x) (fun _ _ => True) (fun _ => False)) args s 0 0 (fun _ => False)) (F0 mt 0 ls [])
  refine lv_iload_n hx hb dJ3_checkIndex_8e157_0 rfl (lv_at hl 0 rfl) ?_
  refine lv_if_lt (tgt := 9) hx hb dJ3_checkIndex_8e157_1 (by decide) (fun q9 => absurd q9 (h0)) (fun _ => ?_)
  refine lv_iload_n hx hb dJ3_checkIndex_8e157_4 rfl (lv_at hl 0 rfl) ?_
  refine lv_iload_n hx hb dJ3_checkIndex_8e157_5 rfl (lv_at hl 1 rfl) ?_
  refine lv_icmp_lt (tgt := 16) hx hb dJ3_checkIndex_8e157_6 (by decide) (fun _ => ?_) (fun q9 => absurd (hk) q9)
  refine lv_iload_n hx hb dJ3_checkIndex_8e157_16 rfl (lv_at hl 0 rfl) ?_
  exact W.iret hx hb hr (fun t ht _ => ⟨⟨_, (), rfl, rfl, trivial⟩, hS.F ht⟩) hS.2.2 dJ3_checkIndex_8e157_17 hlocks
theorem dmJ0_checkIndex_df160 : yJ0_checkIndex_df160.cls ≠ "java/lang/invoke/MethodHandle" ∧ yJ0_checkIndex_df160.cls ≠ "java/lang/invoke/VarHandle" ∧ (parseMethodDescriptor yJ0_checkIndex_df160.desc).map (fun d => d.parameters.length) = some 2 := by decide +kernel
abbrev rmJ0_checkIndex_df160 : Room := { frames := 1, cells := 0, slots := 0, locals := 22 }
set_option maxHeartbeats 8000000 in
set_option maxRecDepth 100000 in
theorem mJ0_checkIndex_df160 (l0 : Launch) (dC : Nat → ClassId) (dI : Nat → Nat → Nat) (cy : Nat → ClassId) (tb : Nat × Nat) (x y : Int32) (h0 : ¬ x < 0) (hk : x < y) (sz : Nat) : Met l0 yJ0_checkIndex_df160 wsJ0_checkIndex_df160 rmJ0_checkIndex_df160 (PcJ [.int x, .int y] sz (dC, dI) cy [] (fun _ => False) tb) (va_Qv (fun (_ : Unit) => True) (fun _ _ => True) (fun _ => False)) 0 0 (fun _ => False) := by
  refine Met.ofW (cc := cJ0_checkIndex_df160) (maxL := 2) (ret := none) (by decide) rfl ?_
  intro p e s mt args below meth c s₁ BY hml hv
  obtain ⟨hargs, hsz, hP, hK, hE⟩ := hv
  have hx := BY.exec
  have hb := BY.bytes
  have hr := BY.returns
  have hts := atoms_spec (ws := wsJ0_checkIndex_df160) BY.pre
  have hown : s.vm.findClass RJ0 = some mt.cls := findClass_of_methodNamed BY.named
  have hlocks := BY.notSynchronized
  have w1 := hts (.fieldLink RJ0 1053 "jdk/internal/util/Preconditions" "SIOOBE_FORMATTER" "Ljava/util/function/BiFunction;") (List.mem_of_getElem? (i := 1) rfl)
  have hS : va_S (fun _ => False) s.heap s.heap [] := va_S.rf
  have hfr : entryFrame mt args 2 = F0 mt 0 ((lg_sl [.int x, .int y] ++ List.replicate (2 - (lg_sl [.int x, .int y]).length) Slot.unset).toArray) [] := by rw [hargs]; exact lg_entry_eq _ _ _
  rw [hfr]
  have hl := lv_entry ([.int x, .int y]) (n := 2) (Nat.le_of_ble_eq_true rfl)
  generalize (lg_sl [.int x, .int y] ++ List.replicate (2 - (lg_sl [.int x, .int y]).length) Slot.unset).toArray = ls at hl ⊢
  have hl : lv_has ls 2 [(0, .int x), (1, .int y)] := hl
  clear hfr hargs BY
  show W p l0 e rmJ0_checkIndex_df160 s mt args below meth c s.heap [] 0 0 (MQ below (va_Qv (fun (_ : Unit) => True) (fun _ _ => True) (fun _ => False)) args s 0 0 (fun _ => False)) (F0 mt 0 ls [])
  have hEn := hE.narrow (B := (fun _ => False)) (fun x h => h.elim)
  refine lv_iload_n hx hb dJ0_checkIndex_df160_0 rfl (lv_at hl 0 rfl) ?_
  refine lv_iload_n hx hb dJ0_checkIndex_df160_1 rfl (lv_at hl 1 rfl) ?_
  rcases hEn.2.1 with hZ | ⟨w, hZ⟩
  · refine va_gets hx hb (C := "jdk/internal/util/Preconditions") (n := "SIOOBE_FORMATTER") (d := "Ljava/util/function/BiFunction;") hZ hS hown w1 (fun _ h9 => h9) dJ0_checkIndex_df160_2 ?_
    refine va_calli (va_runS (As := [.int x, .int y, .null]) (rest := []) ⟨hx, hb, hml, hown, hts⟩ (mJ3_checkIndex_8e157_n l0 x y h0 hk) (va_cwS 3 hts gJ0_checkIndex_df160_J3_checkIndex_8e157 rfl rfl rfl dmJ3_checkIndex_8e157 ⟨Nat.le_of_ble_eq_true rfl, Nat.le_of_ble_eq_true rfl⟩) ⟨T_blind, fun U hU hW => ⟨rfl, trivial⟩⟩ rfl rfl hl.1 rfl (lv_room (Nat.le_of_ble_eq_true rfl)) dJ0_checkIndex_df160_5 ⟨Nat.le_of_ble_eq_true rfl, Nat.le_of_ble_eq_true rfl⟩) hS (fun _ _ h => h.elim) (fun _ h => h.elim) (fun r0 u0 tS H1 locs ht hvm hw hB hz1 hk1 hS => ?_)
    obtain rfl := hw
    refine lv_pop hx hb dJ0_checkIndex_df160_8 rfl ?_
    exact W.vret hx hb hr (fun t ht _ => ⟨⟨(), rfl, trivial, trivial⟩, hS.F ht⟩) hS.2.2 dJ0_checkIndex_df160_9 hlocks
  · refine va_gets hx hb (C := "jdk/internal/util/Preconditions") (n := "SIOOBE_FORMATTER") (d := "Ljava/util/function/BiFunction;") hZ hS hown w1 (fun _ h9 => h9) dJ0_checkIndex_df160_2 ?_
    refine va_calli (va_runS (As := [.int x, .int y, .ref w]) (rest := []) ⟨hx, hb, hml, hown, hts⟩ (mJ3_checkIndex_8e157_r l0 w x y h0 hk) (va_cwS 3 hts gJ0_checkIndex_df160_J3_checkIndex_8e157 rfl rfl rfl dmJ3_checkIndex_8e157 ⟨Nat.le_of_ble_eq_true rfl, Nat.le_of_ble_eq_true rfl⟩) ⟨T_blind, fun U hU hW => ⟨rfl, trivial⟩⟩ rfl rfl hl.1 rfl (lv_room (Nat.le_of_ble_eq_true rfl)) dJ0_checkIndex_df160_5 ⟨Nat.le_of_ble_eq_true rfl, Nat.le_of_ble_eq_true rfl⟩) hS (fun _ _ h => h.elim) (fun _ h => h.elim) (fun r0 u0 tS H1 locs ht hvm hw hB hz1 hk1 hS => ?_)
    obtain rfl := hw
    refine lv_pop hx hb dJ0_checkIndex_df160_8 rfl ?_
    exact W.vret hx hb hr (fun t ht _ => ⟨⟨(), rfl, trivial, trivial⟩, hS.F ht⟩) hS.2.2 dJ0_checkIndex_df160_9 hlocks
theorem dmJ1_charAt_3b067 : yJ1_charAt_3b067.cls ≠ "java/lang/invoke/MethodHandle" ∧ yJ1_charAt_3b067.cls ≠ "java/lang/invoke/VarHandle" ∧ (parseMethodDescriptor yJ1_charAt_3b067.desc).map (fun d => d.parameters.length) = some 2 := by decide +kernel
abbrev rmJ1_charAt_3b067 : Room := { frames := 2, cells := 0, slots := 0, locals := 50 }
set_option maxHeartbeats 8000000 in
set_option maxRecDepth 100000 in
theorem mJ1_charAt_3b067 (l0 : Launch) (dC : Nat → ClassId) (dI : Nat → Nat → Nat) (cy : Nat → ClassId) (tb : Nat × Nat) (q v k : Nat) (t : Nat → Int32) (j ch : Nat) (hj : j < k) (hk31 : k < 2 ^ 31) (hc1 : t j = nI ch) (hc2 : ch < 128) (sz : Nat) : Met l0 yJ1_charAt_3b067 wsJ1_charAt_3b067 rmJ1_charAt_3b067 (PcS [.ref v, .int (nI j)] sz (dC, dI) cy [] (fun _ => False) tb q v k t) (va_Qi (fun (z : Int32) (_ : Unit) => z = nI ch) (fun _ _ => True) (fun _ => False)) 0 0 (fun _ => False) := by
  refine Met.ofW (cc := cJ1_charAt_3b067) (maxL := 2) (ret := (some .char)) (by decide) rfl ?_
  intro p e s mt args below meth c s₁ BY hml hv
  obtain ⟨hargs, hsz, hP, hK, hE, hT⟩ := hv
  have hx := BY.exec
  have hb := BY.bytes
  have hr := BY.returns
  have hts := atoms_spec (ws := wsJ1_charAt_3b067) BY.pre
  have hown : s.vm.findClass RJ1 = some mt.cls := findClass_of_methodNamed BY.named
  have hlocks := BY.notSynchronized
  have hS : va_S (fun _ => False) s.heap s.heap [] := va_S.rf
  have hfr : entryFrame mt args 2 = F0 mt 0 ((lg_sl [.ref v, .int (nI j)] ++ List.replicate (2 - (lg_sl [.ref v, .int (nI j)]).length) Slot.unset).toArray) [] := by rw [hargs]; exact lg_entry_eq _ _ _
  rw [hfr]
  have hl := lv_entry ([.ref v, .int (nI j)]) (n := 2) (Nat.le_of_ble_eq_true rfl)
  generalize (lg_sl [.ref v, .int (nI j)] ++ List.replicate (2 - (lg_sl [.ref v, .int (nI j)]).length) Slot.unset).toArray = ls at hl ⊢
  have hl : lv_has ls 2 [(0, .ref v), (1, .int (nI j))] := hl
  clear hfr hargs BY
  show W p l0 e rmJ1_charAt_3b067 s mt args below meth c s.heap [] 0 0 (MQ below (va_Qi (fun (z : Int32) (_ : Unit) => z = nI ch) (fun _ _ => True) (fun _ => False)) args s 0 0 (fun _ => False)) (F0 mt 0 ls [])
  have hEn := hE.narrow (B := (fun _ => False)) (fun x h => h.elim)
  refine lv_iload_n hx hb dJ1_charAt_3b067_0 rfl (lv_at hl 1 rfl) ?_
  refine lv_aload_n hx hb dJ1_charAt_3b067_1 rfl (lv_at hl 0 rfl) ?_
  refine va_tlen hx hb hT.2.2.2 hS (v := nI k) rfl dJ1_charAt_3b067_2 ?_
  refine va_callv (va_runS (As := [.int (nI j), .int (nI k)]) (rest := []) ⟨hx, hb, hml, hown, hts⟩ (mJ0_checkIndex_df160 l0 dC dI cy tb (nI j) (nI k) (nI_pos (by omega)) (nI_lt hj hk31) s.heap.size) (va_cwS 2 hts gJ1_charAt_3b067_J0_checkIndex_df160 rfl rfl rfl dmJ0_checkIndex_df160 ⟨Nat.le_of_ble_eq_true rfl, Nat.le_of_ble_eq_true rfl⟩) ⟨PcJ_blind, fun U hU hW => ⟨rfl, by rw [hU], fun k x hx => by simp at hx, va_K.moved hW.alike hK, hE.go hS hU hW (fun x h => h.elim)⟩⟩ rfl rfl hl.1 rfl (lv_room (Nat.le_of_ble_eq_true rfl)) dJ1_charAt_3b067_3 ⟨Nat.le_of_ble_eq_true rfl, Nat.le_of_ble_eq_true rfl⟩) hS (fun _ _ h => h.elim) (fun _ h => h.elim) (fun u0 tS H1 locs ht hvm hw hB hz1 hk1 hS => ?_)
  refine lv_aload_n hx hb dJ1_charAt_3b067_6 rfl (lv_at hl 0 rfl) ?_
  refine lv_iload_n hx hb dJ1_charAt_3b067_7 rfl (lv_at hl 1 rfl) ?_
  refine va_tb hx hb hT.2.2.2 hS (vp_in_nI hj hk31) (v := .int (nI ch)) (by rw [nI_clamp (by omega), hc1]) dJ1_charAt_3b067_8 ?_
  refine lv_sipush (v := 255) hx hb dJ1_charAt_3b067_9 (by decide) ?_
  refine lv_iand hx hb dJ1_charAt_3b067_12 ?_
  rw [show (((nI ch) &&& 255) : Int32) = (nI ch) from (b_nar ch hc2).2.2.1]
  refine lv_i2c (v := nI ch) hx hb dJ1_charAt_3b067_13 (b_nar ch hc2).2.2.2.1 ?_
  exact W.zret hx hb hr (b_nar ch hc2).2.2.2.2 (fun t ht _ => ⟨⟨_, (), rfl, rfl, trivial⟩, hS.F ht⟩) hS.2.2 dJ1_charAt_3b067_14 hlocks
theorem dmJ0_charAt_5068e : yJ0_charAt_5068e.cls = RJ0 ∧ yJ0_charAt_5068e.cls ≠ "java/lang/invoke/MethodHandle" ∧ yJ0_charAt_5068e.cls ≠ "java/lang/invoke/VarHandle" ∧ (parseMethodDescriptor yJ0_charAt_5068e.desc).map (fun d => d.parameters.length) = some 1 := by decide +kernel
abbrev rmJ0_charAt_5068e : Room := { frames := 3, cells := 0, slots := 0, locals := 80 }
set_option maxHeartbeats 8000000 in
set_option maxRecDepth 100000 in
theorem mJ0_charAt_5068e (l0 : Launch) (dC : Nat → ClassId) (dI : Nat → Nat → Nat) (cy : Nat → ClassId) (tb : Nat × Nat) (q v k : Nat) (t : Nat → Int32) (j ch : Nat) (hj : j < k) (hk31 : k < 2 ^ 31) (hc1 : t j = nI ch) (hc2 : ch < 128) (sz : Nat) : Met l0 yJ0_charAt_5068e wsJ0_charAt_5068e rmJ0_charAt_5068e (PcS [.ref q, .int (nI j)] sz (dC, dI) cy [] (fun _ => False) tb q v k t) (va_Qi (fun (z : Int32) (_ : Unit) => z = nI ch) (fun _ _ => True) (fun _ => False)) 0 0 (fun _ => False) := by
  refine Met.ofW (cc := cJ0_charAt_5068e) (maxL := 2) (ret := (some .char)) (by decide) rfl ?_
  intro p e s mt args below meth c s₁ BY hml hv
  obtain ⟨hargs, hsz, hP, hK, hE, hT⟩ := hv
  have hx := BY.exec
  have hb := BY.bytes
  have hr := BY.returns
  have hts := atoms_spec (ws := wsJ0_charAt_5068e) BY.pre
  have hown : s.vm.findClass RJ0 = some mt.cls := findClass_of_methodNamed BY.named
  have hlocks := BY.notSynchronized
  have w1 := hts (.fieldLink RJ0 9 "java/lang/String" "value" "[B") (List.mem_of_getElem? (i := 1) rfl)
  have hS : va_S (fun _ => False) s.heap s.heap [] := va_S.rf
  have hfr : entryFrame mt args 2 = F0 mt 0 ((lg_sl [.ref q, .int (nI j)] ++ List.replicate (2 - (lg_sl [.ref q, .int (nI j)]).length) Slot.unset).toArray) [] := by rw [hargs]; exact lg_entry_eq _ _ _
  rw [hfr]
  have hl := lv_entry ([.ref q, .int (nI j)]) (n := 2) (Nat.le_of_ble_eq_true rfl)
  generalize (lg_sl [.ref q, .int (nI j)] ++ List.replicate (2 - (lg_sl [.ref q, .int (nI j)]).length) Slot.unset).toArray = ls at hl ⊢
  have hl : lv_has ls 2 [(0, .ref q), (1, .int (nI j))] := hl
  clear hfr hargs BY
  show W p l0 e rmJ0_charAt_5068e s mt args below meth c s.heap [] 0 0 (MQ below (va_Qi (fun (z : Int32) (_ : Unit) => z = nI ch) (fun _ _ => True) (fun _ => False)) args s 0 0 (fun _ => False)) (F0 mt 0 ls [])
  have hEn := hE.narrow (B := (fun _ => False)) (fun x h => h.elim)
  refine lv_aload_n hx hb dJ0_charAt_5068e_0 rfl (lv_at hl 0 rfl) ?_
  refine va_calli (va_runV (As := []) (rest := []) ⟨hx, hb, hml, hown, hts⟩ (mJ0_isLatin1_aae02 l0 dC dI cy tb q v k t s.heap.size) (cwV 0 hts gJ0_charAt_5068e_J0_isLatin1_aae02 rfl rfl rfl dmJ0_isLatin1_aae02 ⟨Nat.le_of_ble_eq_true rfl, Nat.le_of_ble_eq_true rfl⟩) ⟨PcS_blind, hT.recv hS, fun U hU hW => ⟨rfl, by rw [hU], fun k x hx => by simp at hx, va_K.moved hW.alike hK, hE.go hS hU hW (fun x h => h.elim), hT.go hS hU hW (fun x h => h.elim)⟩⟩ rfl rfl hl.1 rfl (lv_room (Nat.le_of_ble_eq_true rfl)) dJ0_charAt_5068e_1 ⟨Nat.le_of_ble_eq_true rfl, Nat.le_of_ble_eq_true rfl⟩) hS (fun _ _ h => h.elim) (fun _ h => h.elim) (fun r0 u0 tS H1 locs ht hvm hw hB hz1 hk1 hS => ?_)
  obtain rfl := hw
  have hP := hP.kept (fun k x hx => hk1 x.1 (hP k x hx).lt (fun z => z))
  generalize H1 = H at hP hS ⊢
  refine lv_if_eq (tgt := 16) hx hb dJ0_charAt_5068e_4 (by decide) (fun q9 => absurd q9 (by decide)) (fun _ => ?_)
  refine lv_aload_n hx hb dJ0_charAt_5068e_7 rfl (lv_at hl 0 rfl) ?_
  refine vk_getf hx hb (o := "java/lang/String") (n := "value") (d := "[B") hT.2.2.1 hS hown w1 (fun _ h9 => h9) dJ0_charAt_5068e_8 ?_
  refine lv_iload_n hx hb dJ0_charAt_5068e_11 rfl (lv_at hl 1 rfl) ?_
  refine va_calli (va_runS (As := [.ref v, .int (nI j)]) (rest := []) ⟨hx, hb, hml, hown, hts⟩ (mJ1_charAt_3b067 l0 dC dI cy tb q v k t j ch hj hk31 hc1 hc2 H.size) (va_cwS 2 hts gJ0_charAt_5068e_J1_charAt_3b067 rfl rfl rfl dmJ1_charAt_3b067 ⟨Nat.le_of_ble_eq_true rfl, Nat.le_of_ble_eq_true rfl⟩) ⟨PcS_blind, fun U hU hW => ⟨rfl, by rw [hU], fun k x hx => by simp at hx, va_K.moved hW.alike hK, hE.go hS hU hW (fun x h => h.elim), hT.go hS hU hW (fun x h => h.elim)⟩⟩ rfl rfl hl.1 rfl (lv_room (Nat.le_of_ble_eq_true rfl)) dJ0_charAt_5068e_12 ⟨Nat.le_of_ble_eq_true rfl, Nat.le_of_ble_eq_true rfl⟩) hS (fun _ _ h => h.elim) (fun _ h => h.elim) (fun r0 u0 tS H1 locs ht hvm hw hB hz1 hk1 hS => ?_)
  obtain rfl := hw
  exact W.zret hx hb hr (b_nar ch hc2).2.2.2.2 (fun t ht _ => ⟨⟨_, (), rfl, rfl, trivial⟩, hS.F ht⟩) hS.2.2 dJ0_charAt_5068e_15 hlocks
