theorem dmJ8_newLength_cabcc : yJ8_newLength_cabcc.cls ≠ "java/lang/invoke/MethodHandle" ∧ yJ8_newLength_cabcc.cls ≠ "java/lang/invoke/VarHandle" ∧ (parseMethodDescriptor yJ8_newLength_cabcc.desc).map (fun d => d.parameters.length) = some 3 := by decide +kernel
abbrev rmJ8_newLength_cabcc : Room := { frames := 1, cells := 0, slots := 0, locals := 64 }
set_option maxHeartbeats 8000000 in
set_option maxRecDepth 100000 in
theorem mJ8_newLength_cabcc (l : Launch) (o g h : Nat) (h0 : 0 < o + (if g < h then h else g)) (hr31 : o + (if g < h then h else g) < 2 ^ 30) : Met l yJ8_newLength_cabcc wsJ8_newLength_cabcc rmJ8_newLength_cabcc (va_Pc [.int (nI o), .int (nI g), .int (nI h)] (fun _ => True)) (va_Qi (fun (z : Int32) (_ : Unit) => z = nI (o + (if g < h then h else g))) (fun _ _ => True) (fun _ => False)) 0 0 (fun _ => False) := by
  refine Met.ofW (cc := cJ8_newLength_cabcc) (maxL := 4) (ret := (some .int)) (by decide) rfl ?_
  intro p e s mt args below meth c s₁ BY hml hv
  obtain ⟨hargs, -⟩ := hv
  have hx := BY.exec
  have hb := BY.bytes
  have hr := BY.returns
  have hts := atoms_spec (ws := wsJ8_newLength_cabcc) BY.pre
  have hown : s.vm.findClass RJ8 = some mt.cls := findClass_of_methodNamed BY.named
  have hlocks := BY.notSynchronized
  have w1 := hts (.methodLink RJ8 194 Lib.Math.max.name) (List.mem_of_getElem? (i := 1) rfl)
  have w2 := hts (.static Lib.Math.max.name) (List.mem_of_getElem? (i := 2) rfl)
  have w3 := hts (.initialized "java/lang/Math") (List.mem_of_getElem? (i := 3) rfl)
  have w4 := hts (.code Lib.Math.max.name Lib.Math.max.code 2 (some .int)) (List.mem_of_getElem? (i := 4) rfl)
  have w5 := hts (.constant RJ8 200 (2147483639)) (List.mem_of_getElem? (i := 5) rfl)
  have hS : va_S (fun _ => False) s.heap s.heap [] := va_S.rf
  have hfr : entryFrame mt args 4 = F0 mt 0 ((lg_sl [.int (nI o), .int (nI g), .int (nI h)] ++ List.replicate (4 - (lg_sl [.int (nI o), .int (nI g), .int (nI h)]).length) Slot.unset).toArray) [] := by rw [hargs]; exact lg_entry_eq _ _ _
  rw [hfr]
  have hl := lv_entry ([.int (nI o), .int (nI g), .int (nI h)]) (n := 4) (Nat.le_of_ble_eq_true rfl)
  generalize (lg_sl [.int (nI o), .int (nI g), .int (nI h)] ++ List.replicate (4 - (lg_sl [.int (nI o), .int (nI g), .int (nI h)]).length) Slot.unset).toArray = ls at hl ⊢
  have hl : lv_has ls 4 [(0, .int (nI o)), (1, .int (nI g)), (2, .int (nI h))] := hl
  clear hfr hargs BY
  show W p l e rmJ8_newLength_cabcc s mt args below meth c s.heap [] 0 0 (MQ below (va_Qi (fun (z : Int32) (_ : Unit) => z = nI (o + (if g < h then h else g))) (fun _ _ => True) (fun _ => False)) args s 0 0 (fun _ => False)) (F0 mt 0 ls [])
  have hgm : g ≤ (if g < h then h else g) ∧ h ≤ (if g < h then h else g) := by split <;> omega
  refine lv_iload_n hx hb dJ8_newLength_cabcc_0 rfl (lv_at hl 0 rfl) ?_
  refine lv_iload_n hx hb dJ8_newLength_cabcc_1 rfl (lv_at hl 1 rfl) ?_
  refine lv_iload_n hx hb dJ8_newLength_cabcc_2 rfl (lv_at hl 2 rfl) ?_
  refine va_mmax hx hb (hml.trans hl.1.symm) hown w1 w2 w3 w4 (Nat.le_of_ble_eq_true rfl) (Nat.le_of_ble_eq_true rfl) (Nat.zero_le _) (Nat.zero_le _) dJ8_newLength_cabcc_3 ?_
  rw [show ((if nI g < nI h then nI h else nI g) : Int32) = (nI (if g < h then h else g)) from nI_max2 (by omega) (by omega)]
  refine lv_iadd hx hb dJ8_newLength_cabcc_6 ?_
  rw [show (((nI o) + (nI (if g < h then h else g))) : Int32) = (nI (o + (if g < h then h else g))) from nI_add _ _]
  refine lv_istore_n (lv' := [(3, .int (nI (o + (if g < h then h else g)))), (0, .int (nI o)), (1, .int (nI g)), (2, .int (nI h))]) hx hb dJ8_newLength_cabcc_7 rfl hl (by decide) rfl (fun ls hl => ?_)
  refine lv_iconst (v := 0) hx hb dJ8_newLength_cabcc_8 (by decide) ?_
  refine lv_iload_n hx hb dJ8_newLength_cabcc_9 rfl (lv_at hl 0 rfl) ?_
  refine lv_icmp_ge (tgt := 21) hx hb dJ8_newLength_cabcc_10 (by decide) (fun q9 => absurd q9 (fun q => by have := (nI_leI (a := o + (if g < h then h else g)) (b := 0) (by omega) (by omega)).mp q; omega)) (fun _ => ?_)
  refine lv_iload_n hx hb dJ8_newLength_cabcc_13 rfl (lv_at hl 0 rfl) ?_
  refine lv_ldc (v := nI 2147483639) hx hb hown w5 dJ8_newLength_cabcc_14 ?_
  refine lv_icmp_gt (tgt := 21) hx hb dJ8_newLength_cabcc_16 (by decide) (fun q9 => absurd q9 (nI_nlt (by omega) (by decide))) (fun _ => ?_)
  refine lv_iload_n hx hb dJ8_newLength_cabcc_19 rfl (lv_at hl 0 rfl) ?_
  exact W.iret hx hb hr (fun t ht _ => ⟨⟨_, (), rfl, rfl, trivial⟩, hS.F ht⟩) hS.2.2 dJ8_newLength_cabcc_20 hlocks
theorem dmJ5_newCapacity_0f7a4 : yJ5_newCapacity_0f7a4.cls = RJ5 ∧ yJ5_newCapacity_0f7a4.cls ≠ "java/lang/invoke/MethodHandle" ∧ yJ5_newCapacity_0f7a4.cls ≠ "java/lang/invoke/VarHandle" ∧ (parseMethodDescriptor yJ5_newCapacity_0f7a4.desc).map (fun d => d.parameters.length) = some 1 := by decide +kernel
abbrev rmJ5_newCapacity_0f7a4 : Room := { frames := 2, cells := 0, slots := 0, locals := 110 }
theorem iJ_J5_newCapacity_0f7a4_J4 : ∀ w ∈ wsJ40, w ∈ wsJ5_newCapacity_0f7a4 := fun w h => List.mem_cons_of_mem _ (List.mem_append_right _ (h))
set_option maxHeartbeats 8000000 in
set_option maxRecDepth 100000 in
theorem mJ5_newCapacity_0f7a4 (l : Launch) (dC : Nat → ClassId) (dI : Nat → Nat → Nat) (cy : Nat → ClassId) (tb : Nat × Nat) (B V m n : Nat) (a : Nat → Int32) (sz : Nat) (q : Nat) (hmq : m < q) (hq : q < 2 ^ 28) : Met l yJ5_newCapacity_0f7a4 wsJ5_newCapacity_0f7a4 rmJ5_newCapacity_0f7a4 (PcJ [.ref B, .int (nI q)] sz (dC, dI) cy (SB cy B V m a n) (va_A (SB cy B V m a n) sz) tb) (va_Qi (fun (z : Int32) (_ : Unit) => z = nI (m + (if q - m < m + 2 then m + 2 else q - m))) (fun _ _ => True) (fun _ => False)) 0 0 (fun _ => False) := by
  refine Met.ofW (cc := cJ5_newCapacity_0f7a4) (maxL := 6) (ret := (some .int)) (by decide) rfl ?_
  intro p e s mt args below meth c s₁ BY hml hv
  obtain ⟨hargs, hsz, hP, hK, hE⟩ := hv
  have hx := BY.exec
  have hb := BY.bytes
  have hr := BY.returns
  have hts := atoms_spec (ws := wsJ5_newCapacity_0f7a4) BY.pre
  have hown : s.vm.findClass RJ5 = some mt.cls := findClass_of_methodNamed BY.named
  have hlocks := BY.notSynchronized
  have w1 := hts (.fieldLink RJ5 15 "java/lang/AbstractStringBuilder" "value" "[B") (List.mem_of_getElem? (i := 1) rfl)
  have w2 := hts (.fieldLink RJ5 22 "java/lang/AbstractStringBuilder" "coder" "B") (List.mem_of_getElem? (i := 2) rfl)
  have w3 := hts (.constant RJ5 39 (2147483647)) (List.mem_of_getElem? (i := 3) rfl)
  have hS : va_S (fun _ => False) s.heap s.heap [] := va_S.rf
  have hfr : entryFrame mt args 6 = F0 mt 0 ((lg_sl [.ref B, .int (nI q)] ++ List.replicate (6 - (lg_sl [.ref B, .int (nI q)]).length) Slot.unset).toArray) [] := by rw [hargs]; exact lg_entry_eq _ _ _
  rw [hfr]
  have hl := lv_entry ([.ref B, .int (nI q)]) (n := 6) (Nat.le_of_ble_eq_true rfl)
  generalize (lg_sl [.ref B, .int (nI q)] ++ List.replicate (6 - (lg_sl [.ref B, .int (nI q)]).length) Slot.unset).toArray = ls at hl ⊢
  have hl : lv_has ls 6 [(0, .ref B), (1, .int (nI q))] := hl
  clear hfr hargs BY
  show W p l e rmJ5_newCapacity_0f7a4 s mt args below meth c s.heap [] 0 0 (MQ below (va_Qi (fun (z : Int32) (_ : Unit) => z = nI (m + (if q - m < m + 2 then m + 2 else q - m))) (fun _ _ => True) (fun _ => False)) args s 0 0 (fun _ => False)) (F0 mt 0 ls [])
  have hEn := hE.narrow (B := (fun _ => False)) (fun x h => h.elim)
  have hc31 : m + (if q - m < m + 2 then m + 2 else q - m) < 2 ^ 31 := by split <;> omega
  have hc30 : m + (if q - m < m + 2 then m + 2 else q - m) < 2147483647 := by split <;> omega
  refine lv_aload_n hx hb dJ5_newCapacity_0f7a4_0 rfl (lv_at hl 0 rfl) ?_
  refine va_get (D := (dC, dI)) (ci := 8) (v := .ref V) (C := RJ4) (T := TJ4) (N := 4) hx hb hts iJ_J5_newCapacity_0f7a4_J4 hown hK hP 0 rfl rfl 0 (by decide) w1 (fun _ h9 => h9) rfl dJ5_newCapacity_0f7a4_1 ?_
  refine va_alen hx hb hK hP 1 4 rfl rfl (v := (nI m)) (rfl) dJ5_newCapacity_0f7a4_4 ?_
  refine lv_istore_n (lv' := [(2, .int (nI m)), (0, .ref B), (1, .int (nI q))]) hx hb dJ5_newCapacity_0f7a4_5 rfl hl (by decide) rfl (fun ls hl => ?_)
  refine lv_iload_n hx hb dJ5_newCapacity_0f7a4_6 rfl (lv_at hl 2 rfl) ?_
  refine lv_aload_n hx hb dJ5_newCapacity_0f7a4_7 rfl (lv_at hl 1 rfl) ?_
  refine va_get (D := (dC, dI)) (ci := 8) (v := .int 0) (C := RJ4) (T := TJ4) (N := 4) hx hb hts iJ_J5_newCapacity_0f7a4_J4 hown hK hP 0 rfl rfl 1 (by decide) w2 (fun _ h9 => h9) rfl dJ5_newCapacity_0f7a4_8 ?_
  refine lv_ishl hx hb dJ5_newCapacity_0f7a4_11 ?_
  rw [show (((nI q) <<< (0 &&& 31)) : Int32) = (nI q) from sb_shl0 _]
  refine lv_istore_n (lv' := [(3, .int (nI q)), (2, .int (nI m)), (0, .ref B), (1, .int (nI q))]) hx hb dJ5_newCapacity_0f7a4_12 rfl hl (by decide) rfl (fun ls hl => ?_)
  refine lv_iload_n hx hb dJ5_newCapacity_0f7a4_13 rfl (lv_at hl 0 rfl) ?_
  refine lv_iload_n hx hb dJ5_newCapacity_0f7a4_14 rfl (lv_at hl 1 rfl) ?_
  refine lv_isub hx hb dJ5_newCapacity_0f7a4_15 ?_
  rw [show (((nI q) - (nI m)) : Int32) = (nI (q - m)) from pk_sub (by omega)]
  refine lv_istore (lv' := [(4, .int (nI (q - m))), (3, .int (nI q)), (2, .int (nI m)), (0, .ref B), (1, .int (nI q))]) hx hb dJ5_newCapacity_0f7a4_16 hl (by decide) rfl (fun ls hl => ?_)
  refine lv_iload_n hx hb dJ5_newCapacity_0f7a4_18 rfl (lv_at hl 2 rfl) ?_
  refine lv_iload hx hb dJ5_newCapacity_0f7a4_19 (lv_at hl 0 rfl) ?_
  refine lv_iload_n hx hb dJ5_newCapacity_0f7a4_21 rfl (lv_at hl 2 rfl) ?_
  refine lv_iconst (v := 2) hx hb dJ5_newCapacity_0f7a4_22 (by decide) ?_
  refine lv_aload_n hx hb dJ5_newCapacity_0f7a4_23 rfl (lv_at hl 3 rfl) ?_
  refine va_get (D := (dC, dI)) (ci := 8) (v := .int 0) (C := RJ4) (T := TJ4) (N := 4) hx hb hts iJ_J5_newCapacity_0f7a4_J4 hown hK hP 0 rfl rfl 1 (by decide) w2 (fun _ h9 => h9) rfl dJ5_newCapacity_0f7a4_24 ?_
  refine lv_ishl hx hb dJ5_newCapacity_0f7a4_27 ?_
  rw [show (((2 : Int32) <<< (0 &&& 31)) : Int32) = 2 from sb_shl0 _]
  refine lv_iadd hx hb dJ5_newCapacity_0f7a4_28 ?_
  rw [show (((nI m) + 2) : Int32) = (nI (m + 2)) from nI_add m 2]
  refine va_calli (va_runS (As := [.int (nI m), .int (nI (q - m)), .int (nI (m + 2))]) (rest := []) ⟨hx, hb, hml, hown, hts⟩ (mJ8_newLength_cabcc l m (q - m) (m + 2) (by split <;> omega) (by split <;> omega)) (va_cwS 3 hts gJ5_newCapacity_0f7a4_J8_newLength_cabcc rfl rfl rfl dmJ8_newLength_cabcc ⟨Nat.le_of_ble_eq_true rfl, Nat.le_of_ble_eq_true rfl⟩) ⟨T_blind, fun U hU hW => ⟨rfl, trivial⟩⟩ rfl rfl hl.1 rfl (lv_room (Nat.le_of_ble_eq_true rfl)) dJ5_newCapacity_0f7a4_29 ⟨Nat.le_of_ble_eq_true rfl, Nat.le_of_ble_eq_true rfl⟩) hS (fun _ _ h => h.elim) (fun _ h => h.elim) (fun r0 u0 tS H1 locs ht hvm hw hB hz1 hk1 hS => ?_)
  obtain rfl := hw
  have hP := hP.kept (fun k x hx => hk1 x.1 (hP k x hx).lt (fun z => z))
  refine lv_istore (lv' := [(5, .int (nI (m + (if q - m < m + 2 then m + 2 else q - m)))), (4, .int (nI (q - m))), (3, .int (nI q)), (2, .int (nI m)), (0, .ref B), (1, .int (nI q))]) hx hb dJ5_newCapacity_0f7a4_32 hl (by decide) rfl (fun ls hl => ?_)
  refine lv_iload hx hb dJ5_newCapacity_0f7a4_34 (lv_at hl 0 rfl) ?_
  refine lv_ldc (v := nI 2147483647) hx hb hown w3 dJ5_newCapacity_0f7a4_36 ?_
  refine lv_icmp_ne (tgt := 51) hx hb dJ5_newCapacity_0f7a4_38 (by decide) (fun _ => ?_) (fun q9 => absurd q9 (fun z => by have := (nI_eq hc31 (by decide)).mp z; omega))
  refine lv_iload hx hb dJ5_newCapacity_0f7a4_51 (lv_at hl 0 rfl) ?_
  refine lv_aload_n hx hb dJ5_newCapacity_0f7a4_53 rfl (lv_at hl 4 rfl) ?_
  refine va_get (D := (dC, dI)) (ci := 8) (v := .int 0) (C := RJ4) (T := TJ4) (N := 4) hx hb hts iJ_J5_newCapacity_0f7a4_J4 hown hK hP 0 rfl rfl 1 (by decide) w2 (fun _ h9 => h9) rfl dJ5_newCapacity_0f7a4_54 ?_
  refine lv_ishr hx hb dJ5_newCapacity_0f7a4_57 ?_
  rw [show (((nI (m + (if q - m < m + 2 then m + 2 else q - m))) >>> (0 &&& 31)) : Int32) = (nI (m + (if q - m < m + 2 then m + 2 else q - m))) from sb_shr0 _]
  exact W.iret hx hb hr (fun t ht _ => ⟨⟨_, (), rfl, rfl, trivial⟩, hS.F ht⟩) hS.2.2 dJ5_newCapacity_0f7a4_58 hlocks
theorem ra_b {s : State} {c1 c2 : ClassId} (h1 : va_RA s c1 .byte) (h2 : va_RA s c2 .byte) : c1 = c2 := Option.some.inj ((show s.vm.findClass ("[" ++ (FieldType.byte).toString) = some c1 from h1).symm.trans h2)
theorem PV_blind {av : List Value} {sz : Nat} {D : va_G} {w : va_W} {tys : List (ClassId × FieldType)} : FrameBlind (va_Pc av (fun U => U.heap.size = sz ∧ va_P D vwCl w U.heap ∧ va_K D vwCl tys U)) := fun a U g mk q => by
  obtain ⟨q0, qz, qP, qK⟩ := q
  exact ⟨q0, qz, qP, va_K.moved (u := U) (U := U.calling g mk a) (Vm.Alike.refl U.vm) qK⟩
theorem dmJ7_copyOf_9075b : yJ7_copyOf_9075b.cls ≠ "java/lang/invoke/MethodHandle" ∧ yJ7_copyOf_9075b.cls ≠ "java/lang/invoke/VarHandle" ∧ (parseMethodDescriptor yJ7_copyOf_9075b.desc).map (fun d => d.parameters.length) = some 2 := by decide +kernel
abbrev rmJ7_copyOf_9075b : Room := { frames := 1, cells := 1, slots := 200, locals := 64 }
set_option maxHeartbeats 8000000 in
set_option maxRecDepth 100000 in
theorem mJ7_copyOf_9075b (l : Launch) (dC : Nat → ClassId) (dI : Nat → Nat → Nat) (cy : Nat → ClassId) (V m : Nat) (a : Nat → Int32) (sz q : Nat) (hmq : m < q) (hq : q ≤ 200) (hf : sb_Fit a) : Met l yJ7_copyOf_9075b wsJ7_copyOf_9075b rmJ7_copyOf_9075b (va_Pc [.ref V, .int (nI q)] (fun U => U.heap.size = sz ∧ va_P (dC, dI) vwCl [(V, .inl (cy 4, m, .inl a))] U.heap ∧ va_K (dC, dI) vwCl (tysX cy) U)) (va_Qr (fun (_ : Unit) => True) (fun _ Wq t => va_P (dC, dI) vwCl [(V, .inl (cy 4, m, .inl a)), (Wq, .inl (cy 4, q, .inl (va_cpy a (fun _ => 0) 0 0 m)))] t.heap ∧ va_D (va_A [(V, .inl (cy 4, m, .inl a))] sz) [(V, .inl (cy 4, m, .inl a)), (Wq, .inl (cy 4, q, .inl (va_cpy a (fun _ => 0) 0 0 m)))]) (va_A [(V, .inl (cy 4, m, .inl a))] sz)) 1 200 (va_A [(V, .inl (cy 4, m, .inl a))] sz) := by
  refine Met.ofW (cc := cJ7_copyOf_9075b) (maxL := 3) (ret := (some (.array .byte))) (by decide) rfl ?_
  intro p e s mt args below meth c s₁ BY hml hv
  obtain ⟨hargs, hsz, hP, hK⟩ := hv
  have hx := BY.exec
  have hb := BY.bytes
  have hr := BY.returns
  have hts := atoms_spec (ws := wsJ7_copyOf_9075b) BY.pre
  have hown : s.vm.findClass RJ7 = some mt.cls := findClass_of_methodNamed BY.named
  have hlocks := BY.notSynchronized
  have w7 := hts (.arrayClass .byte) (List.mem_of_getElem? (i := 7) rfl)
  have w8 := hts (.methodLink RJ7 304 Lib.Math.min.name) (List.mem_of_getElem? (i := 8) rfl)
  have w9 := hts (.static Lib.Math.min.name) (List.mem_of_getElem? (i := 9) rfl)
  have w10 := hts (.initialized "java/lang/Math") (List.mem_of_getElem? (i := 10) rfl)
  have w11 := hts (.code Lib.Math.min.name Lib.Math.min.code 2 (some .int)) (List.mem_of_getElem? (i := 11) rfl)
  have w12 := hts (.methodLink RJ7 150 arraycopyName) (List.mem_of_getElem? (i := 12) rfl)
  have w13 := hts (.native arraycopyName) (List.mem_of_getElem? (i := 13) rfl)
  have w14 := hts (.static arraycopyName) (List.mem_of_getElem? (i := 14) rfl)
  have w15 := hts (.initialized "java/lang/System") (List.mem_of_getElem? (i := 15) rfl)
  have hS : va_S (va_A [(V, .inl (cy 4, m, .inl a))] sz) s.heap s.heap [] := va_S.rf
  have hfr : entryFrame mt args 3 = F0 mt 0 ((lg_sl [.ref V, .int (nI q)] ++ List.replicate (3 - (lg_sl [.ref V, .int (nI q)]).length) Slot.unset).toArray) [] := by rw [hargs]; exact lg_entry_eq _ _ _
  rw [hfr]
  have hl := lv_entry ([.ref V, .int (nI q)]) (n := 3) (Nat.le_of_ble_eq_true rfl)
  generalize (lg_sl [.ref V, .int (nI q)] ++ List.replicate (3 - (lg_sl [.ref V, .int (nI q)]).length) Slot.unset).toArray = ls at hl ⊢
  have hl : lv_has ls 3 [(0, .ref V), (1, .int (nI q))] := hl
  clear hfr hargs BY
  show W p l e rmJ7_copyOf_9075b s mt args below meth c s.heap [] 0 0 (MQ below (va_Qr (fun (_ : Unit) => True) (fun _ Wq t => va_P (dC, dI) vwCl [(V, .inl (cy 4, m, .inl a)), (Wq, .inl (cy 4, q, .inl (va_cpy a (fun _ => 0) 0 0 m)))] t.heap ∧ va_D (va_A [(V, .inl (cy 4, m, .inl a))] sz) [(V, .inl (cy 4, m, .inl a)), (Wq, .inl (cy 4, q, .inl (va_cpy a (fun _ => 0) 0 0 m)))]) (va_A [(V, .inl (cy 4, m, .inl a))] sz)) args s 1 200 (va_A [(V, .inl (cy 4, m, .inl a))] sz)) (F0 mt 0 ls [])
  subst hsz
  have hD : va_D (va_A [(V, .inl (cy 4, m, .inl a))] s.heap.size) [(V, .inl (cy 4, m, .inl a))] := D1 (Or.inl ⟨0, _, rfl⟩)
  have hA : ∀ x : Nat, s.heap.size ≤ x → (va_A [(V, .inl (cy 4, m, .inl a))] s.heap.size) x := fun x h => Or.inr h
  refine lv_iload_n hx hb dJ7_copyOf_9075b_0 rfl (lv_at hl 1 rfl) ?_
  refine lv_aload_n hx hb dJ7_copyOf_9075b_1 rfl (lv_at hl 0 rfl) ?_
  refine va_alen hx hb hK hP 0 4 rfl rfl (v := (nI m)) (rfl) dJ7_copyOf_9075b_2 ?_
  refine lv_icmp_ne (tgt := 14) hx hb dJ7_copyOf_9075b_3 (by decide) (fun _ => ?_) (fun q9 => absurd q9 (fun z => by have := (nI_eq (by omega) (by omega)).mp z; omega))
  refine lv_iload_n hx hb dJ7_copyOf_9075b_14 rfl (lv_at hl 1 rfl) ?_
  refine xt_newa (atype := .byte) (N' := q) (ty := .byte) hx hb w7 rfl 4 rfl (fun _ h1 h2 => ra_b h1 h2) hK hP hD hS hA rfl (nI_pos (by omega)) (nI_clamp (by omega)) (by show q * 1 ≤ _; omega) (by decide) (by show 0 + q ≤ 200; omega) dJ7_copyOf_9075b_15 (fun Wq H hP hD hS => ?_)
  have hP : va_P (dC, dI) vwCl [(V, .inl (cy 4, m, .inl a)), (Wq, .inl (cy 4, q, .inl (fun _ => 0)))] H := hP
  have hD : va_D _ [(V, .inl (cy 4, m, .inl a)), (Wq, .inl (cy 4, q, .inl (fun _ => 0)))] := hD
  refine lv_astore_n (lv' := [(2, .ref Wq), (0, .ref V), (1, .int (nI q))]) hx hb dJ7_copyOf_9075b_17 rfl hl (by decide) rfl (fun ls hl => ?_)
  refine lv_aload_n hx hb dJ7_copyOf_9075b_18 rfl (lv_at hl 1 rfl) ?_
  refine lv_iconst (v := 0) hx hb dJ7_copyOf_9075b_19 (by decide) ?_
  refine lv_aload_n hx hb dJ7_copyOf_9075b_20 rfl (lv_at hl 0 rfl) ?_
  refine lv_iconst (v := 0) hx hb dJ7_copyOf_9075b_21 (by decide) ?_
  refine lv_aload_n hx hb dJ7_copyOf_9075b_22 rfl (lv_at hl 1 rfl) ?_
  refine va_alen hx hb hK hP 0 4 rfl rfl (v := (nI m)) (rfl) dJ7_copyOf_9075b_23 ?_
  refine lv_iload_n hx hb dJ7_copyOf_9075b_24 rfl (lv_at hl 2 rfl) ?_
  refine va_mmin hx hb (hml.trans hl.1.symm) hown w8 w9 w10 w11 (Nat.le_of_ble_eq_true rfl) (Nat.le_of_ble_eq_true rfl) (Nat.le_of_ble_eq_true rfl) (by show 0 + q ≤ 200; omega) dJ7_copyOf_9075b_25 ?_
  rw [show ((if nI q < nI m then nI q else nI m) : Int32) = (nI m) from if_neg (nI_nlt (by omega) (by omega))]
  refine va_copyi hx hb (hml.trans hl.1.symm) hown w12 w13 w14 w15 hK hP hD hS 0 1 4 4 rfl rfl rfl rfl rfl (by decide) (by decide) (nI_pos (by omega)) (by rw [nI_clamp (n := m) (by omega), sb_cl0]; omega) (by rw [nI_clamp (n := m) (by omega), sb_cl0]; omega) (fun _ _ => hf _) (Nat.le_of_ble_eq_true rfl) (Nat.le_of_ble_eq_true rfl) dJ7_copyOf_9075b_28 (fun H locs hP hD hS => ?_)
  rw [nI_clamp (n := m) (by omega), sb_cl0] at hP hD
  have hP : va_P (dC, dI) vwCl [(V, .inl (cy 4, m, .inl a)), (Wq, .inl (cy 4, q, .inl (va_cpy a (fun _ => 0) 0 0 m)))] H := hP
  have hD : va_D _ [(V, .inl (cy 4, m, .inl a)), (Wq, .inl (cy 4, q, .inl (va_cpy a (fun _ => 0) 0 0 m)))] := hD
  refine lv_aload_n hx hb dJ7_copyOf_9075b_31 rfl (lv_at hl 0 rfl) ?_
  refine W.widen (k := 1) (n := 200) (Nat.le_of_ble_eq_true rfl) (by show 0 + q ≤ 200; omega) ?_
  exact W.aret hx hb hr (Or.inr ⟨_, rfl⟩) (Or.inr ⟨_, rfl⟩) (fun t ht _ => ⟨⟨(), _, rfl, trivial, by rw [ht]; exact hP, hD⟩, hS.F ht⟩) hS.2.2 dJ7_copyOf_9075b_32 hlocks
