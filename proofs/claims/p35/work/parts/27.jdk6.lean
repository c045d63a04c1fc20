theorem dmJ5_inflateIfNeededFor_a7421 : yJ5_inflateIfNeededFor_a7421.cls = RJ5 ∧ yJ5_inflateIfNeededFor_a7421.cls ≠ "java/lang/invoke/MethodHandle" ∧ yJ5_inflateIfNeededFor_a7421.cls ≠ "java/lang/invoke/VarHandle" ∧ (parseMethodDescriptor yJ5_inflateIfNeededFor_a7421.desc).map (fun d => d.parameters.length) = some 1 := by decide +kernel
abbrev rmJ5_inflateIfNeededFor_a7421 : Room := { frames := 1, cells := 0, slots := 0, locals := 20 }
theorem iJ_J5_inflateIfNeededFor_a7421_J4 : ∀ w ∈ wsJ40, w ∈ wsJ5_inflateIfNeededFor_a7421 := fun w h => List.mem_cons_of_mem _ (List.mem_append_left _ (List.mem_append_right _ (h)))
set_option maxHeartbeats 8000000 in
set_option maxRecDepth 100000 in
theorem mJ5_inflateIfNeededFor_a7421 (l0 : Launch) (dC : Nat → ClassId) (dI : Nat → Nat → Nat) (cy : Nat → ClassId) (tb : Nat × Nat) (B V m n : Nat) (a : Nat → Int32) (sz : Nat) (q v k : Nat) (t : Nat → Int32) : Met l0 yJ5_inflateIfNeededFor_a7421 wsJ5_inflateIfNeededFor_a7421 rmJ5_inflateIfNeededFor_a7421 (PcS [.ref B, .ref q] sz (dC, dI) cy (SB cy B V m a n) (va_A (SB cy B V m a n) sz) tb q v k t) (va_Qv (fun (_ : Unit) => True) (fun _ _ => True) (fun _ => False)) 0 0 (fun _ => False) := by
  refine Met.ofW (cc := cJ5_inflateIfNeededFor_a7421) (maxL := 2) (ret := none) (by decide) rfl ?_
  intro p e s mt args below meth c s₁ BY hml hv
  obtain ⟨hargs, hsz, hP, hK, hE, hT⟩ := hv
  have hx := BY.exec
  have hb := BY.bytes
  have hr := BY.returns
  have hts := atoms_spec (ws := wsJ5_inflateIfNeededFor_a7421) BY.pre
  have hown : s.vm.findClass RJ5 = some mt.cls := findClass_of_methodNamed BY.named
  have hlocks := BY.notSynchronized
  have w1 := hts (.fieldLink RJ5 18 "java/lang/String" "COMPACT_STRINGS" "Z") (List.mem_of_getElem? (i := 1) rfl)
  have w2 := hts (.fieldLink RJ5 22 "java/lang/AbstractStringBuilder" "coder" "B") (List.mem_of_getElem? (i := 2) rfl)
  have hS : va_S (fun _ => False) s.heap s.heap [] := va_S.rf
  have hfr : entryFrame mt args 2 = F0 mt 0 ((lg_sl [.ref B, .ref q] ++ List.replicate (2 - (lg_sl [.ref B, .ref q]).length) Slot.unset).toArray) [] := by rw [hargs]; exact lg_entry_eq _ _ _
  rw [hfr]
  have hl := lv_entry ([.ref B, .ref q]) (n := 2) (Nat.le_of_ble_eq_true rfl)
  generalize (lg_sl [.ref B, .ref q] ++ List.replicate (2 - (lg_sl [.ref B, .ref q]).length) Slot.unset).toArray = ls at hl ⊢
  have hl : lv_has ls 2 [(0, .ref B), (1, .ref q)] := hl
  clear hfr hargs BY
  show W p l0 e rmJ5_inflateIfNeededFor_a7421 s mt args below meth c s.heap [] 0 0 (MQ below (va_Qv (fun (_ : Unit) => True) (fun _ _ => True) (fun _ => False)) args s 0 0 (fun _ => False)) (F0 mt 0 ls [])
  have hEn := hE.narrow (B := (fun _ => False)) (fun x h => h.elim)
  refine va_gets hx hb (C := "java/lang/String") (n := "COMPACT_STRINGS") (d := "Z") hEn.1 hS hown w1 (fun _ h9 => h9) dJ5_inflateIfNeededFor_a7421_0 ?_
  refine lv_if_eq (tgt := 21) hx hb dJ5_inflateIfNeededFor_a7421_3 (by decide) (fun q9 => absurd q9 (by decide)) (fun _ => ?_)
  refine lv_aload_n hx hb dJ5_inflateIfNeededFor_a7421_6 rfl (lv_at hl 0 rfl) ?_
  refine va_get (D := (dC, dI)) (ci := 8) (v := .int 0) (C := RJ4) (T := TJ4) (N := 4) hx hb hts iJ_J5_inflateIfNeededFor_a7421_J4 hown hK hP 0 rfl rfl 1 (by decide) w2 (fun _ h9 => h9) rfl dJ5_inflateIfNeededFor_a7421_7 ?_
  refine lv_aload_n hx hb dJ5_inflateIfNeededFor_a7421_10 rfl (lv_at hl 1 rfl) ?_
  refine va_calli (va_runV (As := []) (rest := [.int 0]) ⟨hx, hb, hml, hown, hts⟩ (mJ0_coder_7d493 l0 dC dI cy tb q v k t s.heap.size) (cwV 0 hts gJ5_inflateIfNeededFor_a7421_J0_coder_7d493 rfl rfl rfl dmJ0_coder_7d493 ⟨Nat.le_of_ble_eq_true rfl, Nat.le_of_ble_eq_true rfl⟩) ⟨PcS_blind, hT.recv hS, fun U hU hW => ⟨rfl, by rw [hU], fun k x hx => by simp at hx, va_K.moved hW.alike hK, hE.go hS hU hW (fun x h => h.elim), hT.go hS hU hW (fun x h => h.elim)⟩⟩ rfl rfl hl.1 rfl (lv_room (Nat.le_of_ble_eq_true rfl)) dJ5_inflateIfNeededFor_a7421_11 ⟨Nat.le_of_ble_eq_true rfl, Nat.le_of_ble_eq_true rfl⟩) hS (fun _ _ h => h.elim) (fun _ h => h.elim) (fun r0 u0 tS H1 locs ht hvm hw hB hz1 hk1 hS => ?_)
  obtain rfl := hw
  refine lv_icmp_eq (tgt := 21) hx hb dJ5_inflateIfNeededFor_a7421_14 (by decide) (fun _ => ?_) (fun q9 => absurd (rfl) q9)
  exact W.vret hx hb hr (fun t ht _ => ⟨⟨(), rfl, trivial, trivial⟩, hS.F ht⟩) hS.2.2 dJ5_inflateIfNeededFor_a7421_21 hlocks
theorem dmJ0_getBytes_840e7 : yJ0_getBytes_840e7.cls = RJ0 ∧ yJ0_getBytes_840e7.cls ≠ "java/lang/invoke/MethodHandle" ∧ yJ0_getBytes_840e7.cls ≠ "java/lang/invoke/VarHandle" ∧ (parseMethodDescriptor yJ0_getBytes_840e7.desc).map (fun d => d.parameters.length) = some 3 := by decide +kernel
abbrev rmJ0_getBytes_840e7 : Room := { frames := 1, cells := 0, slots := 0, locals := 64 }
set_option maxHeartbeats 8000000 in
set_option maxRecDepth 100000 in
theorem mJ0_getBytes_840e7 (l0 : Launch) (dC : Nat → ClassId) (dI : Nat → Nat → Nat) (cy : Nat → ClassId) (tb : Nat × Nat) (V m n : Nat) (a : Nat → Int32) (sz : Nat) (q v k : Nat) (t : Nat → Int32) (hm : m ≤ 200) (hnk : n + k ≤ m) (hft : ∀ i, i < k → fits .byte (.int (t i)) = true) : Met l0 yJ0_getBytes_840e7 wsJ0_getBytes_840e7 rmJ0_getBytes_840e7 (PcS [.ref q, .ref V, .int (nI n), .int 0] sz (dC, dI) cy [(V, .inl (cy 4, m, .inl a))] (va_A [(V, .inl (cy 4, m, .inl a))] sz) tb q v k t) (va_Qv (fun (_ : Unit) => True) (fun _ st => va_P (dC, dI) vwCl [(V, .inl (cy 4, m, .inl (va_cpy t a 0 n k)))] st.heap ∧ va_D (va_A [(V, .inl (cy 4, m, .inl a))] sz) [(V, .inl (cy 4, m, .inl (va_cpy t a 0 n k)))]) (va_A [(V, .inl (cy 4, m, .inl a))] sz)) 0 0 (va_A [(V, .inl (cy 4, m, .inl a))] sz) := by
  refine Met.ofW (cc := cJ0_getBytes_840e7) (maxL := 4) (ret := none) (by decide) rfl ?_
  intro p e s mt args below meth c s₁ BY hml hv
  obtain ⟨hargs, hsz, hP, hK, hE, hT⟩ := hv
  have hx := BY.exec
  have hb := BY.bytes
  have hr := BY.returns
  have hts := atoms_spec (ws := wsJ0_getBytes_840e7) BY.pre
  have hown : s.vm.findClass RJ0 = some mt.cls := findClass_of_methodNamed BY.named
  have hlocks := BY.notSynchronized
  have w1 := hts (.fieldLink RJ0 9 "java/lang/String" "value" "[B") (List.mem_of_getElem? (i := 1) rfl)
  have w2 := hts (.methodLink RJ0 212 arraycopyName) (List.mem_of_getElem? (i := 2) rfl)
  have w3 := hts (.native arraycopyName) (List.mem_of_getElem? (i := 3) rfl)
  have w4 := hts (.static arraycopyName) (List.mem_of_getElem? (i := 4) rfl)
  have w5 := hts (.initialized "java/lang/System") (List.mem_of_getElem? (i := 5) rfl)
  have hS : va_S (va_A [(V, .inl (cy 4, m, .inl a))] sz) s.heap s.heap [] := va_S.rf
  have hfr : entryFrame mt args 4 = F0 mt 0 ((lg_sl [.ref q, .ref V, .int (nI n), .int 0] ++ List.replicate (4 - (lg_sl [.ref q, .ref V, .int (nI n), .int 0]).length) Slot.unset).toArray) [] := by rw [hargs]; exact lg_entry_eq _ _ _
  rw [hfr]
  have hl := lv_entry ([.ref q, .ref V, .int (nI n), .int 0]) (n := 4) (Nat.le_of_ble_eq_true rfl)
  generalize (lg_sl [.ref q, .ref V, .int (nI n), .int 0] ++ List.replicate (4 - (lg_sl [.ref q, .ref V, .int (nI n), .int 0]).length) Slot.unset).toArray = ls at hl ⊢
  have hl : lv_has ls 4 [(0, .ref q), (1, .ref V), (2, .int (nI n)), (3, .int 0)] := hl
  clear hfr hargs BY
  show W p l0 e rmJ0_getBytes_840e7 s mt args below meth c s.heap [] 0 0 (MQ below (va_Qv (fun (_ : Unit) => True) (fun _ st => va_P (dC, dI) vwCl [(V, .inl (cy 4, m, .inl (va_cpy t a 0 n k)))] st.heap ∧ va_D (va_A [(V, .inl (cy 4, m, .inl a))] sz) [(V, .inl (cy 4, m, .inl (va_cpy t a 0 n k)))]) (va_A [(V, .inl (cy 4, m, .inl a))] sz)) args s 0 0 (va_A [(V, .inl (cy 4, m, .inl a))] sz)) (F0 mt 0 ls [])
  have hEn := hE.narrow (B := (va_A [(V, .inl (cy 4, m, .inl a))] sz)) (fun x h => h)
  subst hsz
  have hD : va_D (va_A [(V, .inl (cy 4, m, .inl a))] s.heap.size) [(V, .inl (cy 4, m, .inl a))] := D1 (Or.inl ⟨0, _, rfl⟩)
  refine lv_aload_n hx hb dJ0_getBytes_840e7_0 rfl (lv_at hl 0 rfl) ?_
  refine va_calli (va_runV (As := []) (rest := []) ⟨hx, hb, hml, hown, hts⟩ (mJ0_coder_7d493 l0 dC dI cy tb q v k t s.heap.size) (cwV 0 hts gJ0_getBytes_840e7_J0_coder_7d493 rfl rfl rfl dmJ0_coder_7d493 ⟨Nat.le_of_ble_eq_true rfl, Nat.le_of_ble_eq_true rfl⟩) ⟨PcS_blind, hT.recv hS, fun U hU hW => ⟨rfl, by rw [hU], fun k x hx => by simp at hx, va_K.moved hW.alike hK, hE.go hS hU hW (fun x h => h.elim), hT.go hS hU hW (fun x h => h.elim)⟩⟩ rfl rfl hl.1 rfl (lv_room (Nat.le_of_ble_eq_true rfl)) dJ0_getBytes_840e7_1 ⟨Nat.le_of_ble_eq_true rfl, Nat.le_of_ble_eq_true rfl⟩) hS (fun _ _ h => h.elim) (fun _ h => h.elim) (fun r0 u0 tS H1 locs ht hvm hw hB hz1 hk1 hS => ?_)
  obtain rfl := hw
  have hP := hP.kept (fun k x hx => hk1 x.1 (hP k x hx).lt (fun z => z))
  generalize H1 = H at hP hS ⊢
  refine lv_iload_n hx hb dJ0_getBytes_840e7_4 rfl (lv_at hl 3 rfl) ?_
  refine lv_icmp_ne (tgt := 28) hx hb dJ0_getBytes_840e7_5 (by decide) (fun q9 => absurd (rfl) q9) (fun _ => ?_)
  refine lv_aload_n hx hb dJ0_getBytes_840e7_8 rfl (lv_at hl 0 rfl) ?_
  refine vk_getf hx hb (o := "java/lang/String") (n := "value") (d := "[B") hT.2.2.1 hS hown w1 (fun _ h9 => h9) dJ0_getBytes_840e7_9 ?_
  refine lv_iconst (v := 0) hx hb dJ0_getBytes_840e7_12 (by decide) ?_
  refine lv_aload_n hx hb dJ0_getBytes_840e7_13 rfl (lv_at hl 1 rfl) ?_
  refine lv_iload_n hx hb dJ0_getBytes_840e7_14 rfl (lv_at hl 2 rfl) ?_
  refine lv_iload_n hx hb dJ0_getBytes_840e7_15 rfl (lv_at hl 3 rfl) ?_
  refine lv_ishl hx hb dJ0_getBytes_840e7_16 ?_
  rw [show (((nI n) <<< (0 &&& 31)) : Int32) = (nI n) from sb_shl0 _]
  refine lv_aload_n hx hb dJ0_getBytes_840e7_17 rfl (lv_at hl 0 rfl) ?_
  refine vk_getf hx hb (o := "java/lang/String") (n := "value") (d := "[B") hT.2.2.1 hS hown w1 (fun _ h9 => h9) dJ0_getBytes_840e7_18 ?_
  refine va_tlen hx hb hT.2.2.2 hS (v := nI k) rfl dJ0_getBytes_840e7_21 ?_
  refine vk_copyt hx hb (hml.trans hl.1.symm) hown w2 w3 w4 w5 hK hP hD hS hT.2.2.2 0 4 rfl rfl (by decide) (nI_pos (by omega)) (nI_pos (by omega)) (by rw [nI_clamp (n := k) (by omega), sb_cl0]; omega) (by rw [nI_clamp (n := k) (by omega), nI_clamp (n := n) (by omega)]; omega) (fun i hi => by rw [nI_clamp (n := k) (by omega)] at hi; rw [sb_cl0, Nat.zero_add]; exact hft i hi) (Nat.le_of_ble_eq_true rfl) (Nat.le_of_ble_eq_true rfl) dJ0_getBytes_840e7_22 (fun H locs hP hD hS => ?_)
  rw [nI_clamp (n := k) (by omega), nI_clamp (n := n) (by omega), sb_cl0] at hP hD
  refine lv_goto (tgt := 43) hx hb dJ0_getBytes_840e7_25 (by decide) ?_
  exact W.vret hx hb hr (fun st ht _ => ⟨⟨(), rfl, trivial, by rw [ht]; exact hP, hD⟩, hS.F ht⟩) hS.2.2 dJ0_getBytes_840e7_43 hlocks
theorem dmJ5_putStringAt_47b60 : yJ5_putStringAt_47b60.cls = RJ5 ∧ yJ5_putStringAt_47b60.cls ≠ "java/lang/invoke/MethodHandle" ∧ yJ5_putStringAt_47b60.cls ≠ "java/lang/invoke/VarHandle" ∧ (parseMethodDescriptor yJ5_putStringAt_47b60.desc).map (fun d => d.parameters.length) = some 2 := by decide +kernel
abbrev rmJ5_putStringAt_47b60 : Room := { frames := 2, cells := 0, slots := 0, locals := 90 }
theorem iJ_J5_putStringAt_47b60_J4 : ∀ w ∈ wsJ40, w ∈ wsJ5_putStringAt_47b60 := fun w h => List.mem_cons_of_mem _ (List.mem_append_left _ (List.mem_append_right _ (h)))
set_option maxHeartbeats 8000000 in
set_option maxRecDepth 100000 in
theorem mJ5_putStringAt_47b60 (l0 : Launch) (dC : Nat → ClassId) (dI : Nat → Nat → Nat) (cy : Nat → ClassId) (tb : Nat × Nat) (B V m n : Nat) (a : Nat → Int32) (sz : Nat) (q v k : Nat) (t : Nat → Int32) (hBV : B ≠ V) (hm : m ≤ 200) (hnk : n + k ≤ m) (hft : ∀ i, i < k → fits .byte (.int (t i)) = true) : Met l0 yJ5_putStringAt_47b60 wsJ5_putStringAt_47b60 rmJ5_putStringAt_47b60 (PcS [.ref B, .int (nI n), .ref q] sz (dC, dI) cy (SB cy B V m a n) (va_A (SB cy B V m a n) sz) tb q v k t) (va_Qv (fun (_ : Unit) => True) (fun _ st => va_P (dC, dI) vwCl (SB cy B V m (va_cpy t a 0 n k) n) st.heap ∧ va_D (va_A (SB cy B V m a n) sz) (SB cy B V m (va_cpy t a 0 n k) n)) (va_A (SB cy B V m a n) sz)) 0 0 (va_A (SB cy B V m a n) sz) := by
  refine Met.ofW (cc := cJ5_putStringAt_47b60) (maxL := 3) (ret := none) (by decide) rfl ?_
  intro p e s mt args below meth c s₁ BY hml hv
  obtain ⟨hargs, hsz, hP, hK, hE, hT⟩ := hv
  have hx := BY.exec
  have hb := BY.bytes
  have hr := BY.returns
  have hts := atoms_spec (ws := wsJ5_putStringAt_47b60) BY.pre
  have hown : s.vm.findClass RJ5 = some mt.cls := findClass_of_methodNamed BY.named
  have hlocks := BY.notSynchronized
  have w1 := hts (.fieldLink RJ5 15 "java/lang/AbstractStringBuilder" "value" "[B") (List.mem_of_getElem? (i := 1) rfl)
  have w2 := hts (.fieldLink RJ5 22 "java/lang/AbstractStringBuilder" "coder" "B") (List.mem_of_getElem? (i := 2) rfl)
  have hS : va_S (va_A (SB cy B V m a n) sz) s.heap s.heap [] := va_S.rf
  have hfr : entryFrame mt args 3 = F0 mt 0 ((lg_sl [.ref B, .int (nI n), .ref q] ++ List.replicate (3 - (lg_sl [.ref B, .int (nI n), .ref q]).length) Slot.unset).toArray) [] := by rw [hargs]; exact lg_entry_eq _ _ _
  rw [hfr]
  have hl := lv_entry ([.ref B, .int (nI n), .ref q]) (n := 3) (Nat.le_of_ble_eq_true rfl)
  generalize (lg_sl [.ref B, .int (nI n), .ref q] ++ List.replicate (3 - (lg_sl [.ref B, .int (nI n), .ref q]).length) Slot.unset).toArray = ls at hl ⊢
  have hl : lv_has ls 3 [(0, .ref B), (1, .int (nI n)), (2, .ref q)] := hl
  clear hfr hargs BY
  show W p l0 e rmJ5_putStringAt_47b60 s mt args below meth c s.heap [] 0 0 (MQ below (va_Qv (fun (_ : Unit) => True) (fun _ st => va_P (dC, dI) vwCl (SB cy B V m (va_cpy t a 0 n k) n) st.heap ∧ va_D (va_A (SB cy B V m a n) sz) (SB cy B V m (va_cpy t a 0 n k) n)) (va_A (SB cy B V m a n) sz)) args s 0 0 (va_A (SB cy B V m a n) sz)) (F0 mt 0 ls [])
  have hEn := hE.narrow (B := (va_A (SB cy B V m a n) sz)) (fun x h => h)
  subst hsz
  have hD : va_D (va_A (SB cy B V m a n) s.heap.size) (SB cy B V m a n) := D2 hBV (Or.inl ⟨0, _, rfl⟩) (Or.inl ⟨1, _, rfl⟩)
  have hA : ∀ x : Nat, s.heap.size ≤ x → (va_A (SB cy B V m a n) s.heap.size) x := fun x h => Or.inr h
  refine lv_aload_n hx hb dJ5_putStringAt_47b60_0 rfl (lv_at hl 0 rfl) ?_
  refine lv_aload_n hx hb dJ5_putStringAt_47b60_1 rfl (lv_at hl 2 rfl) ?_
  refine va_callv (va_runU (As := [.ref q]) (rest := []) ⟨hx, hb, hml, hown, hts⟩ (mJ5_inflateIfNeededFor_a7421 l0 dC dI cy tb B V m n a s.heap.size q v k t) (va_cwU 1 hts gJ5_putStringAt_47b60_J5_inflateIfNeededFor_a7421_u397J4 rfl rfl rfl rfl ⟨by decide, by decide, by decide +kernel⟩ ⟨Nat.le_of_ble_eq_true rfl, Nat.le_of_ble_eq_true rfl⟩) ⟨PcS_blind, (va_recv hK hP (ci := 8) (q0 := 0) rfl rfl), fun U hU hW => ⟨rfl, by rw [hU], by rw [hU]; exact hP, va_K.moved hW.alike hK, hE.go hS hU hW (fun x h => vaA_mono hS.1 h), hT.go hS hU hW (fun x h => vaA_mono hS.1 h)⟩⟩ rfl rfl hl.1 rfl (lv_room (Nat.le_of_ble_eq_true rfl)) dJ5_putStringAt_47b60_2 ⟨Nat.le_of_ble_eq_true rfl, Nat.le_of_ble_eq_true rfl⟩) hS (fun _ _ h => h.elim) (fun _ h => h.elim) (fun u0 st H1 locs ht hvm hw hB hz1 hk1 hS => ?_)
  have hP := hP.kept (fun k x hx => hk1 x.1 (hP k x hx).lt (fun z => z))
  generalize H1 = H at hP hS ⊢
  refine lv_aload_n hx hb dJ5_putStringAt_47b60_5 rfl (lv_at hl 2 rfl) ?_
  refine lv_aload_n hx hb dJ5_putStringAt_47b60_6 rfl (lv_at hl 0 rfl) ?_
  refine va_get (D := (dC, dI)) (ci := 8) (v := .ref V) (C := RJ4) (T := TJ4) (N := 4) hx hb hts iJ_J5_putStringAt_47b60_J4 hown hK hP 0 rfl rfl 0 (by decide) w1 (fun _ h9 => h9) rfl dJ5_putStringAt_47b60_7 ?_
  refine lv_iload_n hx hb dJ5_putStringAt_47b60_10 rfl (lv_at hl 1 rfl) ?_
  refine lv_aload_n hx hb dJ5_putStringAt_47b60_11 rfl (lv_at hl 0 rfl) ?_
  refine va_get (D := (dC, dI)) (ci := 8) (v := .int 0) (C := RJ4) (T := TJ4) (N := 4) hx hb hts iJ_J5_putStringAt_47b60_J4 hown hK hP 0 rfl rfl 1 (by decide) w2 (fun _ h9 => h9) rfl dJ5_putStringAt_47b60_12 ?_
  have hPV := hP.sub (ws' := [(V, .inl (cy 4, m, .inl a))]) [1] rfl
  have hFc := va_free (wc := [(V, .inl (cy 4, m, .inl a))]) hD hS hA [1] rfl
  refine va_callv (va_runV (As := [.ref V, .int (nI n), .int 0]) (rest := []) ⟨hx, hb, hml, hown, hts⟩ (mJ0_getBytes_840e7 l0 dC dI cy tb V m n a H.size q v k t hm hnk hft) (cwV 3 hts gJ5_putStringAt_47b60_J0_getBytes_840e7 rfl rfl rfl dmJ0_getBytes_840e7 ⟨Nat.le_of_ble_eq_true rfl, Nat.le_of_ble_eq_true rfl⟩) ⟨PcS_blind, hT.recv hS, fun U hU hW => ⟨rfl, by rw [hU], by rw [hU]; exact hPV, va_K.moved hW.alike hK, hE.go hS hU hW hFc, hT.go hS hU hW hFc⟩⟩ rfl rfl hl.1 rfl (lv_room (Nat.le_of_ble_eq_true rfl)) dJ5_putStringAt_47b60_15 ⟨Nat.le_of_ble_eq_true rfl, Nat.le_of_ble_eq_true rfl⟩) hS (fun x _ h => hFc x h) hFc (fun u0 st H1 locs ht hvm hw hB hz1 hk1 hS => ?_)
  obtain ⟨hP1, hD1⟩ := hB
  rw [ht] at hP1
  obtain ⟨hP, hD⟩ := va_join (wr := [(B, .inr (8, [.ref V, .int 0, .int 0, .int (nI n)]))]) (w1 := [(V, .inl (cy 4, m, .inl (va_cpy t a 0 n k)))]) hP hD [1] [0] rfl rfl (by decide) (by decide) hk1 hFc hP1 hD1
  exact W.vret hx hb hr (fun st ht _ => ⟨⟨(), rfl, trivial, by rw [ht]; exact hP, hD⟩, hS.F ht⟩) hS.2.2 dJ5_putStringAt_47b60_18 hlocks
theorem dmJ5_append_cf1ce : yJ5_append_cf1ce.cls = RJ5 ∧ yJ5_append_cf1ce.cls ≠ "java/lang/invoke/MethodHandle" ∧ yJ5_append_cf1ce.cls ≠ "java/lang/invoke/VarHandle" ∧ (parseMethodDescriptor yJ5_append_cf1ce.desc).map (fun d => d.parameters.length) = some 1 := by decide +kernel
abbrev rmJ5_append_cf1ce : Room := { frames := 4, cells := 1, slots := 200, locals := 300 }
theorem iJ_J5_append_cf1ce_J4 : ∀ w ∈ wsJ40, w ∈ wsJ5_append_cf1ce := fun w h => List.mem_cons_of_mem _ (List.mem_append_left _ (List.mem_append_right _ (h)))
set_option maxHeartbeats 8000000 in
set_option maxRecDepth 100000 in
theorem mJ5_append_cf1ce (l0 : Launch) (dC : Nat → ClassId) (dI : Nat → Nat → Nat) (cy : Nat → ClassId) (tb : Nat × Nat) (B V m : Nat) (a : Nat → Int32) (l : List Nat) (sz : Nat) (hBV : B ≠ V) (hok : sbOk l m a) (q v : Nat) (t : Nat → Int32) (w : List Nat) (hwt : ∀ i, i < w.length → t i = nI (w.getD i 0)) (hwc : ∀ c ∈ w, c < 128) (hl9 : l.length + w.length ≤ 100) : Met l0 yJ5_append_cf1ce wsJ5_append_cf1ce rmJ5_append_cf1ce (PcS [.ref B, .ref q] sz (dC, dI) cy (SB cy B V m a l.length) (va_A (SB cy B V m a l.length) sz) tb q v w.length t) (va_Qr (fun (u : Nat × Nat × (Nat → Int32)) => sbOk (l ++ w) u.2.1 u.2.2) (fun u ra t => ra = B ∧ va_P (dC, dI) vwCl (SB cy B u.1 u.2.1 u.2.2 ((l ++ w)).length) t.heap ∧ va_D (va_A (SB cy B V m a l.length) sz) (SB cy B u.1 u.2.1 u.2.2 ((l ++ w)).length)) (va_A (SB cy B V m a l.length) sz)) 1 200 (va_A (SB cy B V m a l.length) sz) := by
  refine Met.ofW (cc := cJ5_append_cf1ce) (maxL := 3) (ret := (some (.object "java/lang/AbstractStringBuilder"))) (by decide) rfl ?_
  intro p e s mt args below meth c s₁ BY hml hv
  obtain ⟨hargs, hsz, hP, hK, hE, hT⟩ := hv
  have hx := BY.exec
  have hb := BY.bytes
  have hr := BY.returns
  have hts := atoms_spec (ws := wsJ5_append_cf1ce) BY.pre
  have hown : s.vm.findClass RJ5 = some mt.cls := findClass_of_methodNamed BY.named
  have hlocks := BY.notSynchronized
  have w1 := hts (.fieldLink RJ5 79 "java/lang/AbstractStringBuilder" "count" "I") (List.mem_of_getElem? (i := 1) rfl)
  have hS : va_S (va_A (SB cy B V m a l.length) sz) s.heap s.heap [] := va_S.rf
  have hfr : entryFrame mt args 3 = F0 mt 0 ((lg_sl [.ref B, .ref q] ++ List.replicate (3 - (lg_sl [.ref B, .ref q]).length) Slot.unset).toArray) [] := by rw [hargs]; exact lg_entry_eq _ _ _
  rw [hfr]
  have hl := lv_entry ([.ref B, .ref q]) (n := 3) (Nat.le_of_ble_eq_true rfl)
  generalize (lg_sl [.ref B, .ref q] ++ List.replicate (3 - (lg_sl [.ref B, .ref q]).length) Slot.unset).toArray = ls at hl ⊢
  have hl : lv_has ls 3 [(0, .ref B), (1, .ref q)] := hl
  clear hfr hargs BY
  show W p l0 e rmJ5_append_cf1ce s mt args below meth c s.heap [] 0 0 (MQ below (va_Qr (fun (u : Nat × Nat × (Nat → Int32)) => sbOk (l ++ w) u.2.1 u.2.2) (fun u ra t => ra = B ∧ va_P (dC, dI) vwCl (SB cy B u.1 u.2.1 u.2.2 ((l ++ w)).length) t.heap ∧ va_D (va_A (SB cy B V m a l.length) sz) (SB cy B u.1 u.2.1 u.2.2 ((l ++ w)).length)) (va_A (SB cy B V m a l.length) sz)) args s 1 200 (va_A (SB cy B V m a l.length) sz)) (F0 mt 0 ls [])
  have hEn := hE.narrow (B := (va_A (SB cy B V m a l.length) sz)) (fun x h => h)
  subst hsz
  have hD : va_D (va_A (SB cy B V m a l.length) s.heap.size) (SB cy B V m a l.length) := D2 hBV (Or.inl ⟨0, _, rfl⟩) (Or.inl ⟨1, _, rfl⟩)
  have hA : ∀ x : Nat, s.heap.size ≤ x → (va_A (SB cy B V m a l.length) s.heap.size) x := fun x h => Or.inr h
  have hok0 := hok
  obtain ⟨k1, k2, k3, k4, k5⟩ := hok
  have hft : ∀ i, i < w.length → fits .byte (.int (t i)) = true := fun i hi => by
      rw [hwt i hi]
      refine (b_nar _ (hwc _ ?_)).2.1
      rw [List.getD_eq_getElem?_getD, List.getElem?_eq_getElem hi, Option.getD_some]
      exact List.getElem_mem hi
  refine lv_aload_n hx hb dJ5_append_cf1ce_0 rfl (lv_at hl 1 rfl) ?_
  refine lv_ifnonnull (tgt := 9) hx hb dJ5_append_cf1ce_1 (by decide) ?_
  refine lv_aload_n hx hb dJ5_append_cf1ce_9 rfl (lv_at hl 1 rfl) ?_
  refine va_calli (va_runV (As := []) (rest := []) ⟨hx, hb, hml, hown, hts⟩ (mJ0_length_8abf5 l0 dC dI cy tb q v w.length t s.heap.size) (cwV 0 hts gJ5_append_cf1ce_J0_length_8abf5 rfl rfl rfl dmJ0_length_8abf5 ⟨Nat.le_of_ble_eq_true rfl, Nat.le_of_ble_eq_true rfl⟩) ⟨PcS_blind, hT.recv hS, fun U hU hW => ⟨rfl, by rw [hU], fun k x hx => by simp at hx, va_K.moved hW.alike hK, hE.go hS hU hW (fun x h => h.elim), hT.go hS hU hW (fun x h => h.elim)⟩⟩ rfl rfl hl.1 rfl (lv_room (Nat.le_of_ble_eq_true rfl)) dJ5_append_cf1ce_10 ⟨Nat.le_of_ble_eq_true rfl, Nat.le_of_ble_eq_true rfl⟩) hS (fun _ _ h => h.elim) (fun _ h => h.elim) (fun r0 u0 tS H1 locs ht hvm hw hB hz1 hk1 hS => ?_)
  obtain rfl := hw
  have hP := hP.kept (fun k x hx => hk1 x.1 (hP k x hx).lt (fun z => z))
  generalize H1 = H at hP hS ⊢
  refine lv_istore_n (lv' := [(2, .int (nI w.length)), (0, .ref B), (1, .ref q)]) hx hb dJ5_append_cf1ce_13 rfl hl (by decide) rfl (fun ls hl => ?_)
  refine lv_aload_n hx hb dJ5_append_cf1ce_14 rfl (lv_at hl 1 rfl) ?_
  refine lv_aload_n hx hb dJ5_append_cf1ce_15 rfl (lv_at hl 1 rfl) ?_
  refine va_get (D := (dC, dI)) (ci := 8) (v := .int (nI l.length)) (C := RJ4) (T := TJ4) (N := 4) hx hb hts iJ_J5_append_cf1ce_J4 hown hK hP 0 rfl rfl 3 (by decide) w1 (fun _ h9 => h9) rfl dJ5_append_cf1ce_16 ?_
  refine lv_iload_n hx hb dJ5_append_cf1ce_19 rfl (lv_at hl 0 rfl) ?_
  refine lv_iadd hx hb dJ5_append_cf1ce_20 ?_
  rw [show (((nI l.length) + (nI w.length)) : Int32) = (nI (l.length + w.length)) from nI_add _ _]
  have hz9 := hS.1
  refine va_callv (va_runU (As := [.int (nI (l.length + w.length))]) (rest := []) ⟨hx, hb, hml, hown, hts⟩ (mJ5_ensureCapacityInternal_d00df l0 dC dI cy tb B V m l.length a H.size hBV (l.length + w.length) k2 (by omega) k5) (va_cwU 1 hts gJ5_append_cf1ce_J5_ensureCapacityInternal_d00df_u100J4 rfl rfl rfl rfl ⟨by decide, by decide, by decide +kernel⟩ ⟨Nat.le_of_ble_eq_true rfl, Nat.le_of_ble_eq_true rfl⟩) ⟨PcJ_blind, (va_recv hK hP (ci := 8) (q0 := 0) rfl rfl), fun U hU hW => ⟨rfl, by rw [hU], by rw [hU]; exact hP, va_K.moved hW.alike hK, hE.go hS hU hW (fun x h => vaA_mono hS.1 h)⟩⟩ rfl rfl hl.1 rfl (lv_room (Nat.le_of_ble_eq_true rfl)) dJ5_append_cf1ce_21 ⟨Nat.le_of_ble_eq_true rfl, Nat.le_of_ble_eq_true rfl⟩) hS (fun x _ h => vaA_mono hS.1 h) (fun x h => vaA_mono hS.1 h) (fun u tS H1 locs ht hvm hw hB hz1 hk1 hS => ?_)
  obtain ⟨u1, u2, u3, u4, u5⟩ := hw
  obtain ⟨hP, hD1⟩ := hB
  rw [ht] at hP
  have hBu : B ≠ u.1 := fun e => by have := hD1.1 0 1 _ _ rfl rfl e; omega
  replace hD : va_D (va_A (SB cy B V m a l.length) s.heap.size) (SB cy B u.1 u.2.1 u.2.2 l.length) := ⟨hD1.1, fun k x hx => vaA_mono hz9 (hD1.2 k x hx)⟩
  generalize H1 = H at hP hS ⊢
  refine lv_aload_n hx hb dJ5_append_cf1ce_24 rfl (lv_at hl 1 rfl) ?_
  refine lv_aload_n hx hb dJ5_append_cf1ce_25 rfl (lv_at hl 1 rfl) ?_
  refine va_get (D := (dC, dI)) (ci := 8) (v := .int (nI l.length)) (C := RJ4) (T := TJ4) (N := 4) hx hb hts iJ_J5_append_cf1ce_J4 hown hK hP 0 rfl rfl 3 (by decide) w1 (fun _ h9 => h9) rfl dJ5_append_cf1ce_26 ?_
  refine lv_aload_n hx hb dJ5_append_cf1ce_29 rfl (lv_at hl 2 rfl) ?_
  have hz8 := hS.1
  refine va_callv (va_runU (As := [.int (nI l.length), .ref q]) (rest := []) ⟨hx, hb, hml, hown, hts⟩ (mJ5_putStringAt_47b60 l0 dC dI cy tb B u.1 u.2.1 l.length u.2.2 H.size q v w.length t hBu u2 u1 hft) (va_cwU 2 hts gJ5_append_cf1ce_J5_putStringAt_47b60_u208J4 rfl rfl rfl rfl ⟨by decide, by decide, by decide +kernel⟩ ⟨Nat.le_of_ble_eq_true rfl, Nat.le_of_ble_eq_true rfl⟩) ⟨PcS_blind, (va_recv hK hP (ci := 8) (q0 := 0) rfl rfl), fun U hU hW => ⟨rfl, by rw [hU], by rw [hU]; exact hP, va_K.moved hW.alike hK, hE.go hS hU hW (fun x h => vaA_SB hS.1 hD h), hT.go hS hU hW (fun x h => vaA_SB hS.1 hD h)⟩⟩ rfl rfl hl.1 rfl (lv_room (Nat.le_of_ble_eq_true rfl)) dJ5_append_cf1ce_30 ⟨Nat.le_of_ble_eq_true rfl, Nat.le_of_ble_eq_true rfl⟩) hS (fun x _ h => vaA_SB hz8 hD h) (fun x h => vaA_SB hz8 hD h) (fun u0 st H1 locs ht hvm hw0 hB hz1 hk1 hS => ?_)
  obtain ⟨hP, hD1⟩ := hB
  rw [ht] at hP
  obtain ⟨b, hb9⟩ : ∃ b, b = va_cpy t u.2.2 0 l.length w.length := ⟨_, rfl⟩
  rw [← hb9] at hP hD1
  replace hD : va_D (va_A (SB cy B V m a l.length) s.heap.size) (SB cy B u.1 u.2.1 b l.length) := ⟨hD1.1, fun k x hx => vaA_SB hz8 hD (hD1.2 k x hx)⟩
  generalize H1 = H at hP hS ⊢
  refine lv_aload_n hx hb dJ5_append_cf1ce_33 rfl (lv_at hl 1 rfl) ?_
  refine lv_dup hx hb dJ5_append_cf1ce_34 rfl ?_
  refine va_get (D := (dC, dI)) (ci := 8) (v := .int (nI l.length)) (C := RJ4) (T := TJ4) (N := 4) hx hb hts iJ_J5_append_cf1ce_J4 hown hK hP 0 rfl rfl 3 (by decide) w1 (fun _ h9 => h9) rfl dJ5_append_cf1ce_35 ?_
  refine lv_iload_n hx hb dJ5_append_cf1ce_38 rfl (lv_at hl 0 rfl) ?_
  refine lv_iadd hx hb dJ5_append_cf1ce_39 ?_
  rw [show (((nI l.length) + (nI w.length)) : Int32) = (nI (l.length + w.length)) from nI_add _ _]
  refine va_put (D := (dC, dI)) (ci := 8) (v := .int (nI (l.length + w.length))) (ty := tyJ4 3) (C := RJ4) (T := TJ4) (N := 4) hx hb hts iJ_J5_append_cf1ce_J4 tyJ4 tyJ4_ok nmJ4 hown hK hP hD hS 0 rfl rfl 3 (by decide) w1 (fun _ h9 => h9) rfl (tyJ4_ok 3 (by decide)) rfl rfl (Nat.le_of_ble_eq_true rfl) dJ5_append_cf1ce_40 (fun H locs hP hD hS => ?_)
  rw [show l.length + w.length = (l ++ w).length from by rw [List.length_append]] at hP hD
  have hP : va_P (dC, dI) vwCl (SB cy B u.1 u.2.1 b (l ++ w).length) H := hP
  have hD : va_D (va_A (SB cy B V m a l.length) s.heap.size) (SB cy B u.1 u.2.1 b (l ++ w).length) := hD
  have hok2 : sbOk (l ++ w) u.2.1 b := sb_app hok0 u1 u2 u4 (fun i hi => by rw [hb9]; exact pk_cpy_out (Or.inl hi)) (fun i hi => by rw [hb9, pk_cpy_in (by omega) (by omega), ← hwt i hi]; congr 1; omega) hwc (fun j => by
      rw [hb9]
      by_cases hj : l.length ≤ j ∧ j < l.length + w.length
      · rw [pk_cpy_in hj.1 hj.2, Nat.zero_add]; exact hft _ (by omega)
      · rw [pk_cpy_out (by omega)]; exact u5 j)
  refine lv_aload_n hx hb dJ5_append_cf1ce_43 rfl (lv_at hl 1 rfl) ?_
  refine W.widen (k := 1) (n := 200) (Nat.le_of_ble_eq_true rfl) (Nat.le_of_ble_eq_true rfl) ?_
  exact W.aret hx hb hr (Or.inl ⟨_, rfl⟩) (Or.inr ⟨_, rfl⟩) (fun t ht _ => ⟨⟨(u.1, u.2.1, b), B, rfl, hok2, rfl, by rw [ht]; exact hP, hD⟩, hS.F ht⟩) hS.2.2 dJ5_append_cf1ce_44 hlocks
theorem dmJ4_append_15ec4 : yJ4_append_15ec4.cls = RJ4 ∧ yJ4_append_15ec4.cls ≠ "java/lang/invoke/MethodHandle" ∧ yJ4_append_15ec4.cls ≠ "java/lang/invoke/VarHandle" ∧ (parseMethodDescriptor yJ4_append_15ec4.desc).map (fun d => d.parameters.length) = some 1 := by decide +kernel
abbrev rmJ4_append_15ec4 : Room := { frames := 5, cells := 1, slots := 200, locals := 340 }
set_option maxHeartbeats 8000000 in
set_option maxRecDepth 100000 in
theorem mJ4_append_15ec4 (l0 : Launch) (dC : Nat → ClassId) (dI : Nat → Nat → Nat) (cy : Nat → ClassId) (tb : Nat × Nat) (B V m : Nat) (a : Nat → Int32) (l : List Nat) (sz : Nat) (hBV : B ≠ V) (hok : sbOk l m a) (q v : Nat) (t : Nat → Int32) (w : List Nat) (hwt : ∀ i, i < w.length → t i = nI (w.getD i 0)) (hwc : ∀ c ∈ w, c < 128) (hl9 : l.length + w.length ≤ 100) : Met l0 yJ4_append_15ec4 wsJ4_append_15ec4 rmJ4_append_15ec4 (PcS [.ref B, .ref q] sz (dC, dI) cy (SB cy B V m a l.length) (va_A (SB cy B V m a l.length) sz) tb q v w.length t) (va_Qr (fun (u : Nat × Nat × (Nat → Int32)) => sbOk (l ++ w) u.2.1 u.2.2) (fun u ra t => ra = B ∧ va_P (dC, dI) vwCl (SB cy B u.1 u.2.1 u.2.2 ((l ++ w)).length) t.heap ∧ va_D (va_A (SB cy B V m a l.length) sz) (SB cy B u.1 u.2.1 u.2.2 ((l ++ w)).length)) (va_A (SB cy B V m a l.length) sz)) 1 200 (va_A (SB cy B V m a l.length) sz) := by
  refine Met.ofW (cc := cJ4_append_15ec4) (maxL := 2) (ret := (some (.object "java/lang/StringBuilder"))) (by decide) rfl ?_
  intro p e s mt args below meth c s₁ BY hml hv
  obtain ⟨hargs, hsz, hP, hK, hE, hT⟩ := hv
  have hx := BY.exec
  have hb := BY.bytes
  have hr := BY.returns
  have hts := atoms_spec (ws := wsJ4_append_15ec4) BY.pre
  have hown : s.vm.findClass RJ4 = some mt.cls := findClass_of_methodNamed BY.named
  have hlocks := BY.notSynchronized
  have hS : va_S (va_A (SB cy B V m a l.length) sz) s.heap s.heap [] := va_S.rf
  have hfr : entryFrame mt args 2 = F0 mt 0 ((lg_sl [.ref B, .ref q] ++ List.replicate (2 - (lg_sl [.ref B, .ref q]).length) Slot.unset).toArray) [] := by rw [hargs]; exact lg_entry_eq _ _ _
  rw [hfr]
  have hl := lv_entry ([.ref B, .ref q]) (n := 2) (Nat.le_of_ble_eq_true rfl)
  generalize (lg_sl [.ref B, .ref q] ++ List.replicate (2 - (lg_sl [.ref B, .ref q]).length) Slot.unset).toArray = ls at hl ⊢
  have hl : lv_has ls 2 [(0, .ref B), (1, .ref q)] := hl
  clear hfr hargs BY
  show W p l0 e rmJ4_append_15ec4 s mt args below meth c s.heap [] 0 0 (MQ below (va_Qr (fun (u : Nat × Nat × (Nat → Int32)) => sbOk (l ++ w) u.2.1 u.2.2) (fun u ra t => ra = B ∧ va_P (dC, dI) vwCl (SB cy B u.1 u.2.1 u.2.2 ((l ++ w)).length) t.heap ∧ va_D (va_A (SB cy B V m a l.length) sz) (SB cy B u.1 u.2.1 u.2.2 ((l ++ w)).length)) (va_A (SB cy B V m a l.length) sz)) args s 1 200 (va_A (SB cy B V m a l.length) sz)) (F0 mt 0 ls [])
  have hEn := hE.narrow (B := (va_A (SB cy B V m a l.length) sz)) (fun x h => h)
  subst hsz
  have hD : va_D (va_A (SB cy B V m a l.length) s.heap.size) (SB cy B V m a l.length) := D2 hBV (Or.inl ⟨0, _, rfl⟩) (Or.inl ⟨1, _, rfl⟩)
  have hA : ∀ x : Nat, s.heap.size ≤ x → (va_A (SB cy B V m a l.length) s.heap.size) x := fun x h => Or.inr h
  have hok0 := hok
  obtain ⟨k1, k2, k3, k4, k5⟩ := hok
  refine lv_aload_n hx hb dJ4_append_15ec4_0 rfl (lv_at hl 0 rfl) ?_
  refine lv_aload_n hx hb dJ4_append_15ec4_1 rfl (lv_at hl 1 rfl) ?_
  refine va_callr (va_runSU (C := RJ4) ((hK.1 8 _ rfl).2) (As := [.ref q]) (rest := []) ⟨hx, hb, hml, hown, hts⟩ (mJ5_append_cf1ce l0 dC dI cy tb B V m a l s.heap.size hBV hok0 q v t w hwt hwc hl9) (va_cwSU 1 hts gJ4_append_15ec4_J5_append_cf1ce_s29 rfl rfl rfl ⟨by decide, by decide +kernel⟩ ⟨Nat.le_of_ble_eq_true rfl, Nat.le_of_ble_eq_true rfl⟩) ⟨PcS_blind, (va_recv hK hP (ci := 8) (q0 := 0) rfl rfl), fun U hU hW => ⟨rfl, by rw [hU], by rw [hU]; exact hP, va_K.moved hW.alike hK, hE.go hS hU hW (fun x h => vaA_mono hS.1 h), hT.go hS hU hW (fun x h => vaA_mono hS.1 h)⟩⟩ rfl rfl hl.1 rfl (lv_room (Nat.le_of_ble_eq_true rfl)) dJ4_append_15ec4_2 ⟨Nat.le_of_ble_eq_true rfl, Nat.le_of_ble_eq_true rfl⟩) hS (fun x _ h => vaA_mono hS.1 h) (fun x h => vaA_mono hS.1 h) (fun u ra tS H1 locs ht hvm hw hB hz1 hk1 hS => ?_)
  obtain ⟨rfl, hP, hD1⟩ := hB
  rw [ht] at hP
  have hok2 := hw
  replace hD := hD1
  refine lv_pop hx hb dJ4_append_15ec4_5 rfl ?_
  refine lv_aload_n hx hb dJ4_append_15ec4_6 rfl (lv_at hl 0 rfl) ?_
  refine W.widen (k := 1) (n := 200) (Nat.le_of_ble_eq_true rfl) (Nat.le_of_ble_eq_true rfl) ?_
  exact W.aret hx hb hr (Or.inl ⟨_, rfl⟩) (Or.inr ⟨_, rfl⟩) (fun t ht _ => ⟨⟨u, _, rfl, hok2, rfl, by rw [ht]; exact hP, hD⟩, hS.F ht⟩) hS.2.2 dJ4_append_15ec4_7 hlocks
