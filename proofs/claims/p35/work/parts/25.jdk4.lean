theorem sb_app {l w : List Nat} {m m2 : Nat} {a a2 b : Nat → Int32} (h : sbOk l m a) (hm : l.length + w.length ≤ m2) (hm2 : m2 ≤ 200) (hk : ∀ i, i < m → a2 i = a i) (h1 : ∀ i, i < l.length → b i = a2 i) (h2 : ∀ i, i < w.length → b (l.length + i) = nI (w.getD i 0)) (hw : ∀ c ∈ w, c < 128) (hf : sb_Fit b) : sbOk (l ++ w) m2 b := by
  obtain ⟨k1, k2, k3, k4, k5⟩ := h
  refine ⟨by rw [List.length_append]; exact hm, hm2, fun i hi => ?_, fun c hc => ?_, hf⟩
  · rw [List.length_append] at hi
    by_cases h : i < l.length
    · rw [h1 i h, hk i (by omega), k3 i h]
      simp [List.getD, List.getElem?_append_left h]
    · obtain ⟨j, rfl⟩ : ∃ j, i = l.length + j := ⟨i - l.length, by omega⟩
      rw [h2 j (by omega)]
      simp [List.getD, List.getElem?_append_right]
  · rcases List.mem_append.mp hc with h | h
    · exact k4 c h
    · exact hw c h
theorem vaA_SB {cy : Nat → ClassId} {B V m n : Nat} {a : Nat → Int32} {w0 : va_W} {sz sz2 x : Nat} (hs : sz ≤ sz2) (hD : va_D (va_A w0 sz) (SB cy B V m a n)) (q : va_A (SB cy B V m a n) sz2 x) : va_A w0 sz x := by
  rcases q with ⟨k, e, h⟩ | q
  · exact hD.2 k _ h
  · exact Or.inr (Nat.le_trans hs q)
theorem dmJ5_append_c97b9 : yJ5_append_c97b9.cls = RJ5 ∧ yJ5_append_c97b9.cls ≠ "java/lang/invoke/MethodHandle" ∧ yJ5_append_c97b9.cls ≠ "java/lang/invoke/VarHandle" ∧ (parseMethodDescriptor yJ5_append_c97b9.desc).map (fun d => d.parameters.length) = some 1 := by decide +kernel
abbrev rmJ5_append_c97b9 : Room := { frames := 4, cells := 1, slots := 200, locals := 300 }
theorem iJ_J5_append_c97b9_J4 : ∀ w ∈ wsJ40, w ∈ wsJ5_append_c97b9 := fun w h => List.mem_cons_of_mem _ (List.mem_append_right _ (h))
set_option maxHeartbeats 8000000 in
set_option maxRecDepth 100000 in
theorem mJ5_append_c97b9 (l0 : Launch) (dC : Nat → ClassId) (dI : Nat → Nat → Nat) (cy : Nat → ClassId) (tb : Nat × Nat) (B V m : Nat) (a : Nat → Int32) (l : List Nat) (sz : Nat) (hBV : B ≠ V) (hok : sbOk l m a) (hl9 : l.length ≤ 96) (v : Nat) (hv : v ≤ 9999) : Met l0 yJ5_append_c97b9 wsJ5_append_c97b9 rmJ5_append_c97b9 (PcJ [.ref B, .int (nI v)] sz (dC, dI) cy (SB cy B V m a l.length) (va_A (SB cy B V m a l.length) sz) tb) (va_Qr (fun (u : Nat × Nat × (Nat → Int32)) => sbOk (l ++ dg v) u.2.1 u.2.2) (fun u ra t => ra = B ∧ va_P (dC, dI) vwCl (SB cy B u.1 u.2.1 u.2.2 ((l ++ dg v)).length) t.heap ∧ va_D (va_A (SB cy B V m a l.length) sz) (SB cy B u.1 u.2.1 u.2.2 ((l ++ dg v)).length)) (va_A (SB cy B V m a l.length) sz)) 1 200 (va_A (SB cy B V m a l.length) sz) := by
  refine Met.ofW (cc := cJ5_append_c97b9) (maxL := 4) (ret := (some (.object "java/lang/AbstractStringBuilder"))) (by decide) rfl ?_
  intro p e s mt args below meth c s₁ BY hml hv
  obtain ⟨hargs, hsz, hP, hK, hE⟩ := hv
  have hx := BY.exec
  have hb := BY.bytes
  have hr := BY.returns
  have hts := atoms_spec (ws := wsJ5_append_c97b9) BY.pre
  have hown : s.vm.findClass RJ5 = some mt.cls := findClass_of_methodNamed BY.named
  have hlocks := BY.notSynchronized
  have w1 := hts (.fieldLink RJ5 79 "java/lang/AbstractStringBuilder" "count" "I") (List.mem_of_getElem? (i := 1) rfl)
  have w2 := hts (.fieldLink RJ5 15 "java/lang/AbstractStringBuilder" "value" "[B") (List.mem_of_getElem? (i := 2) rfl)
  have hS : va_S (va_A (SB cy B V m a l.length) sz) s.heap s.heap [] := va_S.rf
  have hfr : entryFrame mt args 4 = F0 mt 0 ((lg_sl [.ref B, .int (nI v)] ++ List.replicate (4 - (lg_sl [.ref B, .int (nI v)]).length) Slot.unset).toArray) [] := by rw [hargs]; exact lg_entry_eq _ _ _
  rw [hfr]
  have hl := lv_entry ([.ref B, .int (nI v)]) (n := 4) (Nat.le_of_ble_eq_true rfl)
  generalize (lg_sl [.ref B, .int (nI v)] ++ List.replicate (4 - (lg_sl [.ref B, .int (nI v)]).length) Slot.unset).toArray = ls at hl ⊢
  have hl : lv_has ls 4 [(0, .ref B), (1, .int (nI v))] := hl
  clear hfr hargs BY
  show W p l0 e rmJ5_append_c97b9 s mt args below meth c s.heap [] 0 0 (MQ below (va_Qr (fun (u : Nat × Nat × (Nat → Int32)) => sbOk (l ++ dg v) u.2.1 u.2.2) (fun u ra t => ra = B ∧ va_P (dC, dI) vwCl (SB cy B u.1 u.2.1 u.2.2 ((l ++ dg v)).length) t.heap ∧ va_D (va_A (SB cy B V m a l.length) sz) (SB cy B u.1 u.2.1 u.2.2 ((l ++ dg v)).length)) (va_A (SB cy B V m a l.length) sz)) args s 1 200 (va_A (SB cy B V m a l.length) sz)) (F0 mt 0 ls [])
  have hEn := hE.narrow (B := (va_A (SB cy B V m a l.length) sz)) (fun x h => h)
  subst hsz
  have hD : va_D (va_A (SB cy B V m a l.length) s.heap.size) (SB cy B V m a l.length) := D2 hBV (Or.inl ⟨0, _, rfl⟩) (Or.inl ⟨1, _, rfl⟩)
  have hA : ∀ x : Nat, s.heap.size ≤ x → (va_A (SB cy B V m a l.length) s.heap.size) x := fun x h => Or.inr h
  have hok0 := hok
  obtain ⟨k1, k2, k3, k4, k5⟩ := hok
  refine lv_aload_n hx hb dJ5_append_c97b9_0 rfl (lv_at hl 0 rfl) ?_
  refine va_get (D := (dC, dI)) (ci := 8) (v := .int (nI l.length)) (C := RJ4) (T := TJ4) (N := 4) hx hb hts iJ_J5_append_c97b9_J4 hown hK hP 0 rfl rfl 3 (by decide) w1 (fun _ h9 => h9) rfl dJ5_append_c97b9_1 ?_
  refine lv_istore_n (lv' := [(2, .int (nI l.length)), (0, .ref B), (1, .int (nI v))]) hx hb dJ5_append_c97b9_4 rfl hl (by decide) rfl (fun ls hl => ?_)
  refine lv_iload_n hx hb dJ5_append_c97b9_5 rfl (lv_at hl 0 rfl) ?_
  refine lv_iload_n hx hb dJ5_append_c97b9_6 rfl (lv_at hl 2 rfl) ?_
  refine va_calli (va_runS (As := [.int (nI v)]) (rest := [.int (nI l.length)]) ⟨hx, hb, hml, hown, hts⟩ (mJ6_stringSize_0f7a4 l0 v hv) (va_cwS 1 hts gJ5_append_c97b9_J6_stringSize_0f7a4 rfl rfl rfl dmJ6_stringSize_0f7a4 ⟨Nat.le_of_ble_eq_true rfl, Nat.le_of_ble_eq_true rfl⟩) ⟨T_blind, fun U hU hW => ⟨rfl, trivial⟩⟩ rfl rfl hl.1 rfl (lv_room (Nat.le_of_ble_eq_true rfl)) dJ5_append_c97b9_7 ⟨Nat.le_of_ble_eq_true rfl, Nat.le_of_ble_eq_true rfl⟩) hS (fun _ _ h => h.elim) (fun _ h => h.elim) (fun r0 u0 tS H1 locs ht hvm hw hB hz1 hk1 hS => ?_)
  obtain rfl := hw
  have hP := hP.kept (fun k x hx => hk1 x.1 (hP k x hx).lt (fun z => z))
  generalize H1 = H at hP hS ⊢
  refine lv_iadd hx hb dJ5_append_c97b9_10 ?_
  rw [show (((nI l.length) + (nI (dg v).length)) : Int32) = (nI (l.length + (dg v).length)) from nI_add _ _]
  refine lv_istore_n (lv' := [(3, .int (nI (l.length + (dg v).length))), (2, .int (nI l.length)), (0, .ref B), (1, .int (nI v))]) hx hb dJ5_append_c97b9_11 rfl hl (by decide) rfl (fun ls hl => ?_)
  refine lv_aload_n hx hb dJ5_append_c97b9_12 rfl (lv_at hl 2 rfl) ?_
  refine lv_iload_n hx hb dJ5_append_c97b9_13 rfl (lv_at hl 0 rfl) ?_
  have hz9 := hS.1
  refine va_callv (va_runU (As := [.int (nI (l.length + (dg v).length))]) (rest := []) ⟨hx, hb, hml, hown, hts⟩ (mJ5_ensureCapacityInternal_d00df l0 dC dI cy tb B V m l.length a H.size hBV (l.length + (dg v).length) k2 (by have := dg_len v; omega) k5) (va_cwU 1 hts gJ5_append_c97b9_J5_ensureCapacityInternal_d00df_u100J4 rfl rfl rfl rfl ⟨by decide, by decide, by decide +kernel⟩ ⟨Nat.le_of_ble_eq_true rfl, Nat.le_of_ble_eq_true rfl⟩) ⟨PcJ_blind, (va_recv hK hP (ci := 8) (q0 := 0) rfl rfl), fun U hU hW => ⟨rfl, by rw [hU], by rw [hU]; exact hP, va_K.moved hW.alike hK, hE.go hS hU hW (fun x h => vaA_mono hS.1 h)⟩⟩ rfl rfl hl.1 rfl (lv_room (Nat.le_of_ble_eq_true rfl)) dJ5_append_c97b9_14 ⟨Nat.le_of_ble_eq_true rfl, Nat.le_of_ble_eq_true rfl⟩) hS (fun x _ h => vaA_mono hS.1 h) (fun x h => vaA_mono hS.1 h) (fun u tS H1 locs ht hvm hw hB hz1 hk1 hS => ?_)
  obtain ⟨u1, u2, u3, u4, u5⟩ := hw
  obtain ⟨hP, hD1⟩ := hB
  rw [ht] at hP
  have hBu : B ≠ u.1 := fun e => by have := hD1.1 0 1 _ _ rfl rfl e; omega
  replace hD : va_D (va_A (SB cy B V m a l.length) s.heap.size) (SB cy B u.1 u.2.1 u.2.2 l.length) := ⟨hD1.1, fun k x hx => vaA_mono hz9 (hD1.2 k x hx)⟩
  generalize H1 = H at hP hS ⊢
  refine lv_aload_n hx hb dJ5_append_c97b9_17 rfl (lv_at hl 2 rfl) ?_
  refine va_calli (va_runU (As := []) (rest := []) ⟨hx, hb, hml, hown, hts⟩ (mJ5_isLatin1_aae02 l0 dC dI cy tb B u.1 u.2.1 l.length u.2.2 H.size) (va_cwU 0 hts gJ5_append_c97b9_J5_isLatin1_aae02_u83J4 rfl rfl rfl rfl ⟨by decide, by decide, by decide +kernel⟩ ⟨Nat.le_of_ble_eq_true rfl, Nat.le_of_ble_eq_true rfl⟩) ⟨PcJ_blind, (va_recv hK hP (ci := 8) (q0 := 0) rfl rfl), fun U hU hW => ⟨rfl, by rw [hU], by rw [hU]; exact hP, va_K.moved hW.alike hK, hE.go hS hU hW (fun x h => vaA_SB hS.1 hD h)⟩⟩ rfl rfl hl.1 rfl (lv_room (Nat.le_of_ble_eq_true rfl)) dJ5_append_c97b9_18 ⟨Nat.le_of_ble_eq_true rfl, Nat.le_of_ble_eq_true rfl⟩) hS (fun _ _ h => h.elim) (fun _ h => h.elim) (fun r0 u0 tS H1 locs ht hvm hw hB hz1 hk1 hS => ?_)
  obtain rfl := hw
  have hP := hP.kept (fun k x hx => hk1 x.1 (hP k x hx).lt (fun z => z))
  generalize H1 = H at hP hS ⊢
  refine lv_if_eq (tgt := 37) hx hb dJ5_append_c97b9_21 (by decide) (fun q9 => absurd q9 (by decide)) (fun _ => ?_)
  refine lv_iload_n hx hb dJ5_append_c97b9_24 rfl (lv_at hl 3 rfl) ?_
  refine lv_iload_n hx hb dJ5_append_c97b9_25 rfl (lv_at hl 0 rfl) ?_
  refine lv_aload_n hx hb dJ5_append_c97b9_26 rfl (lv_at hl 2 rfl) ?_
  refine va_get (D := (dC, dI)) (ci := 8) (v := .ref u.1) (C := RJ4) (T := TJ4) (N := 4) hx hb hts iJ_J5_append_c97b9_J4 hown hK hP 0 rfl rfl 0 (by decide) w2 (fun _ h9 => h9) rfl dJ5_append_c97b9_27 ?_
  have hPV := hP.sub (ws' := [(u.1, .inl (cy 4, u.2.1, .inl u.2.2))]) [1] rfl
  have hFc := va_free (wc := [(u.1, .inl (cy 4, u.2.1, .inl u.2.2))]) hD hS hA [1] rfl
  refine va_calli (va_runS (As := [.int (nI v), .int (nI (l.length + (dg v).length)), .ref u.1]) (rest := []) ⟨hx, hb, hml, hown, hts⟩ (mJ6_getChars_ba4f3 l0 dC dI cy tb u.1 u.2.1 l.length u.2.2 H.size v hv u2 u1 u5) (va_cwS 3 hts gJ5_append_c97b9_J6_getChars_ba4f3 rfl rfl rfl dmJ6_getChars_ba4f3 ⟨Nat.le_of_ble_eq_true rfl, Nat.le_of_ble_eq_true rfl⟩) ⟨PcJ_blind, fun U hU hW => ⟨rfl, by rw [hU], by rw [hU]; exact hPV, va_K.moved hW.alike hK, hE.go hS hU hW hFc⟩⟩ rfl rfl hl.1 rfl (lv_room (Nat.le_of_ble_eq_true rfl)) dJ5_append_c97b9_30 ⟨Nat.le_of_ble_eq_true rfl, Nat.le_of_ble_eq_true rfl⟩) hS (fun x _ h => hFc x h) hFc (fun r0 b tS H1 locs ht hvm hw hB hz1 hk1 hS => ?_)
  obtain ⟨rfl, g1, g2, g3⟩ := hw
  obtain ⟨hP1, hD1⟩ := hB
  rw [ht] at hP1
  obtain ⟨hP, hD⟩ := va_join (wr := [(B, .inr (8, [.ref u.1, .int 0, .int 0, .int (nI l.length)]))]) (w1 := [(u.1, .inl (cy 4, u.2.1, .inl b))]) hP hD [1] [0] rfl rfl (by decide) (by decide) hk1 hFc hP1 hD1
  generalize H1 = H at hP hS ⊢
  have hP : va_P (dC, dI) vwCl (SB cy B u.1 u.2.1 b l.length) H := hP
  have hD : va_D (va_A (SB cy B V m a l.length) s.heap.size) (SB cy B u.1 u.2.1 b l.length) := hD
  refine lv_pop hx hb dJ5_append_c97b9_33 rfl ?_
  refine lv_goto (tgt := 48) hx hb dJ5_append_c97b9_34 (by decide) ?_
  refine lv_aload_n hx hb dJ5_append_c97b9_48 rfl (lv_at hl 2 rfl) ?_
  refine lv_iload_n hx hb dJ5_append_c97b9_49 rfl (lv_at hl 0 rfl) ?_
  refine va_put (D := (dC, dI)) (ci := 8) (v := .int (nI (l.length + (dg v).length))) (ty := tyJ4 3) (C := RJ4) (T := TJ4) (N := 4) hx hb hts iJ_J5_append_c97b9_J4 tyJ4 tyJ4_ok nmJ4 hown hK hP hD hS 0 rfl rfl 3 (by decide) w1 (fun _ h9 => h9) rfl (tyJ4_ok 3 (by decide)) rfl rfl (Nat.le_of_ble_eq_true rfl) dJ5_append_c97b9_50 (fun H locs hP hD hS => ?_)
  rw [show l.length + (dg v).length = (l ++ dg v).length from by rw [List.length_append]] at hP hD
  have hP : va_P (dC, dI) vwCl (SB cy B u.1 u.2.1 b (l ++ dg v).length) H := hP
  have hD : va_D (va_A (SB cy B V m a l.length) s.heap.size) (SB cy B u.1 u.2.1 b (l ++ dg v).length) := hD
  have hok2 : sbOk (l ++ dg v) u.2.1 b := sb_app hok0 u1 u2 u4 g1 g2 (dg_lt hv) g3
  refine lv_aload_n hx hb dJ5_append_c97b9_53 rfl (lv_at hl 2 rfl) ?_
  refine W.widen (k := 1) (n := 200) (Nat.le_of_ble_eq_true rfl) (Nat.le_of_ble_eq_true rfl) ?_
  exact W.aret hx hb hr (Or.inl ⟨_, rfl⟩) (Or.inr ⟨_, rfl⟩) (fun t ht _ => ⟨⟨(u.1, u.2.1, b), B, rfl, hok2, rfl, by rw [ht]; exact hP, hD⟩, hS.F ht⟩) hS.2.2 dJ5_append_c97b9_54 hlocks
theorem dmJ4_append_bf812 : yJ4_append_bf812.cls = RJ4 ∧ yJ4_append_bf812.cls ≠ "java/lang/invoke/MethodHandle" ∧ yJ4_append_bf812.cls ≠ "java/lang/invoke/VarHandle" ∧ (parseMethodDescriptor yJ4_append_bf812.desc).map (fun d => d.parameters.length) = some 1 := by decide +kernel
abbrev rmJ4_append_bf812 : Room := { frames := 5, cells := 1, slots := 200, locals := 340 }
set_option maxHeartbeats 8000000 in
set_option maxRecDepth 100000 in
theorem mJ4_append_bf812 (l0 : Launch) (dC : Nat → ClassId) (dI : Nat → Nat → Nat) (cy : Nat → ClassId) (tb : Nat × Nat) (B V m : Nat) (a : Nat → Int32) (l : List Nat) (sz : Nat) (hBV : B ≠ V) (hok : sbOk l m a) (hl9 : l.length ≤ 96) (v : Nat) (hv : v ≤ 9999) : Met l0 yJ4_append_bf812 wsJ4_append_bf812 rmJ4_append_bf812 (PcJ [.ref B, .int (nI v)] sz (dC, dI) cy (SB cy B V m a l.length) (va_A (SB cy B V m a l.length) sz) tb) (va_Qr (fun (u : Nat × Nat × (Nat → Int32)) => sbOk (l ++ dg v) u.2.1 u.2.2) (fun u ra t => ra = B ∧ va_P (dC, dI) vwCl (SB cy B u.1 u.2.1 u.2.2 ((l ++ dg v)).length) t.heap ∧ va_D (va_A (SB cy B V m a l.length) sz) (SB cy B u.1 u.2.1 u.2.2 ((l ++ dg v)).length)) (va_A (SB cy B V m a l.length) sz)) 1 200 (va_A (SB cy B V m a l.length) sz) := by
  refine Met.ofW (cc := cJ4_append_bf812) (maxL := 2) (ret := (some (.object "java/lang/StringBuilder"))) (by decide) rfl ?_
  intro p e s mt args below meth c s₁ BY hml hv
  obtain ⟨hargs, hsz, hP, hK, hE⟩ := hv
  have hx := BY.exec
  have hb := BY.bytes
  have hr := BY.returns
  have hts := atoms_spec (ws := wsJ4_append_bf812) BY.pre
  have hown : s.vm.findClass RJ4 = some mt.cls := findClass_of_methodNamed BY.named
  have hlocks := BY.notSynchronized
  have hS : va_S (va_A (SB cy B V m a l.length) sz) s.heap s.heap [] := va_S.rf
  have hfr : entryFrame mt args 2 = F0 mt 0 ((lg_sl [.ref B, .int (nI v)] ++ List.replicate (2 - (lg_sl [.ref B, .int (nI v)]).length) Slot.unset).toArray) [] := by rw [hargs]; exact lg_entry_eq _ _ _
  rw [hfr]
  have hl := lv_entry ([.ref B, .int (nI v)]) (n := 2) (Nat.le_of_ble_eq_true rfl)
  generalize (lg_sl [.ref B, .int (nI v)] ++ List.replicate (2 - (lg_sl [.ref B, .int (nI v)]).length) Slot.unset).toArray = ls at hl ⊢
  have hl : lv_has ls 2 [(0, .ref B), (1, .int (nI v))] := hl
  clear hfr hargs BY
  show W p l0 e rmJ4_append_bf812 s mt args below meth c s.heap [] 0 0 (MQ below (va_Qr (fun (u : Nat × Nat × (Nat → Int32)) => sbOk (l ++ dg v) u.2.1 u.2.2) (fun u ra t => ra = B ∧ va_P (dC, dI) vwCl (SB cy B u.1 u.2.1 u.2.2 ((l ++ dg v)).length) t.heap ∧ va_D (va_A (SB cy B V m a l.length) sz) (SB cy B u.1 u.2.1 u.2.2 ((l ++ dg v)).length)) (va_A (SB cy B V m a l.length) sz)) args s 1 200 (va_A (SB cy B V m a l.length) sz)) (F0 mt 0 ls [])
  have hEn := hE.narrow (B := (va_A (SB cy B V m a l.length) sz)) (fun x h => h)
  subst hsz
  have hD : va_D (va_A (SB cy B V m a l.length) s.heap.size) (SB cy B V m a l.length) := D2 hBV (Or.inl ⟨0, _, rfl⟩) (Or.inl ⟨1, _, rfl⟩)
  have hA : ∀ x : Nat, s.heap.size ≤ x → (va_A (SB cy B V m a l.length) s.heap.size) x := fun x h => Or.inr h
  have hok0 := hok
  obtain ⟨k1, k2, k3, k4, k5⟩ := hok
  refine lv_aload_n hx hb dJ4_append_bf812_0 rfl (lv_at hl 0 rfl) ?_
  refine lv_iload_n hx hb dJ4_append_bf812_1 rfl (lv_at hl 1 rfl) ?_
  refine va_callr (va_runSU (C := RJ4) ((hK.1 8 _ rfl).2) (As := [.int (nI v)]) (rest := []) ⟨hx, hb, hml, hown, hts⟩ (mJ5_append_c97b9 l0 dC dI cy tb B V m a l s.heap.size hBV hok0 hl9 v hv) (va_cwSU 1 hts gJ4_append_bf812_J5_append_c97b9_s53 rfl rfl rfl ⟨by decide, by decide +kernel⟩ ⟨Nat.le_of_ble_eq_true rfl, Nat.le_of_ble_eq_true rfl⟩) ⟨PcJ_blind, (va_recv hK hP (ci := 8) (q0 := 0) rfl rfl), fun U hU hW => ⟨rfl, by rw [hU], by rw [hU]; exact hP, va_K.moved hW.alike hK, hE.go hS hU hW (fun x h => vaA_mono hS.1 h)⟩⟩ rfl rfl hl.1 rfl (lv_room (Nat.le_of_ble_eq_true rfl)) dJ4_append_bf812_2 ⟨Nat.le_of_ble_eq_true rfl, Nat.le_of_ble_eq_true rfl⟩) hS (fun x _ h => vaA_mono hS.1 h) (fun x h => vaA_mono hS.1 h) (fun u ra tS H1 locs ht hvm hw hB hz1 hk1 hS => ?_)
  obtain ⟨rfl, hP, hD1⟩ := hB
  rw [ht] at hP
  have hok2 := hw
  replace hD := hD1
  refine lv_pop hx hb dJ4_append_bf812_5 rfl ?_
  refine lv_aload_n hx hb dJ4_append_bf812_6 rfl (lv_at hl 0 rfl) ?_
  refine W.widen (k := 1) (n := 200) (Nat.le_of_ble_eq_true rfl) (Nat.le_of_ble_eq_true rfl) ?_
  exact W.aret hx hb hr (Or.inl ⟨_, rfl⟩) (Or.inr ⟨_, rfl⟩) (fun t ht _ => ⟨⟨u, _, rfl, hok2, rfl, by rw [ht]; exact hP, hD⟩, hS.F ht⟩) hS.2.2 dJ4_append_bf812_7 hlocks
