theorem D3 {A : Nat → Prop} {x y z : Nat} {e f g : va_E} (h : x ≠ y) (h2 : x ≠ z) (h3 : y ≠ z) (hx : A x) (hy : A y) (hz : A z) : va_D A [(x, e), (y, f), (z, g)] := by
  have h0 := va_D.app (D1 (e := e) hx) (D2 (e := f) (f := g) h3 hy hz) (fun i j p q hi hj e0 => ?_)
  · exact h0
  · match i, hi, j, hj with
    | 0, hi, 0, hj => cases hi; cases hj; exact h e0
    | 0, hi, 1, hj => cases hi; cases hj; exact h2 e0
    | i + 1, hi, _, _ => simp at hi
    | 0, _, j + 2, hj => simp at hj
theorem dmJ0_init_db425 : yJ0_init_db425.cls = RJ0 ∧ yJ0_init_db425.cls ≠ "java/lang/invoke/MethodHandle" ∧ yJ0_init_db425.cls ≠ "java/lang/invoke/VarHandle" ∧ (parseMethodDescriptor yJ0_init_db425.desc).map (fun d => d.parameters.length) = some 2 := by decide +kernel
abbrev rmJ0_init_db425 : Room := { frames := 4, cells := 1, slots := 200, locals := 200 }
theorem iJ_J0_init_db425_J0 : ∀ w ∈ wsJ00, w ∈ wsJ0_init_db425 := fun w h => List.mem_cons_of_mem _ (List.mem_append_left _ (List.mem_append_right _ (h)))
set_option maxHeartbeats 8000000 in
set_option maxRecDepth 100000 in
theorem mJ0_init_db425 (l0 : Launch) (dC : Nat → ClassId) (dI : Nat → Nat → Nat) (cy : Nat → ClassId) (tb : Nat × Nat) (q B V m n : Nat) (a : Nat → Int32) (sz : Nat) (hqB : q ≠ B) (hqV : q ≠ V) (hBV : B ≠ V) (hnm : n ≤ m) (hm : m ≤ 200) (hf : sb_Fit a) : Met l0 yJ0_init_db425 wsJ0_init_db425 rmJ0_init_db425 (PcJ [.ref q, .ref B, .null] sz (dC, dI) cy [(q, .inr (7, [.null, .int 0, .int 0, .int 0])), (B, .inr (8, [.ref V, .int 0, .int 0, .int (nI n)])), (V, .inl (cy 4, m, .inl a))] (va_A [(q, .inr (7, [.null, .int 0, .int 0, .int 0])), (B, .inr (8, [.ref V, .int 0, .int 0, .int (nI n)])), (V, .inl (cy 4, m, .inl a))] sz) tb) (va_Qv (fun (u : Nat × (Nat → Int32)) => (∀ i, i < n → u.2 i = a i) ∧ sz ≤ u.1) (fun u t => va_P (dC, dI) vwCl (ST cy q u.1 n u.2) t.heap ∧ va_D (va_A [(q, .inr (7, [.null, .int 0, .int 0, .int 0])), (B, .inr (8, [.ref V, .int 0, .int 0, .int (nI n)])), (V, .inl (cy 4, m, .inl a))] sz) (ST cy q u.1 n u.2)) (va_A [(q, .inr (7, [.null, .int 0, .int 0, .int 0])), (B, .inr (8, [.ref V, .int 0, .int 0, .int (nI n)])), (V, .inl (cy 4, m, .inl a))] sz)) 1 200 (va_A [(q, .inr (7, [.null, .int 0, .int 0, .int 0])), (B, .inr (8, [.ref V, .int 0, .int 0, .int (nI n)])), (V, .inl (cy 4, m, .inl a))] sz) := by
  refine Met.ofW (cc := cJ0_init_db425) (maxL := 5) (ret := none) (by decide) rfl ?_
  intro p e s mt args below meth c s₁ BY hml hv
  obtain ⟨hargs, hsz, hP, hK, hE⟩ := hv
  have hx := BY.exec
  have hb := BY.bytes
  have hr := BY.returns
  have hts := atoms_spec (ws := wsJ0_init_db425) BY.pre
  have hown : s.vm.findClass RJ0 = some mt.cls := findClass_of_methodNamed BY.named
  have hlocks := BY.notSynchronized
  have hin : meth.name = "<init>" := (name_of_methodNamed BY.named BY.method).1
  have w1 := hts (.methodLink RJ0 1 objectInit) (List.mem_of_getElem? (i := 1) rfl)
  have w2 := hts (.instanceMethod objectInit) (List.mem_of_getElem? (i := 2) rfl)
  have w3 := hts (.code objectInit ⟨#[0xb1]⟩ 1 none) (List.mem_of_getElem? (i := 3) rfl)
  have w4 := hts (.fieldLink RJ0 15 "java/lang/String" "coder" "B") (List.mem_of_getElem? (i := 4) rfl)
  have w5 := hts (.fieldLink RJ0 9 "java/lang/String" "value" "[B") (List.mem_of_getElem? (i := 5) rfl)
  have hS : va_S (va_A [(q, .inr (7, [.null, .int 0, .int 0, .int 0])), (B, .inr (8, [.ref V, .int 0, .int 0, .int (nI n)])), (V, .inl (cy 4, m, .inl a))] sz) s.heap s.heap [] := va_S.rf
  have hfr : entryFrame mt args 5 = F0 mt 0 ((lg_sl [.ref q, .ref B, .null] ++ List.replicate (5 - (lg_sl [.ref q, .ref B, .null]).length) Slot.unset).toArray) [] := by rw [hargs]; exact lg_entry_eq _ _ _
  rw [hfr]
  have hl := lv_entry ([.ref q, .ref B, .null]) (n := 5) (Nat.le_of_ble_eq_true rfl)
  generalize (lg_sl [.ref q, .ref B, .null] ++ List.replicate (5 - (lg_sl [.ref q, .ref B, .null]).length) Slot.unset).toArray = ls at hl ⊢
  have hl : lv_has ls 5 [(0, .ref q), (1, .ref B), (2, .null)] := hl
  clear hfr hargs BY
  show W p l0 e rmJ0_init_db425 s mt args below meth c s.heap [] 0 0 (MQ below (va_Qv (fun (u : Nat × (Nat → Int32)) => (∀ i, i < n → u.2 i = a i) ∧ sz ≤ u.1) (fun u t => va_P (dC, dI) vwCl (ST cy q u.1 n u.2) t.heap ∧ va_D (va_A [(q, .inr (7, [.null, .int 0, .int 0, .int 0])), (B, .inr (8, [.ref V, .int 0, .int 0, .int (nI n)])), (V, .inl (cy 4, m, .inl a))] sz) (ST cy q u.1 n u.2)) (va_A [(q, .inr (7, [.null, .int 0, .int 0, .int 0])), (B, .inr (8, [.ref V, .int 0, .int 0, .int (nI n)])), (V, .inl (cy 4, m, .inl a))] sz)) args s 1 200 (va_A [(q, .inr (7, [.null, .int 0, .int 0, .int 0])), (B, .inr (8, [.ref V, .int 0, .int 0, .int (nI n)])), (V, .inl (cy 4, m, .inl a))] sz)) (F0 mt 0 ls [])
  have hEn := hE.narrow (B := (va_A [(q, .inr (7, [.null, .int 0, .int 0, .int 0])), (B, .inr (8, [.ref V, .int 0, .int 0, .int (nI n)])), (V, .inl (cy 4, m, .inl a))] sz)) (fun x h => h)
  subst hsz
  have hD : va_D (va_A [(q, .inr (7, [.null, .int 0, .int 0, .int 0])), (B, .inr (8, [.ref V, .int 0, .int 0, .int (nI n)])), (V, .inl (cy 4, m, .inl a))] s.heap.size) [(q, .inr (7, [.null, .int 0, .int 0, .int 0])), (B, .inr (8, [.ref V, .int 0, .int 0, .int (nI n)])), (V, .inl (cy 4, m, .inl a))] := D3 hqB hqV hBV (Or.inl ⟨0, _, rfl⟩) (Or.inl ⟨1, _, rfl⟩) (Or.inl ⟨2, _, rfl⟩)
  have hA : ∀ x : Nat, s.heap.size ≤ x → (va_A [(q, .inr (7, [.null, .int 0, .int 0, .int 0])), (B, .inr (8, [.ref V, .int 0, .int 0, .int (nI n)])), (V, .inl (cy 4, m, .inl a))] s.heap.size) x := fun x h => Or.inr h
  refine lv_aload_n hx hb dJ0_init_db425_0 rfl (lv_at hl 0 rfl) ?_
  refine W.objInit hx hb hown w1 w2 w3 rfl (by rw [hml]; exact hl.1) rfl dJ0_init_db425_1 (Nat.le_of_ble_eq_true rfl) (Nat.le_of_ble_eq_true rfl) ?_
  refine W.eq (g2 := F0 mt 4 ls []) rfl ?_
  refine lv_aload_n hx hb dJ0_init_db425_4 rfl (lv_at hl 1 rfl) ?_
  have hPB := hP.sub (ws' := SB cy B V m a n) [1, 2] rfl
  refine va_callr (va_runU (As := []) (rest := []) ⟨hx, hb, hml, hown, hts⟩ (mJ5_getValue_6d5f1 l0 dC dI cy tb B V m n a s.heap.size) (va_cwU 0 hts gJ0_init_db425_J5_getValue_6d5f1_u552J4 rfl rfl rfl rfl ⟨by decide, by decide, by decide +kernel⟩ ⟨Nat.le_of_ble_eq_true rfl, Nat.le_of_ble_eq_true rfl⟩) ⟨PcJ_blind, va_recv hK hPB (ci := 8) (q0 := 0) rfl rfl, fun U hU hW => ⟨rfl, by rw [hU], by rw [hU]; exact hPB, va_K.moved hW.alike hK, hE.go hS hU hW (fun x h => vaA_sub (w := [(q, .inr (7, [.null, .int 0, .int 0, .int 0])), (B, .inr (8, [.ref V, .int 0, .int 0, .int (nI n)])), (V, .inl (cy 4, m, .inl a))]) hS.1 [1, 2] rfl h)⟩⟩ rfl rfl hl.1 rfl (lv_room (Nat.le_of_ble_eq_true rfl)) dJ0_init_db425_5 ⟨Nat.le_of_ble_eq_true rfl, Nat.le_of_ble_eq_true rfl⟩) hS (fun _ _ h => h.elim) (fun _ h => h.elim) (fun u0 ra tS H1 locs ht hvm hw hB hz1 hk1 hS => ?_)
  rw [show ra = V from hB]
  have hP := hP.kept (fun k x hx => hk1 x.1 (hP k x hx).lt (fun z => z))
  generalize H1 = H at hP hS ⊢
  refine lv_astore_n (lv' := [(3, .ref V), (0, .ref q), (1, .ref B), (2, .null)]) hx hb dJ0_init_db425_8 rfl hl (by decide) rfl (fun ls hl => ?_)
  refine lv_aload_n hx hb dJ0_init_db425_9 rfl (lv_at hl 2 rfl) ?_
  have hPB := hP.sub (ws' := SB cy B V m a n) [1, 2] rfl
  refine va_calli (va_runU (As := []) (rest := []) ⟨hx, hb, hml, hown, hts⟩ (mJ4_length_8abf5 l0 dC dI cy tb B V m n a H.size) (va_cwO 0 hts gJ0_init_db425_J4_length_8abf5_u549J4 rfl rfl rfl (b0 := cJ5_length_8abf5) (m0 := 1) (r0 := some .int) (List.mem_of_getElem? (i := 25) rfl) ⟨by decide, by decide, by decide +kernel⟩ ⟨Nat.le_of_ble_eq_true rfl, Nat.le_of_ble_eq_true rfl⟩) ⟨PcJ_blind, va_recv hK hPB (ci := 8) (q0 := 0) rfl rfl, fun U hU hW => ⟨rfl, by rw [hU], by rw [hU]; exact hPB, va_K.moved hW.alike hK, hE.go hS hU hW (fun x h => vaA_sub (w := [(q, .inr (7, [.null, .int 0, .int 0, .int 0])), (B, .inr (8, [.ref V, .int 0, .int 0, .int (nI n)])), (V, .inl (cy 4, m, .inl a))]) hS.1 [1, 2] rfl h)⟩⟩ rfl rfl hl.1 rfl (lv_room (Nat.le_of_ble_eq_true rfl)) dJ0_init_db425_10 ⟨Nat.le_of_ble_eq_true rfl, Nat.le_of_ble_eq_true rfl⟩) hS (fun _ _ h => h.elim) (fun _ h => h.elim) (fun r0 u0 tS H1 locs ht hvm hw hB hz1 hk1 hS => ?_)
  obtain rfl := hw
  have hP := hP.kept (fun k x hx => hk1 x.1 (hP k x hx).lt (fun z => z))
  generalize H1 = H at hP hS ⊢
  refine lv_istore (lv' := [(4, .int (nI n)), (3, .ref V), (0, .ref q), (1, .ref B), (2, .null)]) hx hb dJ0_init_db425_13 hl (by decide) rfl (fun ls hl => ?_)
  refine lv_aload_n hx hb dJ0_init_db425_15 rfl (lv_at hl 3 rfl) ?_
  have hPB := hP.sub (ws' := SB cy B V m a n) [1, 2] rfl
  refine va_calli (va_runU (As := []) (rest := []) ⟨hx, hb, hml, hown, hts⟩ (mJ5_isLatin1_aae02 l0 dC dI cy tb B V m n a H.size) (va_cwU 0 hts gJ0_init_db425_J5_isLatin1_aae02_u1047J4 rfl rfl rfl rfl ⟨by decide, by decide, by decide +kernel⟩ ⟨Nat.le_of_ble_eq_true rfl, Nat.le_of_ble_eq_true rfl⟩) ⟨PcJ_blind, va_recv hK hPB (ci := 8) (q0 := 0) rfl rfl, fun U hU hW => ⟨rfl, by rw [hU], by rw [hU]; exact hPB, va_K.moved hW.alike hK, hE.go hS hU hW (fun x h => vaA_sub (w := [(q, .inr (7, [.null, .int 0, .int 0, .int 0])), (B, .inr (8, [.ref V, .int 0, .int 0, .int (nI n)])), (V, .inl (cy 4, m, .inl a))]) hS.1 [1, 2] rfl h)⟩⟩ rfl rfl hl.1 rfl (lv_room (Nat.le_of_ble_eq_true rfl)) dJ0_init_db425_16 ⟨Nat.le_of_ble_eq_true rfl, Nat.le_of_ble_eq_true rfl⟩) hS (fun _ _ h => h.elim) (fun _ h => h.elim) (fun r0 u0 tS H1 locs ht hvm hw hB hz1 hk1 hS => ?_)
  obtain rfl := hw
  have hP := hP.kept (fun k x hx => hk1 x.1 (hP k x hx).lt (fun z => z))
  generalize H1 = H at hP hS ⊢
  refine lv_if_eq (tgt := 41) hx hb dJ0_init_db425_19 (by decide) (fun q9 => absurd q9 (by decide)) (fun _ => ?_)
  refine lv_aload_n hx hb dJ0_init_db425_22 rfl (lv_at hl 2 rfl) ?_
  refine lv_iconst (v := 0) hx hb dJ0_init_db425_23 (by decide) ?_
  refine va_putF (D := (dC, dI)) (ci := 7) (v := .int 0) (ty := tyJ0 1) (C := RJ0) (T := TJ0) (N := 4) hx hb hts iJ_J0_init_db425_J0 tyJ0 tyJ0_ok nmJ0 hown hK hP hD hS 0 rfl rfl 1 (by decide) w4 (fun _ h9 => h9) rfl hin rfl (tyJ0_ok 1 (by decide)) rfl rfl (Nat.le_of_ble_eq_true rfl) dJ0_init_db425_24 (fun H locs hP hD hS => ?_)
  have hP : va_P (dC, dI) vwCl [(q, .inr (7, [.null, .int 0, .int 0, .int 0])), (B, .inr (8, [.ref V, .int 0, .int 0, .int (nI n)])), (V, .inl (cy 4, m, .inl a))] H := hP
  have hD : va_D (va_A [(q, .inr (7, [.null, .int 0, .int 0, .int 0])), (B, .inr (8, [.ref V, .int 0, .int 0, .int (nI n)])), (V, .inl (cy 4, m, .inl a))] s.heap.size) [(q, .inr (7, [.null, .int 0, .int 0, .int 0])), (B, .inr (8, [.ref V, .int 0, .int 0, .int (nI n)])), (V, .inl (cy 4, m, .inl a))] := hD
  refine lv_aload_n hx hb dJ0_init_db425_27 rfl (lv_at hl 2 rfl) ?_
  refine lv_aload_n hx hb dJ0_init_db425_28 rfl (lv_at hl 1 rfl) ?_
  refine lv_iconst (v := 0) hx hb dJ0_init_db425_29 (by decide) ?_
  refine lv_iload hx hb dJ0_init_db425_30 (lv_at hl 0 rfl) ?_
  have hPV := hP.sub (ws' := [(V, .inl (cy 4, m, .inl a))]) [2] rfl
  have hFc := va_free (wc := [(V, .inl (cy 4, m, .inl a))]) hD hS hA [2] rfl
  have hz8 := hS.1
  refine va_callr (va_runS (As := [.ref V, .int 0, .int (nI n)]) (rest := [.ref q]) ⟨hx, hb, hml, hown, hts⟩ (mJ7_copyOfRange_39247 l0 dC dI cy tb V m n a H.size hnm hm hf) (va_cwS 3 hts gJ0_init_db425_J7_copyOfRange_39247 rfl rfl rfl dmJ7_copyOfRange_39247 ⟨Nat.le_of_ble_eq_true rfl, Nat.le_of_ble_eq_true rfl⟩) ⟨PcJ_blind, fun U hU hW => ⟨rfl, by rw [hU], by rw [hU]; exact hPV, va_K.moved hW.alike hK, hE.go hS hU hW hFc⟩⟩ rfl rfl hl.1 rfl (lv_room (Nat.le_of_ble_eq_true rfl)) dJ0_init_db425_32 ⟨Nat.le_of_ble_eq_true rfl, Nat.le_of_ble_eq_true rfl⟩) hS (fun x _ h => hFc x h) hFc (fun b Wq tS H1 locs ht hvm hw hB hz1 hk1 hS => ?_)
  obtain ⟨hP1, hD1⟩ := hB
  rw [ht] at hP1
  have hWz : s.heap.size ≤ Wq := by
      rcases hD1.2 1 _ rfl with ⟨k, e, h⟩ | h
      · match k, h with
        | 0, h => cases h; exact absurd (hD1.1 0 1 _ _ rfl rfl rfl) (by decide)
        | k + 1, h => simp at h
      · exact Nat.le_trans hz8 h
  obtain ⟨hP, hD⟩ := va_join (wr := [(q, .inr (7, [.null, .int 0, .int 0, .int 0])), (B, .inr (8, [.ref V, .int 0, .int 0, .int (nI n)]))]) (w1 := [(V, .inl (cy 4, m, .inl a)), (Wq, .inl (cy 4, n, .inl b))]) hP hD [2] [0, 1] rfl rfl (by decide) (by decide) hk1 hFc hP1 hD1
  generalize H1 = H at hP hS ⊢
  have hP : va_P (dC, dI) vwCl [(q, .inr (7, [.null, .int 0, .int 0, .int 0])), (B, .inr (8, [.ref V, .int 0, .int 0, .int (nI n)])), (V, .inl (cy 4, m, .inl a)), (Wq, .inl (cy 4, n, .inl b))] H := hP
  have hD : va_D (va_A [(q, .inr (7, [.null, .int 0, .int 0, .int 0])), (B, .inr (8, [.ref V, .int 0, .int 0, .int (nI n)])), (V, .inl (cy 4, m, .inl a))] s.heap.size) [(q, .inr (7, [.null, .int 0, .int 0, .int 0])), (B, .inr (8, [.ref V, .int 0, .int 0, .int (nI n)])), (V, .inl (cy 4, m, .inl a)), (Wq, .inl (cy 4, n, .inl b))] := hD
  refine va_putF (D := (dC, dI)) (ci := 7) (v := .ref Wq) (ty := tyJ0 0) (C := RJ0) (T := TJ0) (N := 4) hx hb hts iJ_J0_init_db425_J0 tyJ0 tyJ0_ok nmJ0 hown hK hP hD hS 0 rfl rfl 0 (by decide) w5 (fun _ h9 => h9) rfl hin rfl (tyJ0_ok 0 (by decide)) rfl rfl (Nat.le_of_ble_eq_true rfl) dJ0_init_db425_35 (fun H locs hP hD hS => ?_)
  have hP : va_P (dC, dI) vwCl [(q, .inr (7, [.ref Wq, .int 0, .int 0, .int 0])), (B, .inr (8, [.ref V, .int 0, .int 0, .int (nI n)])), (V, .inl (cy 4, m, .inl a)), (Wq, .inl (cy 4, n, .inl b))] H := hP
  have hD : va_D (va_A [(q, .inr (7, [.null, .int 0, .int 0, .int 0])), (B, .inr (8, [.ref V, .int 0, .int 0, .int (nI n)])), (V, .inl (cy 4, m, .inl a))] s.heap.size) [(q, .inr (7, [.ref Wq, .int 0, .int 0, .int 0])), (B, .inr (8, [.ref V, .int 0, .int 0, .int (nI n)])), (V, .inl (cy 4, m, .inl a)), (Wq, .inl (cy 4, n, .inl b))] := hD
  refine lv_goto (tgt := 97) hx hb dJ0_init_db425_38 (by decide) ?_
  refine W.widen (k := 1) (n := 200) (Nat.le_of_ble_eq_true rfl) (Nat.le_of_ble_eq_true rfl) ?_
  exact W.vret hx hb hr (fun t ht _ => ⟨⟨(Wq, b), rfl, ⟨hw, hWz⟩, by rw [ht]; exact hP.sub [0, 3] rfl, hD.sub [0, 3] (by decide) rfl⟩, hS.F ht⟩) hS.2.2 dJ0_init_db425_97 hlocks
theorem dmJ0_init_81219 : yJ0_init_81219.cls = RJ0 ∧ yJ0_init_81219.cls ≠ "java/lang/invoke/MethodHandle" ∧ yJ0_init_81219.cls ≠ "java/lang/invoke/VarHandle" ∧ (parseMethodDescriptor yJ0_init_81219.desc).map (fun d => d.parameters.length) = some 1 := by decide +kernel
abbrev rmJ0_init_81219 : Room := { frames := 5, cells := 1, slots := 200, locals := 240 }
set_option maxHeartbeats 8000000 in
set_option maxRecDepth 100000 in
theorem mJ0_init_81219 (l0 : Launch) (dC : Nat → ClassId) (dI : Nat → Nat → Nat) (cy : Nat → ClassId) (tb : Nat × Nat) (q B V m n : Nat) (a : Nat → Int32) (sz : Nat) (hqB : q ≠ B) (hqV : q ≠ V) (hBV : B ≠ V) (hnm : n ≤ m) (hm : m ≤ 200) (hf : sb_Fit a) : Met l0 yJ0_init_81219 wsJ0_init_81219 rmJ0_init_81219 (PcJ [.ref q, .ref B] sz (dC, dI) cy [(q, .inr (7, [.null, .int 0, .int 0, .int 0])), (B, .inr (8, [.ref V, .int 0, .int 0, .int (nI n)])), (V, .inl (cy 4, m, .inl a))] (va_A [(q, .inr (7, [.null, .int 0, .int 0, .int 0])), (B, .inr (8, [.ref V, .int 0, .int 0, .int (nI n)])), (V, .inl (cy 4, m, .inl a))] sz) tb) (va_Qv (fun (u : Nat × (Nat → Int32)) => (∀ i, i < n → u.2 i = a i) ∧ sz ≤ u.1) (fun u t => va_P (dC, dI) vwCl (ST cy q u.1 n u.2) t.heap ∧ va_D (va_A [(q, .inr (7, [.null, .int 0, .int 0, .int 0])), (B, .inr (8, [.ref V, .int 0, .int 0, .int (nI n)])), (V, .inl (cy 4, m, .inl a))] sz) (ST cy q u.1 n u.2)) (va_A [(q, .inr (7, [.null, .int 0, .int 0, .int 0])), (B, .inr (8, [.ref V, .int 0, .int 0, .int (nI n)])), (V, .inl (cy 4, m, .inl a))] sz)) 1 200 (va_A [(q, .inr (7, [.null, .int 0, .int 0, .int 0])), (B, .inr (8, [.ref V, .int 0, .int 0, .int (nI n)])), (V, .inl (cy 4, m, .inl a))] sz) := by
  refine Met.ofW (cc := cJ0_init_81219) (maxL := 2) (ret := none) (by decide) rfl ?_
  intro p e s mt args below meth c s₁ BY hml hv
  obtain ⟨hargs, hsz, hP, hK, hE⟩ := hv
  have hx := BY.exec
  have hb := BY.bytes
  have hr := BY.returns
  have hts := atoms_spec (ws := wsJ0_init_81219) BY.pre
  have hown : s.vm.findClass RJ0 = some mt.cls := findClass_of_methodNamed BY.named
  have hlocks := BY.notSynchronized
  have w1 := hts (.methodLink RJ0 489 yJ0_init_db425) (List.mem_of_getElem? (i := 1) rfl)
  have w2 := hts (.instanceMethod yJ0_init_db425) (List.mem_of_getElem? (i := 2) rfl)
  have w3 := hts (.initialized RJ0) (List.mem_of_getElem? (i := 3) rfl)
  have hS : va_S (va_A [(q, .inr (7, [.null, .int 0, .int 0, .int 0])), (B, .inr (8, [.ref V, .int 0, .int 0, .int (nI n)])), (V, .inl (cy 4, m, .inl a))] sz) s.heap s.heap [] := va_S.rf
  have hfr : entryFrame mt args 2 = F0 mt 0 ((lg_sl [.ref q, .ref B] ++ List.replicate (2 - (lg_sl [.ref q, .ref B]).length) Slot.unset).toArray) [] := by rw [hargs]; exact lg_entry_eq _ _ _
  rw [hfr]
  have hl := lv_entry ([.ref q, .ref B]) (n := 2) (Nat.le_of_ble_eq_true rfl)
  generalize (lg_sl [.ref q, .ref B] ++ List.replicate (2 - (lg_sl [.ref q, .ref B]).length) Slot.unset).toArray = ls at hl ⊢
  have hl : lv_has ls 2 [(0, .ref q), (1, .ref B)] := hl
  clear hfr hargs BY
  show W p l0 e rmJ0_init_81219 s mt args below meth c s.heap [] 0 0 (MQ below (va_Qv (fun (u : Nat × (Nat → Int32)) => (∀ i, i < n → u.2 i = a i) ∧ sz ≤ u.1) (fun u t => va_P (dC, dI) vwCl (ST cy q u.1 n u.2) t.heap ∧ va_D (va_A [(q, .inr (7, [.null, .int 0, .int 0, .int 0])), (B, .inr (8, [.ref V, .int 0, .int 0, .int (nI n)])), (V, .inl (cy 4, m, .inl a))] sz) (ST cy q u.1 n u.2)) (va_A [(q, .inr (7, [.null, .int 0, .int 0, .int 0])), (B, .inr (8, [.ref V, .int 0, .int 0, .int (nI n)])), (V, .inl (cy 4, m, .inl a))] sz)) args s 1 200 (va_A [(q, .inr (7, [.null, .int 0, .int 0, .int 0])), (B, .inr (8, [.ref V, .int 0, .int 0, .int (nI n)])), (V, .inl (cy 4, m, .inl a))] sz)) (F0 mt 0 ls [])
  have hEn := hE.narrow (B := (va_A [(q, .inr (7, [.null, .int 0, .int 0, .int 0])), (B, .inr (8, [.ref V, .int 0, .int 0, .int (nI n)])), (V, .inl (cy 4, m, .inl a))] sz)) (fun x h => h)
  subst hsz
  have hD : va_D (va_A [(q, .inr (7, [.null, .int 0, .int 0, .int 0])), (B, .inr (8, [.ref V, .int 0, .int 0, .int (nI n)])), (V, .inl (cy 4, m, .inl a))] s.heap.size) [(q, .inr (7, [.null, .int 0, .int 0, .int 0])), (B, .inr (8, [.ref V, .int 0, .int 0, .int (nI n)])), (V, .inl (cy 4, m, .inl a))] := D3 hqB hqV hBV (Or.inl ⟨0, _, rfl⟩) (Or.inl ⟨1, _, rfl⟩) (Or.inl ⟨2, _, rfl⟩)
  have hA : ∀ x : Nat, s.heap.size ≤ x → (va_A [(q, .inr (7, [.null, .int 0, .int 0, .int 0])), (B, .inr (8, [.ref V, .int 0, .int 0, .int (nI n)])), (V, .inl (cy 4, m, .inl a))] s.heap.size) x := fun x h => Or.inr h
  refine lv_aload_n hx hb dJ0_init_81219_0 rfl (lv_at hl 0 rfl) ?_
  refine lv_aload_n hx hb dJ0_init_81219_1 rfl (lv_at hl 1 rfl) ?_
  refine lv_null hx hb dJ0_init_81219_2 ?_
  refine va_callv (va_runI (As := [.ref B, .null]) (rest := []) ⟨hx, hb, hml, hown, hts⟩ (mJ0_init_db425 l0 dC dI cy tb q B V m n a s.heap.size hqB hqV hBV hnm hm hf) (cwI 2 hts gJ0_init_81219_J0_init_db425 rfl rfl rfl w3 w1 w2 rfl ⟨by decide, by decide, by decide +kernel⟩ ⟨Nat.le_of_ble_eq_true rfl, Nat.le_of_ble_eq_true rfl⟩) ⟨PcJ_blind, fun U hU hW => ⟨rfl, by rw [hU], by rw [hU]; exact hP, va_K.moved hW.alike hK, hE.go hS hU hW (fun x h => h)⟩⟩ rfl rfl hl.1 rfl (lv_room (Nat.le_of_ble_eq_true rfl)) dJ0_init_81219_3 ⟨Nat.le_of_ble_eq_true rfl, Nat.le_of_ble_eq_true rfl⟩) hS (fun _ _ h => h) (fun _ h => h) (fun u tS H1 locs ht hvm hw hB hz1 hk1 hS => ?_)
  obtain ⟨hP, hD⟩ := hB
  rw [ht] at hP
  exact W.vret hx hb hr (fun t ht _ => ⟨⟨u, rfl, hw, by rw [ht]; exact hP, hD⟩, hS.F ht⟩) hS.2.2 dJ0_init_81219_6 hlocks
theorem dfJ0 : ∀ j, j < 4 → defaultValue (tyJ0 j) = vp_V [.null, .int 0, .int 0, .int 0] j := by
  intro j hj
  rcases (show j = 0 ∨ j = 1 ∨ j = 2 ∨ j = 3 by omega) with rfl | rfl | rfl | rfl <;> rfl
theorem dfJ4 : ∀ j, j < 4 → defaultValue (tyJ4 j) = vp_V [.null, .int 0, .int 0, .int 0] j := by
  intro j hj
  rcases (show j = 0 ∨ j = 1 ∨ j = 2 ∨ j = 3 by omega) with rfl | rfl | rfl | rfl <;> rfl
theorem dmJ4_toString_0e30d : yJ4_toString_0e30d.cls = RJ4 ∧ yJ4_toString_0e30d.cls ≠ "java/lang/invoke/MethodHandle" ∧ yJ4_toString_0e30d.cls ≠ "java/lang/invoke/VarHandle" ∧ (parseMethodDescriptor yJ4_toString_0e30d.desc).map (fun d => d.parameters.length) = some 0 := by decide +kernel
abbrev rmJ4_toString_0e30d : Room := { frames := 6, cells := 2, slots := 204, locals := 280 }
theorem iJ_J4_toString_0e30d_J0 : ∀ w ∈ wsJ00, w ∈ wsJ4_toString_0e30d := fun w h => List.mem_cons_of_mem _ (List.mem_append_left _ (List.mem_append_right _ (h)))
set_option maxHeartbeats 8000000 in
set_option maxRecDepth 100000 in
theorem mJ4_toString_0e30d (l0 : Launch) (dC : Nat → ClassId) (dI : Nat → Nat → Nat) (cy : Nat → ClassId) (tb : Nat × Nat) (B V m n : Nat) (a : Nat → Int32) (sz : Nat) (hBV : B ≠ V) (hnm : n ≤ m) (hm : m ≤ 200) (hf : sb_Fit a) : Met l0 yJ4_toString_0e30d wsJ4_toString_0e30d rmJ4_toString_0e30d (PcJ [.ref B] sz (dC, dI) cy (SB cy B V m a n) (va_A (SB cy B V m a n) sz) tb) (va_Qr (fun (u : Nat × (Nat → Int32)) => (∀ i, i < n → u.2 i = a i) ∧ sz ≤ u.1) (fun u q t => sz ≤ q ∧ q ≠ u.1 ∧ va_P (dC, dI) vwCl (ST cy q u.1 n u.2) t.heap) (va_A (SB cy B V m a n) sz)) 2 204 (va_A (SB cy B V m a n) sz) := by
  refine Met.ofW (cc := cJ4_toString_0e30d) (maxL := 1) (ret := (some (.object "java/lang/String"))) (by decide) rfl ?_
  intro p e s mt args below meth c s₁ BY hml hv
  obtain ⟨hargs, hsz, hP, hK, hE⟩ := hv
  have hx := BY.exec
  have hb := BY.bytes
  have hr := BY.returns
  have hts := atoms_spec (ws := wsJ4_toString_0e30d) BY.pre
  have hown : s.vm.findClass RJ4 = some mt.cls := findClass_of_methodNamed BY.named
  have hlocks := BY.notSynchronized
  have w1 := hts (.classLink RJ4 18 RJ0) (List.mem_of_getElem? (i := 1) rfl)
  have w2 := hts (.instantiable RJ0 4) (List.mem_of_getElem? (i := 2) rfl)
  have w3 := hts (.initialized RJ0) (List.mem_of_getElem? (i := 3) rfl)
  have w4 := hts (.methodLink RJ4 137 yJ0_init_81219) (List.mem_of_getElem? (i := 4) rfl)
  have w5 := hts (.instanceMethod yJ0_init_81219) (List.mem_of_getElem? (i := 5) rfl)
  have hS : va_S (va_A (SB cy B V m a n) sz) s.heap s.heap [] := va_S.rf
  have hfr : entryFrame mt args 1 = F0 mt 0 ((lg_sl [.ref B] ++ List.replicate (1 - (lg_sl [.ref B]).length) Slot.unset).toArray) [] := by rw [hargs]; exact lg_entry_eq _ _ _
  rw [hfr]
  have hl := lv_entry ([.ref B]) (n := 1) (Nat.le_of_ble_eq_true rfl)
  generalize (lg_sl [.ref B] ++ List.replicate (1 - (lg_sl [.ref B]).length) Slot.unset).toArray = ls at hl ⊢
  have hl : lv_has ls 1 [(0, .ref B)] := hl
  clear hfr hargs BY
  show W p l0 e rmJ4_toString_0e30d s mt args below meth c s.heap [] 0 0 (MQ below (va_Qr (fun (u : Nat × (Nat → Int32)) => (∀ i, i < n → u.2 i = a i) ∧ sz ≤ u.1) (fun u q t => sz ≤ q ∧ q ≠ u.1 ∧ va_P (dC, dI) vwCl (ST cy q u.1 n u.2) t.heap) (va_A (SB cy B V m a n) sz)) args s 2 204 (va_A (SB cy B V m a n) sz)) (F0 mt 0 ls [])
  have hEn := hE.narrow (B := (va_A (SB cy B V m a n) sz)) (fun x h => h)
  subst hsz
  have hD : va_D (va_A (SB cy B V m a n) s.heap.size) (SB cy B V m a n) := D2 hBV (Or.inl ⟨0, _, rfl⟩) (Or.inl ⟨1, _, rfl⟩)
  have hA : ∀ x : Nat, s.heap.size ≤ x → (va_A (SB cy B V m a n) s.heap.size) x := fun x h => Or.inr h
  refine va_new (ci := 7) (fs := [.null, .int 0, .int 0, .int 0]) (C := RJ0) (T := TJ0) (N := 4) hx hb hts iJ_J4_toString_0e30d_J0 tyJ0 tyJ0_ok hown w1 w2 w3 hK hP hD hS hA rfl dfJ0 (Nat.le_of_ble_eq_true rfl) (Nat.le_of_ble_eq_true rfl) dJ4_toString_0e30d_0 (fun q H hP hD hS => ?_)
  have hP : va_P (dC, dI) vwCl [(B, .inr (8, [.ref V, .int 0, .int 0, .int (nI n)])), (V, .inl (cy 4, m, .inl a)), (q, .inr (7, [.null, .int 0, .int 0, .int 0]))] H := hP
  have hD : va_D (va_A (SB cy B V m a n) s.heap.size) [(B, .inr (8, [.ref V, .int 0, .int 0, .int (nI n)])), (V, .inl (cy 4, m, .inl a)), (q, .inr (7, [.null, .int 0, .int 0, .int 0]))] := hD
  have hqB : q ≠ B := fun e => by have := hD.1 2 0 _ _ rfl rfl e; omega
  have hqV : q ≠ V := fun e => by have := hD.1 2 1 _ _ rfl rfl e; omega
  have hqz : s.heap.size ≤ q := by
      rcases hD.2 2 _ rfl with ⟨k, e, h⟩ | h
      · match k, h with
        | 0, h => cases h; exact absurd rfl hqB
        | 1, h => cases h; exact absurd rfl hqV
        | k + 2, h => simp [SB] at h
      · exact h
  refine lv_dup hx hb dJ4_toString_0e30d_3 rfl ?_
  refine lv_aload_n hx hb dJ4_toString_0e30d_4 rfl (lv_at hl 0 rfl) ?_
  have hPc := hP.sub (ws' := [(q, .inr (7, [.null, .int 0, .int 0, .int 0])), (B, .inr (8, [.ref V, .int 0, .int 0, .int (nI n)])), (V, .inl (cy 4, m, .inl a))]) [2, 0, 1] rfl
  have hFc := va_free (wc := [(q, .inr (7, [.null, .int 0, .int 0, .int 0])), (B, .inr (8, [.ref V, .int 0, .int 0, .int (nI n)])), (V, .inl (cy 4, m, .inl a))]) hD hS hA [2, 0, 1] rfl
  have hz8 := hS.1
  refine va_callv (va_runI (As := [.ref B]) (rest := [.ref q]) ⟨hx, hb, hml, hown, hts⟩ (mJ0_init_81219 l0 dC dI cy tb q B V m n a H.size hqB hqV hBV hnm hm hf) (cwI 1 hts gJ4_toString_0e30d_J0_init_81219 rfl rfl rfl w3 w4 w5 rfl ⟨by decide, by decide, by decide +kernel⟩ ⟨Nat.le_of_ble_eq_true rfl, Nat.le_of_ble_eq_true rfl⟩) ⟨PcJ_blind, fun U hU hW => ⟨rfl, by rw [hU], by rw [hU]; exact hPc, va_K.moved hW.alike hK, hE.go hS hU hW hFc⟩⟩ rfl rfl hl.1 rfl (lv_room (Nat.le_of_ble_eq_true rfl)) dJ4_toString_0e30d_5 ⟨Nat.le_of_ble_eq_true rfl, Nat.le_of_ble_eq_true rfl⟩) hS (fun x _ h => hFc x h) hFc (fun u tS H1 locs ht hvm hw hB hz1 hk1 hS => ?_)
  obtain ⟨hP1, hD1⟩ := hB
  rw [ht] at hP1
  have hqu : q ≠ u.1 := fun e => by have := hD1.1 0 1 _ _ rfl rfl e; omega
  refine W.widen (k := 2) (n := 204) (Nat.le_of_ble_eq_true rfl) (Nat.le_of_ble_eq_true rfl) ?_
  exact W.aret hx hb hr (Or.inl ⟨_, rfl⟩) (Or.inr ⟨_, rfl⟩) (fun t ht _ => ⟨⟨u, _, rfl, ⟨hw.1, Nat.le_trans hz8 hw.2⟩, hqz, hqu, by rw [ht]; exact hP1⟩, hS.F ht⟩) hS.2.2 dJ4_toString_0e30d_8 hlocks
