theorem vaA_mono {w : va_W} {sz sz2 x : Nat} (h : sz ≤ sz2) (q : va_A w sz2 x) : va_A w sz x := q.imp id (fun q => Nat.le_trans h q)
theorem vaA_sub {w w2 : va_W} {sz sz2 x : Nat} (hs : sz ≤ sz2) (is : List Nat) (hw : is.map (fun i => w[i]?) = w2.map some) (q : va_A w2 sz2 x) : va_A w sz x := by
  rcases q with ⟨k, e, h⟩ | q
  · have h1 : (is.map (fun i => w[i]?))[k]? = some (some (x, e)) := by rw [hw, List.getElem?_map, h]; rfl
    rw [List.getElem?_map] at h1
    cases hi : is[k]? with
    | none => rw [hi] at h1; cases h1
    | some i => rw [hi] at h1; exact Or.inl ⟨i, e, Option.some.inj h1⟩
  · exact Or.inr (Nat.le_trans hs q)
theorem m_ltI {a b : Nat} (ha : a < 2 ^ 31) (hb : b < 2 ^ 31) : mI a < mI b ↔ b < a := by
  rw [Int32.lt_iff_toInt_lt, pz_mT ha, pz_mT hb]
  omega
theorem m_leI {a b : Nat} (ha : a < 2 ^ 31) (hb : b < 2 ^ 31) : mI a ≤ mI b ↔ b ≤ a := by
  rw [Int32.le_iff_toInt_le, pz_mT ha, pz_mT hb]
  omega
theorem m_neg (n : Nat) : -(mI n) = nI n := by rw [mI, Int32.neg_neg]
theorem m_dr : ∀ a, a < 100 → ∀ b, b < 100 → mI (100 * a + b) / nI 100 = mI a ∧ mI a * nI 100 - mI (100 * a + b) = nI b := by decide +kernel
theorem m_div (v : Nat) (h : v < 10000) : mI v / nI 100 = mI (v / 100) := by
  have := (m_dr (v / 100) (by omega) (v % 100) (by omega)).1
  rw [Nat.div_add_mod] at this
  exact this
theorem m_rem (v : Nat) (h : v < 10000) : mI (v / 100) * nI 100 - mI v = nI (v % 100) := by
  have := (m_dr (v / 100) (by omega) (v % 100) (by omega)).2
  rw [Nat.div_add_mod] at this
  exact this
theorem b_nar : ∀ c, c < 128 → vp_nar .byte (nI c) = nI c ∧ fits .byte (.int (nI c)) = true ∧ nI c &&& 255 = nI c ∧ ((nI c).toUInt32 % 65536).toInt32 = nI c ∧ narrow .char (.int (nI c)) = .int (nI c) := by decide +kernel
theorem dO_lt (k : Nat) : 48 + k % 10 < 128 := by omega
theorem dT_lt {k : Nat} (h : k < 100) : 48 + k / 10 < 128 := by omega
theorem dO_nar (k : Nat) : vp_nar .byte (dOn k) = nI (48 + k % 10) := (b_nar _ (dO_lt k)).1
theorem dT_nar {k : Nat} (h : k < 100) : vp_nar .byte (dTn k) = nI (48 + k / 10) := (b_nar _ (dT_lt h)).1
theorem fit_u {a : Nat → Int32} {k c : Nat} (h : sb_Fit a) (hc : c < 128) : sb_Fit (upd a k (nI c)) := sb_fitU h (b_nar c hc).2.1
/-- what a builder's row holds -/
def sbOk (l : List Nat) (m : Nat) (a : Nat → Int32) : Prop := l.length ≤ m ∧ m ≤ 200 ∧ (∀ i, i < l.length → a i = nI (l.getD i 0)) ∧ (∀ c ∈ l, c < 128) ∧ sb_Fit a
theorem dmJ5_ensureCapacityInternal_d00df : yJ5_ensureCapacityInternal_d00df.cls = RJ5 ∧ yJ5_ensureCapacityInternal_d00df.cls ≠ "java/lang/invoke/MethodHandle" ∧ yJ5_ensureCapacityInternal_d00df.cls ≠ "java/lang/invoke/VarHandle" ∧ (parseMethodDescriptor yJ5_ensureCapacityInternal_d00df.desc).map (fun d => d.parameters.length) = some 1 := by decide +kernel
abbrev rmJ5_ensureCapacityInternal_d00df : Room := { frames := 3, cells := 1, slots := 200, locals := 200 }
theorem iJ_J5_ensureCapacityInternal_d00df_J4 : ∀ w ∈ wsJ40, w ∈ wsJ5_ensureCapacityInternal_d00df := fun w h => List.mem_cons_of_mem _ (List.mem_append_right _ (h))
set_option maxHeartbeats 8000000 in
set_option maxRecDepth 100000 in
theorem mJ5_ensureCapacityInternal_d00df (l : Launch) (dC : Nat → ClassId) (dI : Nat → Nat → Nat) (cy : Nat → ClassId) (tb : Nat × Nat) (B V m n : Nat) (a : Nat → Int32) (sz : Nat) (hBV : B ≠ V) (q : Nat) (hm : m ≤ 200) (hq : q ≤ 100) (hf : sb_Fit a) : Met l yJ5_ensureCapacityInternal_d00df wsJ5_ensureCapacityInternal_d00df rmJ5_ensureCapacityInternal_d00df (PcJ [.ref B, .int (nI q)] sz (dC, dI) cy (SB cy B V m a n) (va_A (SB cy B V m a n) sz) tb) (va_Qv (fun (u : Nat × Nat × (Nat → Int32)) => q ≤ u.2.1 ∧ u.2.1 ≤ 200 ∧ m ≤ u.2.1 ∧ (∀ i, i < m → u.2.2 i = a i) ∧ sb_Fit u.2.2) (fun u t => va_P (dC, dI) vwCl (SB cy B u.1 u.2.1 u.2.2 n) t.heap ∧ va_D (va_A (SB cy B V m a n) sz) (SB cy B u.1 u.2.1 u.2.2 n)) (va_A (SB cy B V m a n) sz)) 1 200 (va_A (SB cy B V m a n) sz) := by
  refine Met.ofW (cc := cJ5_ensureCapacityInternal_d00df) (maxL := 3) (ret := none) (by decide) rfl ?_
  intro p e s mt args below meth c s₁ BY hml hv
  obtain ⟨hargs, hsz, hP, hK, hE⟩ := hv
  have hx := BY.exec
  have hb := BY.bytes
  have hr := BY.returns
  have hts := atoms_spec (ws := wsJ5_ensureCapacityInternal_d00df) BY.pre
  have hown : s.vm.findClass RJ5 = some mt.cls := findClass_of_methodNamed BY.named
  have hlocks := BY.notSynchronized
  have w1 := hts (.fieldLink RJ5 15 "java/lang/AbstractStringBuilder" "value" "[B") (List.mem_of_getElem? (i := 1) rfl)
  have w2 := hts (.fieldLink RJ5 22 "java/lang/AbstractStringBuilder" "coder" "B") (List.mem_of_getElem? (i := 2) rfl)
  have hS : va_S (va_A (SB cy B V m a n) sz) s.heap s.heap [] := va_S.rf
  have hfr : entryFrame mt args 3 = F0 mt 0 ((lg_sl [.ref B, .int (nI q)] ++ List.replicate (3 - (lg_sl [.ref B, .int (nI q)]).length) Slot.unset).toArray) [] := by rw [hargs]; exact lg_entry_eq _ _ _
  rw [hfr]
  have hl := lv_entry ([.ref B, .int (nI q)]) (n := 3) (Nat.le_of_ble_eq_true rfl)
  generalize (lg_sl [.ref B, .int (nI q)] ++ List.replicate (3 - (lg_sl [.ref B, .int (nI q)]).length) Slot.unset).toArray = ls at hl ⊢
  have hl : lv_has ls 3 [(0, .ref B), (1, .int (nI q))] := hl
  clear hfr hargs BY
  show W p l e rmJ5_ensureCapacityInternal_d00df s mt args below meth c s.heap [] 0 0 (MQ below (va_Qv (fun (u : Nat × Nat × (Nat → Int32)) => q ≤ u.2.1 ∧ u.2.1 ≤ 200 ∧ m ≤ u.2.1 ∧ (∀ i, i < m → u.2.2 i = a i) ∧ sb_Fit u.2.2) (fun u t => va_P (dC, dI) vwCl (SB cy B u.1 u.2.1 u.2.2 n) t.heap ∧ va_D (va_A (SB cy B V m a n) sz) (SB cy B u.1 u.2.1 u.2.2 n)) (va_A (SB cy B V m a n) sz)) args s 1 200 (va_A (SB cy B V m a n) sz)) (F0 mt 0 ls [])
  have hEn := hE.narrow (B := (va_A (SB cy B V m a n) sz)) (fun x h => h)
  subst hsz
  have hD : va_D (va_A (SB cy B V m a n) s.heap.size) (SB cy B V m a n) := D2 hBV (Or.inl ⟨0, _, rfl⟩) (Or.inl ⟨1, _, rfl⟩)
  have hA : ∀ x : Nat, s.heap.size ≤ x → (va_A (SB cy B V m a n) s.heap.size) x := fun x h => Or.inr h
  refine lv_aload_n hx hb dJ5_ensureCapacityInternal_d00df_0 rfl (lv_at hl 0 rfl) ?_
  refine va_get (D := (dC, dI)) (ci := 8) (v := .ref V) (C := RJ4) (T := TJ4) (N := 4) hx hb hts iJ_J5_ensureCapacityInternal_d00df_J4 hown hK hP 0 rfl rfl 0 (by decide) w1 (fun _ h9 => h9) rfl dJ5_ensureCapacityInternal_d00df_1 ?_
  refine va_alen hx hb hK hP 1 4 rfl rfl (v := (nI m)) (rfl) dJ5_ensureCapacityInternal_d00df_4 ?_
  refine lv_aload_n hx hb dJ5_ensureCapacityInternal_d00df_5 rfl (lv_at hl 0 rfl) ?_
  refine va_get (D := (dC, dI)) (ci := 8) (v := .int 0) (C := RJ4) (T := TJ4) (N := 4) hx hb hts iJ_J5_ensureCapacityInternal_d00df_J4 hown hK hP 0 rfl rfl 1 (by decide) w2 (fun _ h9 => h9) rfl dJ5_ensureCapacityInternal_d00df_6 ?_
  refine lv_ishr hx hb dJ5_ensureCapacityInternal_d00df_9 ?_
  rw [show (((nI m) >>> (0 &&& 31)) : Int32) = (nI m) from sb_shr0 _]
  refine lv_istore_n (lv' := [(2, .int (nI m)), (0, .ref B), (1, .int (nI q))]) hx hb dJ5_ensureCapacityInternal_d00df_10 rfl hl (by decide) rfl (fun ls hl => ?_)
  refine lv_iload_n hx hb dJ5_ensureCapacityInternal_d00df_11 rfl (lv_at hl 2 rfl) ?_
  refine lv_iload_n hx hb dJ5_ensureCapacityInternal_d00df_12 rfl (lv_at hl 0 rfl) ?_
  refine lv_isub hx hb dJ5_ensureCapacityInternal_d00df_13 ?_
  rcases Nat.lt_or_ge m q with hmq | hmq
  · rw [show (((nI q) - (nI m)) : Int32) = (nI (q - m)) from pk_sub (by omega)]
    refine lv_if_le (tgt := 38) hx hb dJ5_ensureCapacityInternal_d00df_14 (by decide) (fun q9 => absurd q9 (nI_nle (by omega) (by omega))) (fun _ => ?_)
    refine lv_aload_n hx hb dJ5_ensureCapacityInternal_d00df_17 rfl (lv_at hl 1 rfl) ?_
    refine lv_aload_n hx hb dJ5_ensureCapacityInternal_d00df_18 rfl (lv_at hl 1 rfl) ?_
    refine va_get (D := (dC, dI)) (ci := 8) (v := .ref V) (C := RJ4) (T := TJ4) (N := 4) hx hb hts iJ_J5_ensureCapacityInternal_d00df_J4 hown hK hP 0 rfl rfl 0 (by decide) w1 (fun _ h9 => h9) rfl dJ5_ensureCapacityInternal_d00df_19 ?_
    refine lv_aload_n hx hb dJ5_ensureCapacityInternal_d00df_22 rfl (lv_at hl 1 rfl) ?_
    refine lv_iload_n hx hb dJ5_ensureCapacityInternal_d00df_23 rfl (lv_at hl 2 rfl) ?_
    refine va_calli (va_runU (As := [.int (nI q)]) (rest := [.ref V, .ref B]) ⟨hx, hb, hml, hown, hts⟩ (mJ5_newCapacity_0f7a4 l dC dI cy tb B V m n a s.heap.size q hmq (by omega)) (va_cwU 1 hts gJ5_ensureCapacityInternal_d00df_J5_newCapacity_0f7a4_u104J4 rfl rfl rfl rfl ⟨by decide, by decide, by decide +kernel⟩ ⟨Nat.le_of_ble_eq_true rfl, Nat.le_of_ble_eq_true rfl⟩) ⟨PcJ_blind, (va_recv hK hP (ci := 8) (q0 := 0) rfl rfl), fun U hU hW => ⟨rfl, by rw [hU], by rw [hU]; exact hP, va_K.moved hW.alike hK, hE.go hS hU hW (fun x h => vaA_mono hS.1 h)⟩⟩ rfl rfl hl.1 rfl (lv_room (Nat.le_of_ble_eq_true rfl)) dJ5_ensureCapacityInternal_d00df_24 ⟨Nat.le_of_ble_eq_true rfl, Nat.le_of_ble_eq_true rfl⟩) hS (fun _ _ h => h.elim) (fun _ h => h.elim) (fun r0 u0 tS H1 locs ht hvm hw hB hz1 hk1 hS => ?_)
    obtain rfl := hw
    have hP := hP.kept (fun k x hx => hk1 x.1 (hP k x hx).lt (fun z => z))
    generalize H1 = H at hP hS ⊢
    refine lv_aload_n hx hb dJ5_ensureCapacityInternal_d00df_27 rfl (lv_at hl 1 rfl) ?_
    refine va_get (D := (dC, dI)) (ci := 8) (v := .int 0) (C := RJ4) (T := TJ4) (N := 4) hx hb hts iJ_J5_ensureCapacityInternal_d00df_J4 hown hK hP 0 rfl rfl 1 (by decide) w2 (fun _ h9 => h9) rfl dJ5_ensureCapacityInternal_d00df_28 ?_
    refine lv_ishl hx hb dJ5_ensureCapacityInternal_d00df_31 ?_
    rw [show (((nI (m + (if q - m < m + 2 then m + 2 else q - m))) <<< (0 &&& 31)) : Int32) = (nI (m + (if q - m < m + 2 then m + 2 else q - m))) from sb_shl0 _]
    obtain ⟨cap, hcap⟩ : ∃ z : Nat, z = m + (if q - m < m + 2 then m + 2 else q - m) := ⟨_, rfl⟩
    rw [← hcap]
    have hc1 : m < cap ∧ q ≤ cap ∧ cap ≤ 200 := by rw [hcap]; split <;> omega
    have hPV := hP.sub (ws' := [(V, .inl (cy 4, m, .inl a))]) [1] rfl
    have hFc := va_free (wc := [(V, .inl (cy 4, m, .inl a))]) hD hS hA [1] rfl
    refine va_callr (va_runS (As := [.ref V, .int (nI cap)]) (rest := [.ref B]) ⟨hx, hb, hml, hown, hts⟩ (mJ7_copyOf_9075b l dC dI cy V m a H.size cap hc1.1 hc1.2.2 hf) (va_cwS 2 hts gJ5_ensureCapacityInternal_d00df_J7_copyOf_9075b rfl rfl rfl dmJ7_copyOf_9075b ⟨Nat.le_of_ble_eq_true rfl, Nat.le_of_ble_eq_true rfl⟩) ⟨PV_blind, fun U hU hW => ⟨rfl, by rw [hU], by rw [hU]; exact hPV, va_K.moved hW.alike hK⟩⟩ rfl rfl hl.1 rfl (lv_room (Nat.le_of_ble_eq_true rfl)) dJ5_ensureCapacityInternal_d00df_32 ⟨Nat.le_of_ble_eq_true rfl, Nat.le_of_ble_eq_true rfl⟩) hS (fun x _ h => hFc x h) hFc (fun u0 Wq tS H1 locs ht hvm hw hB hz1 hk1 hS => ?_)
    obtain ⟨hP1, hD1⟩ := hB
    rw [ht] at hP1
    obtain ⟨hP, hD⟩ := va_join (wr := [(B, .inr (8, [.ref V, .int 0, .int 0, .int (nI n)]))]) (w1 := [(V, .inl (cy 4, m, .inl a)), (Wq, .inl (cy 4, cap, .inl (va_cpy a (fun _ => 0) 0 0 m)))]) hP hD [1] [0] rfl rfl (by decide) (by decide) hk1 hFc hP1 hD1
    generalize H1 = H at hP hS ⊢
    have hP : va_P (dC, dI) vwCl [(B, .inr (8, [.ref V, .int 0, .int 0, .int (nI n)])), (V, .inl (cy 4, m, .inl a)), (Wq, .inl (cy 4, cap, .inl (va_cpy a (fun _ => 0) 0 0 m)))] H := hP
    have hD : va_D (va_A (SB cy B V m a n) s.heap.size) [(B, .inr (8, [.ref V, .int 0, .int 0, .int (nI n)])), (V, .inl (cy 4, m, .inl a)), (Wq, .inl (cy 4, cap, .inl (va_cpy a (fun _ => 0) 0 0 m)))] := hD
    refine va_put (D := (dC, dI)) (ci := 8) (v := .ref Wq) (ty := tyJ4 0) (C := RJ4) (T := TJ4) (N := 4) hx hb hts iJ_J5_ensureCapacityInternal_d00df_J4 tyJ4 tyJ4_ok nmJ4 hown hK hP hD hS 0 rfl rfl 0 (by decide) w1 (fun _ h9 => h9) rfl (tyJ4_ok 0 (by decide)) rfl rfl (Nat.le_of_ble_eq_true rfl) dJ5_ensureCapacityInternal_d00df_35 (fun H locs hP hD hS => ?_)
    have hP : va_P (dC, dI) vwCl [(B, .inr (8, [.ref Wq, .int 0, .int 0, .int (nI n)])), (V, .inl (cy 4, m, .inl a)), (Wq, .inl (cy 4, cap, .inl (va_cpy a (fun _ => 0) 0 0 m)))] H := hP
    have hD : va_D (va_A (SB cy B V m a n) s.heap.size) [(B, .inr (8, [.ref Wq, .int 0, .int 0, .int (nI n)])), (V, .inl (cy 4, m, .inl a)), (Wq, .inl (cy 4, cap, .inl (va_cpy a (fun _ => 0) 0 0 m)))] := hD
    refine W.widen (k := 1) (n := 200) (Nat.le_of_ble_eq_true rfl) (Nat.le_of_ble_eq_true rfl) ?_
    exact W.vret hx hb hr (fun t ht _ => ⟨⟨(Wq, cap, va_cpy a (fun _ => 0) 0 0 m), rfl, ⟨hc1.2.1, hc1.2.2, Nat.le_of_lt hc1.1, fun i hi => show va_cpy a (fun _ => 0) 0 0 m i = a i from sb_cpy0 hi, sb_fitC hf sb_fit0⟩, by rw [ht]; exact hP.sub [0, 2] rfl, hD.sub [0, 2] (by decide) rfl⟩, hS.F ht⟩) hS.2.2 dJ5_ensureCapacityInternal_d00df_38 hlocks
  · refine lv_if_le (tgt := 38) hx hb dJ5_ensureCapacityInternal_d00df_14 (by decide) (fun _ => ?_) (fun q9 => absurd (show nI q - nI m ≤ 0 from by rw [Int32.le_iff_toInt_le, pk_sub_toInt (by omega) (by omega), Int32.toInt_zero]; omega) q9)
    refine W.widen (k := 1) (n := 200) (Nat.le_of_ble_eq_true rfl) (Nat.le_of_ble_eq_true rfl) ?_
    exact W.vret hx hb hr (fun t ht _ => ⟨⟨(V, m, a), rfl, ⟨hmq, hm, Nat.le_refl _, fun _ _ => rfl, hf⟩, by rw [ht]; exact hP, hD⟩, hS.F ht⟩) hS.2.2 dJ5_ensureCapacityInternal_d00df_38 hlocks
theorem dmJ5_isLatin1_aae02 : yJ5_isLatin1_aae02.cls = RJ5 ∧ yJ5_isLatin1_aae02.cls ≠ "java/lang/invoke/MethodHandle" ∧ yJ5_isLatin1_aae02.cls ≠ "java/lang/invoke/VarHandle" ∧ (parseMethodDescriptor yJ5_isLatin1_aae02.desc).map (fun d => d.parameters.length) = some 0 := by decide +kernel
abbrev rmJ5_isLatin1_aae02 : Room := { frames := 0, cells := 0, slots := 0, locals := 0 }
theorem iJ_J5_isLatin1_aae02_J4 : ∀ w ∈ wsJ40, w ∈ wsJ5_isLatin1_aae02 := fun w h => List.mem_cons_of_mem _ (List.mem_append_right _ (h))
set_option maxHeartbeats 8000000 in
set_option maxRecDepth 100000 in
theorem mJ5_isLatin1_aae02 (l : Launch) (dC : Nat → ClassId) (dI : Nat → Nat → Nat) (cy : Nat → ClassId) (tb : Nat × Nat) (B V m n : Nat) (a : Nat → Int32) (sz : Nat) : Met l yJ5_isLatin1_aae02 wsJ5_isLatin1_aae02 rmJ5_isLatin1_aae02 (PcJ [.ref B] sz (dC, dI) cy (SB cy B V m a n) (va_A (SB cy B V m a n) sz) tb) (va_Qi (fun (z : Int32) (_ : Unit) => z = 1) (fun _ _ => True) (fun _ => False)) 0 0 (fun _ => False) := by
  refine Met.ofW (cc := cJ5_isLatin1_aae02) (maxL := 1) (ret := (some .boolean)) (by decide) rfl ?_
  intro p e s mt args below meth c s₁ BY hml hv
  obtain ⟨hargs, hsz, hP, hK, hE⟩ := hv
  have hx := BY.exec
  have hb := BY.bytes
  have hr := BY.returns
  have hts := atoms_spec (ws := wsJ5_isLatin1_aae02) BY.pre
  have hown : s.vm.findClass RJ5 = some mt.cls := findClass_of_methodNamed BY.named
  have hlocks := BY.notSynchronized
  have w1 := hts (.fieldLink RJ5 18 "java/lang/String" "COMPACT_STRINGS" "Z") (List.mem_of_getElem? (i := 1) rfl)
  have w2 := hts (.fieldLink RJ5 22 "java/lang/AbstractStringBuilder" "coder" "B") (List.mem_of_getElem? (i := 2) rfl)
  have hS : va_S (fun _ => False) s.heap s.heap [] := va_S.rf
  have hfr : entryFrame mt args 1 = F0 mt 0 ((lg_sl [.ref B] ++ List.replicate (1 - (lg_sl [.ref B]).length) Slot.unset).toArray) [] := by rw [hargs]; exact lg_entry_eq _ _ _
  rw [hfr]
  have hl := lv_entry ([.ref B]) (n := 1) (Nat.le_of_ble_eq_true rfl)
  generalize (lg_sl [.ref B] ++ List.replicate (1 - (lg_sl [.ref B]).length) Slot.unset).toArray = ls at hl ⊢
  have hl : lv_has ls 1 [(0, .ref B)] := hl
  clear hfr hargs BY
  show W p l e rmJ5_isLatin1_aae02 s mt args below meth c s.heap [] 0 0 (MQ below (va_Qi (fun (z : Int32) (_ : Unit) => z = 1) (fun _ _ => True) (fun _ => False)) args s 0 0 (fun _ => False)) (F0 mt 0 ls [])
  have hEn := hE.narrow (B := (fun _ => False)) (fun x h => h.elim)
  refine va_gets hx hb (C := "java/lang/String") (n := "COMPACT_STRINGS") (d := "Z") hEn.1 hS hown w1 (fun _ h9 => h9) dJ5_isLatin1_aae02_0 ?_
  refine lv_if_eq (tgt := 17) hx hb dJ5_isLatin1_aae02_3 (by decide) (fun q9 => absurd q9 (by decide)) (fun _ => ?_)
  refine lv_aload_n hx hb dJ5_isLatin1_aae02_6 rfl (lv_at hl 0 rfl) ?_
  refine va_get (D := (dC, dI)) (ci := 8) (v := .int 0) (C := RJ4) (T := TJ4) (N := 4) hx hb hts iJ_J5_isLatin1_aae02_J4 hown hK hP 0 rfl rfl 1 (by decide) w2 (fun _ h9 => h9) rfl dJ5_isLatin1_aae02_7 ?_
  refine lv_if_ne (tgt := 17) hx hb dJ5_isLatin1_aae02_10 (by decide) (fun q9 => absurd (rfl) q9) (fun _ => ?_)
  refine lv_iconst (v := 1) hx hb dJ5_isLatin1_aae02_13 (by decide) ?_
  refine lv_goto (tgt := 18) hx hb dJ5_isLatin1_aae02_14 (by decide) ?_
  exact W.zret hx hb hr rfl (fun t ht _ => ⟨⟨_, (), rfl, rfl, trivial⟩, hS.F ht⟩) hS.2.2 dJ5_isLatin1_aae02_18 hlocks
theorem dmJ6_stringSize_0f7a4 : yJ6_stringSize_0f7a4.cls ≠ "java/lang/invoke/MethodHandle" ∧ yJ6_stringSize_0f7a4.cls ≠ "java/lang/invoke/VarHandle" ∧ (parseMethodDescriptor yJ6_stringSize_0f7a4.desc).map (fun d => d.parameters.length) = some 1 := by decide +kernel
abbrev rmJ6_stringSize_0f7a4 : Room := { frames := 0, cells := 0, slots := 0, locals := 0 }
set_option maxHeartbeats 8000000 in
set_option maxRecDepth 100000 in
theorem mJ6_stringSize_0f7a4 (l : Launch) (v : Nat) (hv : v ≤ 9999) : Met l yJ6_stringSize_0f7a4 wsJ6_stringSize_0f7a4 rmJ6_stringSize_0f7a4 (va_Pc [.int (nI v)] (fun _ => True)) (va_Qi (fun (z : Int32) (_ : Unit) => z = nI (dg v).length) (fun _ _ => True) (fun _ => False)) 0 0 (fun _ => False) := by
  refine Met.ofW (cc := cJ6_stringSize_0f7a4) (maxL := 4) (ret := (some .int)) (by decide) rfl ?_
  intro p e s mt args below meth c s₁ BY hml hv
  obtain ⟨hargs, -⟩ := hv
  have hx := BY.exec
  have hb := BY.bytes
  have hr := BY.returns
  have hts := atoms_spec (ws := wsJ6_stringSize_0f7a4) BY.pre
  have hown : s.vm.findClass RJ6 = some mt.cls := findClass_of_methodNamed BY.named
  have hlocks := BY.notSynchronized
  have hS : va_S (fun _ => False) s.heap s.heap [] := va_S.rf
  have hfr : entryFrame mt args 4 = F0 mt 0 ((lg_sl [.int (nI v)] ++ List.replicate (4 - (lg_sl [.int (nI v)]).length) Slot.unset).toArray) [] := by rw [hargs]; exact lg_entry_eq _ _ _
  rw [hfr]
  have hl := lv_entry ([.int (nI v)]) (n := 4) (Nat.le_of_ble_eq_true rfl)
  generalize (lg_sl [.int (nI v)] ++ List.replicate (4 - (lg_sl [.int (nI v)]).length) Slot.unset).toArray = ls at hl ⊢
  have hl : lv_has ls 4 [(0, .int (nI v))] := hl
  clear hfr hargs BY
  show W p l e rmJ6_stringSize_0f7a4 s mt args below meth c s.heap [] 0 0 (MQ below (va_Qi (fun (z : Int32) (_ : Unit) => z = nI (dg v).length) (fun _ _ => True) (fun _ => False)) args s 0 0 (fun _ => False)) (F0 mt 0 ls [])
  refine lv_iconst (v := 1) hx hb dJ6_stringSize_0f7a4_0 (by decide) ?_
  refine lv_istore_n (lv' := [(1, .int 1), (0, .int (nI v))]) hx hb dJ6_stringSize_0f7a4_1 rfl hl (by decide) rfl (fun ls hl => ?_)
  refine lv_iload_n hx hb dJ6_stringSize_0f7a4_2 rfl (lv_at hl 1 rfl) ?_
  refine lv_if_lt (tgt := 11) hx hb dJ6_stringSize_0f7a4_3 (by decide) (fun q9 => absurd q9 (nI_pos (by omega))) (fun _ => ?_)
  refine lv_iconst (v := 0) hx hb dJ6_stringSize_0f7a4_6 (by decide) ?_
  refine lv_istore_n (lv' := [(1, .int 0), (0, .int (nI v))]) hx hb dJ6_stringSize_0f7a4_7 rfl hl (by decide) rfl (fun ls hl => ?_)
  refine lv_iload_n hx hb dJ6_stringSize_0f7a4_8 rfl (lv_at hl 1 rfl) ?_
  refine lv_ineg hx hb dJ6_stringSize_0f7a4_9 ?_
  rw [show ((-(nI v)) : Int32) = (mI v) from pz_neg v]
  refine lv_istore_n (lv' := [(0, .int (mI v)), (1, .int 0)]) hx hb dJ6_stringSize_0f7a4_10 rfl hl (by decide) rfl (fun ls hl => ?_)
  rcases (show v < 10 ∨ (10 ≤ v ∧ v < 100) ∨ (100 ≤ v ∧ v < 1000) ∨ (1000 ≤ v ∧ v < 10000) by omega) with h1 | h1 | h1 | h1
  · have hdl : (dg v).length = 1 := by unfold dg; rw [if_pos h1]; rfl
    refine lv_bipush (v := (mI 10)) hx hb dJ6_stringSize_0f7a4_11 (by decide) ?_
    refine lv_istore_n (lv' := [(2, .int (mI 10)), (0, .int (mI v)), (1, .int 0)]) hx hb dJ6_stringSize_0f7a4_13 rfl hl (by decide) rfl (fun ls hl => ?_)
    refine lv_iconst (v := 1) hx hb dJ6_stringSize_0f7a4_14 (by decide) ?_
    refine lv_istore_n (lv' := [(3, .int 1), (2, .int (mI 10)), (0, .int (mI v)), (1, .int 0)]) hx hb dJ6_stringSize_0f7a4_15 rfl hl (by decide) rfl (fun ls hl => ?_)
    refine lv_iload_n hx hb dJ6_stringSize_0f7a4_16 rfl (lv_at hl 0 rfl) ?_
    refine lv_bipush (v := 10) hx hb dJ6_stringSize_0f7a4_17 (by decide) ?_
    refine lv_icmp_ge (tgt := 42) hx hb dJ6_stringSize_0f7a4_19 (by decide) (fun q9 => absurd q9 (by decide)) (fun _ => ?_)
    refine lv_iload_n hx hb dJ6_stringSize_0f7a4_22 rfl (lv_at hl 2 rfl) ?_
    refine lv_iload_n hx hb dJ6_stringSize_0f7a4_23 rfl (lv_at hl 1 rfl) ?_
    refine lv_icmp_le (tgt := 31) hx hb dJ6_stringSize_0f7a4_24 (by decide) (fun q9 => absurd q9 (fun z => by have := (m_leI (by omega) (by decide)).mp z; omega)) (fun _ => ?_)
    refine lv_iload_n hx hb dJ6_stringSize_0f7a4_27 rfl (lv_at hl 0 rfl) ?_
    refine lv_iload_n hx hb dJ6_stringSize_0f7a4_28 rfl (lv_at hl 3 rfl) ?_
    refine lv_iadd hx hb dJ6_stringSize_0f7a4_29 ?_
    rw [show ((1 + 0) : Int32) = (nI (dg v).length) from by rw [hdl]; decide]
    exact W.iret hx hb hr (fun t ht _ => ⟨⟨_, (), rfl, rfl, trivial⟩, hS.F ht⟩) hS.2.2 dJ6_stringSize_0f7a4_30 hlocks
  · have hdl : (dg v).length = 2 := by unfold dg; rw [if_neg (by omega), if_pos h1.2]; rfl
    refine lv_bipush (v := (mI 10)) hx hb dJ6_stringSize_0f7a4_11 (by decide) ?_
    refine lv_istore_n (lv' := [(2, .int (mI 10)), (0, .int (mI v)), (1, .int 0)]) hx hb dJ6_stringSize_0f7a4_13 rfl hl (by decide) rfl (fun ls hl => ?_)
    refine lv_iconst (v := 1) hx hb dJ6_stringSize_0f7a4_14 (by decide) ?_
    refine lv_istore_n (lv' := [(3, .int 1), (2, .int (mI 10)), (0, .int (mI v)), (1, .int 0)]) hx hb dJ6_stringSize_0f7a4_15 rfl hl (by decide) rfl (fun ls hl => ?_)
    refine lv_iload_n hx hb dJ6_stringSize_0f7a4_16 rfl (lv_at hl 0 rfl) ?_
    refine lv_bipush (v := 10) hx hb dJ6_stringSize_0f7a4_17 (by decide) ?_
    refine lv_icmp_ge (tgt := 42) hx hb dJ6_stringSize_0f7a4_19 (by decide) (fun q9 => absurd q9 (by decide)) (fun _ => ?_)
    refine lv_iload_n hx hb dJ6_stringSize_0f7a4_22 rfl (lv_at hl 2 rfl) ?_
    refine lv_iload_n hx hb dJ6_stringSize_0f7a4_23 rfl (lv_at hl 1 rfl) ?_
    refine lv_icmp_le (tgt := 31) hx hb dJ6_stringSize_0f7a4_24 (by decide) (fun _ => ?_) (fun q9 => absurd ((m_leI (by omega) (by decide)).mpr (by omega)) q9)
    refine lv_bipush (v := 10) hx hb dJ6_stringSize_0f7a4_31 (by decide) ?_
    refine lv_iload_n hx hb dJ6_stringSize_0f7a4_33 rfl (lv_at hl 1 rfl) ?_
    refine lv_imul hx hb dJ6_stringSize_0f7a4_34 ?_
    rw [show ((10 * (mI 10)) : Int32) = (mI 100) from by decide]
    refine lv_istore_n (lv' := [(2, .int (mI 100)), (3, .int 1), (0, .int (mI v)), (1, .int 0)]) hx hb dJ6_stringSize_0f7a4_35 rfl hl (by decide) rfl (fun ls hl => ?_)
    refine lv_iinc (v := 2) (lv' := [(3, .int 2), (2, .int (mI 100)), (0, .int (mI v)), (1, .int 0)]) hx hb dJ6_stringSize_0f7a4_36 hl (k := 1) rfl (by decide) (by decide) rfl (fun ls hl => ?_)
    refine lv_goto (tgt := 16) hx hb dJ6_stringSize_0f7a4_39 (by decide) ?_
    refine lv_iload_n hx hb dJ6_stringSize_0f7a4_16 rfl (lv_at hl 0 rfl) ?_
    refine lv_bipush (v := 10) hx hb dJ6_stringSize_0f7a4_17 (by decide) ?_
    refine lv_icmp_ge (tgt := 42) hx hb dJ6_stringSize_0f7a4_19 (by decide) (fun q9 => absurd q9 (by decide)) (fun _ => ?_)
    refine lv_iload_n hx hb dJ6_stringSize_0f7a4_22 rfl (lv_at hl 2 rfl) ?_
    refine lv_iload_n hx hb dJ6_stringSize_0f7a4_23 rfl (lv_at hl 1 rfl) ?_
    refine lv_icmp_le (tgt := 31) hx hb dJ6_stringSize_0f7a4_24 (by decide) (fun q9 => absurd q9 (fun z => by have := (m_leI (by omega) (by decide)).mp z; omega)) (fun _ => ?_)
    refine lv_iload_n hx hb dJ6_stringSize_0f7a4_27 rfl (lv_at hl 0 rfl) ?_
    refine lv_iload_n hx hb dJ6_stringSize_0f7a4_28 rfl (lv_at hl 3 rfl) ?_
    refine lv_iadd hx hb dJ6_stringSize_0f7a4_29 ?_
    rw [show ((2 + 0) : Int32) = (nI (dg v).length) from by rw [hdl]; decide]
    exact W.iret hx hb hr (fun t ht _ => ⟨⟨_, (), rfl, rfl, trivial⟩, hS.F ht⟩) hS.2.2 dJ6_stringSize_0f7a4_30 hlocks
  · have hdl : (dg v).length = 3 := by unfold dg; rw [if_neg (by omega), if_neg (by omega), if_pos h1.2]; rfl
    refine lv_bipush (v := (mI 10)) hx hb dJ6_stringSize_0f7a4_11 (by decide) ?_
    refine lv_istore_n (lv' := [(2, .int (mI 10)), (0, .int (mI v)), (1, .int 0)]) hx hb dJ6_stringSize_0f7a4_13 rfl hl (by decide) rfl (fun ls hl => ?_)
    refine lv_iconst (v := 1) hx hb dJ6_stringSize_0f7a4_14 (by decide) ?_
    refine lv_istore_n (lv' := [(3, .int 1), (2, .int (mI 10)), (0, .int (mI v)), (1, .int 0)]) hx hb dJ6_stringSize_0f7a4_15 rfl hl (by decide) rfl (fun ls hl => ?_)
    refine lv_iload_n hx hb dJ6_stringSize_0f7a4_16 rfl (lv_at hl 0 rfl) ?_
    refine lv_bipush (v := 10) hx hb dJ6_stringSize_0f7a4_17 (by decide) ?_
    refine lv_icmp_ge (tgt := 42) hx hb dJ6_stringSize_0f7a4_19 (by decide) (fun q9 => absurd q9 (by decide)) (fun _ => ?_)
    refine lv_iload_n hx hb dJ6_stringSize_0f7a4_22 rfl (lv_at hl 2 rfl) ?_
    refine lv_iload_n hx hb dJ6_stringSize_0f7a4_23 rfl (lv_at hl 1 rfl) ?_
    refine lv_icmp_le (tgt := 31) hx hb dJ6_stringSize_0f7a4_24 (by decide) (fun _ => ?_) (fun q9 => absurd ((m_leI (by omega) (by decide)).mpr (by omega)) q9)
    refine lv_bipush (v := 10) hx hb dJ6_stringSize_0f7a4_31 (by decide) ?_
    refine lv_iload_n hx hb dJ6_stringSize_0f7a4_33 rfl (lv_at hl 1 rfl) ?_
    refine lv_imul hx hb dJ6_stringSize_0f7a4_34 ?_
    rw [show ((10 * (mI 10)) : Int32) = (mI 100) from by decide]
    refine lv_istore_n (lv' := [(2, .int (mI 100)), (3, .int 1), (0, .int (mI v)), (1, .int 0)]) hx hb dJ6_stringSize_0f7a4_35 rfl hl (by decide) rfl (fun ls hl => ?_)
    refine lv_iinc (v := 2) (lv' := [(3, .int 2), (2, .int (mI 100)), (0, .int (mI v)), (1, .int 0)]) hx hb dJ6_stringSize_0f7a4_36 hl (k := 1) rfl (by decide) (by decide) rfl (fun ls hl => ?_)
    refine lv_goto (tgt := 16) hx hb dJ6_stringSize_0f7a4_39 (by decide) ?_
    refine lv_iload_n hx hb dJ6_stringSize_0f7a4_16 rfl (lv_at hl 0 rfl) ?_
    refine lv_bipush (v := 10) hx hb dJ6_stringSize_0f7a4_17 (by decide) ?_
    refine lv_icmp_ge (tgt := 42) hx hb dJ6_stringSize_0f7a4_19 (by decide) (fun q9 => absurd q9 (by decide)) (fun _ => ?_)
    refine lv_iload_n hx hb dJ6_stringSize_0f7a4_22 rfl (lv_at hl 2 rfl) ?_
    refine lv_iload_n hx hb dJ6_stringSize_0f7a4_23 rfl (lv_at hl 1 rfl) ?_
    refine lv_icmp_le (tgt := 31) hx hb dJ6_stringSize_0f7a4_24 (by decide) (fun _ => ?_) (fun q9 => absurd ((m_leI (by omega) (by decide)).mpr (by omega)) q9)
    refine lv_bipush (v := 10) hx hb dJ6_stringSize_0f7a4_31 (by decide) ?_
    refine lv_iload_n hx hb dJ6_stringSize_0f7a4_33 rfl (lv_at hl 1 rfl) ?_
    refine lv_imul hx hb dJ6_stringSize_0f7a4_34 ?_
    rw [show ((10 * (mI 100)) : Int32) = (mI 1000) from by decide]
    refine lv_istore_n (lv' := [(2, .int (mI 1000)), (3, .int 2), (0, .int (mI v)), (1, .int 0)]) hx hb dJ6_stringSize_0f7a4_35 rfl hl (by decide) rfl (fun ls hl => ?_)
    refine lv_iinc (v := 3) (lv' := [(3, .int 3), (2, .int (mI 1000)), (0, .int (mI v)), (1, .int 0)]) hx hb dJ6_stringSize_0f7a4_36 hl (k := 1) rfl (by decide) (by decide) rfl (fun ls hl => ?_)
    refine lv_goto (tgt := 16) hx hb dJ6_stringSize_0f7a4_39 (by decide) ?_
    refine lv_iload_n hx hb dJ6_stringSize_0f7a4_16 rfl (lv_at hl 0 rfl) ?_
    refine lv_bipush (v := 10) hx hb dJ6_stringSize_0f7a4_17 (by decide) ?_
    refine lv_icmp_ge (tgt := 42) hx hb dJ6_stringSize_0f7a4_19 (by decide) (fun q9 => absurd q9 (by decide)) (fun _ => ?_)
    refine lv_iload_n hx hb dJ6_stringSize_0f7a4_22 rfl (lv_at hl 2 rfl) ?_
    refine lv_iload_n hx hb dJ6_stringSize_0f7a4_23 rfl (lv_at hl 1 rfl) ?_
    refine lv_icmp_le (tgt := 31) hx hb dJ6_stringSize_0f7a4_24 (by decide) (fun q9 => absurd q9 (fun z => by have := (m_leI (by omega) (by decide)).mp z; omega)) (fun _ => ?_)
    refine lv_iload_n hx hb dJ6_stringSize_0f7a4_27 rfl (lv_at hl 0 rfl) ?_
    refine lv_iload_n hx hb dJ6_stringSize_0f7a4_28 rfl (lv_at hl 3 rfl) ?_
    refine lv_iadd hx hb dJ6_stringSize_0f7a4_29 ?_
    rw [show ((3 + 0) : Int32) = (nI (dg v).length) from by rw [hdl]; decide]
    exact W.iret hx hb hr (fun t ht _ => ⟨⟨_, (), rfl, rfl, trivial⟩, hS.F ht⟩) hS.2.2 dJ6_stringSize_0f7a4_30 hlocks
  · have hdl : (dg v).length = 4 := by unfold dg; rw [if_neg (by omega), if_neg (by omega), if_neg (by omega)]; rfl
    refine lv_bipush (v := (mI 10)) hx hb dJ6_stringSize_0f7a4_11 (by decide) ?_
    refine lv_istore_n (lv' := [(2, .int (mI 10)), (0, .int (mI v)), (1, .int 0)]) hx hb dJ6_stringSize_0f7a4_13 rfl hl (by decide) rfl (fun ls hl => ?_)
    refine lv_iconst (v := 1) hx hb dJ6_stringSize_0f7a4_14 (by decide) ?_
    refine lv_istore_n (lv' := [(3, .int 1), (2, .int (mI 10)), (0, .int (mI v)), (1, .int 0)]) hx hb dJ6_stringSize_0f7a4_15 rfl hl (by decide) rfl (fun ls hl => ?_)
    refine lv_iload_n hx hb dJ6_stringSize_0f7a4_16 rfl (lv_at hl 0 rfl) ?_
    refine lv_bipush (v := 10) hx hb dJ6_stringSize_0f7a4_17 (by decide) ?_
    refine lv_icmp_ge (tgt := 42) hx hb dJ6_stringSize_0f7a4_19 (by decide) (fun q9 => absurd q9 (by decide)) (fun _ => ?_)
    refine lv_iload_n hx hb dJ6_stringSize_0f7a4_22 rfl (lv_at hl 2 rfl) ?_
    refine lv_iload_n hx hb dJ6_stringSize_0f7a4_23 rfl (lv_at hl 1 rfl) ?_
    refine lv_icmp_le (tgt := 31) hx hb dJ6_stringSize_0f7a4_24 (by decide) (fun _ => ?_) (fun q9 => absurd ((m_leI (by omega) (by decide)).mpr (by omega)) q9)
    refine lv_bipush (v := 10) hx hb dJ6_stringSize_0f7a4_31 (by decide) ?_
    refine lv_iload_n hx hb dJ6_stringSize_0f7a4_33 rfl (lv_at hl 1 rfl) ?_
    refine lv_imul hx hb dJ6_stringSize_0f7a4_34 ?_
    rw [show ((10 * (mI 10)) : Int32) = (mI 100) from by decide]
    refine lv_istore_n (lv' := [(2, .int (mI 100)), (3, .int 1), (0, .int (mI v)), (1, .int 0)]) hx hb dJ6_stringSize_0f7a4_35 rfl hl (by decide) rfl (fun ls hl => ?_)
    refine lv_iinc (v := 2) (lv' := [(3, .int 2), (2, .int (mI 100)), (0, .int (mI v)), (1, .int 0)]) hx hb dJ6_stringSize_0f7a4_36 hl (k := 1) rfl (by decide) (by decide) rfl (fun ls hl => ?_)
    refine lv_goto (tgt := 16) hx hb dJ6_stringSize_0f7a4_39 (by decide) ?_
    refine lv_iload_n hx hb dJ6_stringSize_0f7a4_16 rfl (lv_at hl 0 rfl) ?_
    refine lv_bipush (v := 10) hx hb dJ6_stringSize_0f7a4_17 (by decide) ?_
    refine lv_icmp_ge (tgt := 42) hx hb dJ6_stringSize_0f7a4_19 (by decide) (fun q9 => absurd q9 (by decide)) (fun _ => ?_)
    refine lv_iload_n hx hb dJ6_stringSize_0f7a4_22 rfl (lv_at hl 2 rfl) ?_
    refine lv_iload_n hx hb dJ6_stringSize_0f7a4_23 rfl (lv_at hl 1 rfl) ?_
    refine lv_icmp_le (tgt := 31) hx hb dJ6_stringSize_0f7a4_24 (by decide) (fun _ => ?_) (fun q9 => absurd ((m_leI (by omega) (by decide)).mpr (by omega)) q9)
    refine lv_bipush (v := 10) hx hb dJ6_stringSize_0f7a4_31 (by decide) ?_
    refine lv_iload_n hx hb dJ6_stringSize_0f7a4_33 rfl (lv_at hl 1 rfl) ?_
    refine lv_imul hx hb dJ6_stringSize_0f7a4_34 ?_
    rw [show ((10 * (mI 100)) : Int32) = (mI 1000) from by decide]
    refine lv_istore_n (lv' := [(2, .int (mI 1000)), (3, .int 2), (0, .int (mI v)), (1, .int 0)]) hx hb dJ6_stringSize_0f7a4_35 rfl hl (by decide) rfl (fun ls hl => ?_)
    refine lv_iinc (v := 3) (lv' := [(3, .int 3), (2, .int (mI 1000)), (0, .int (mI v)), (1, .int 0)]) hx hb dJ6_stringSize_0f7a4_36 hl (k := 1) rfl (by decide) (by decide) rfl (fun ls hl => ?_)
    refine lv_goto (tgt := 16) hx hb dJ6_stringSize_0f7a4_39 (by decide) ?_
    refine lv_iload_n hx hb dJ6_stringSize_0f7a4_16 rfl (lv_at hl 0 rfl) ?_
    refine lv_bipush (v := 10) hx hb dJ6_stringSize_0f7a4_17 (by decide) ?_
    refine lv_icmp_ge (tgt := 42) hx hb dJ6_stringSize_0f7a4_19 (by decide) (fun q9 => absurd q9 (by decide)) (fun _ => ?_)
    refine lv_iload_n hx hb dJ6_stringSize_0f7a4_22 rfl (lv_at hl 2 rfl) ?_
    refine lv_iload_n hx hb dJ6_stringSize_0f7a4_23 rfl (lv_at hl 1 rfl) ?_
    refine lv_icmp_le (tgt := 31) hx hb dJ6_stringSize_0f7a4_24 (by decide) (fun _ => ?_) (fun q9 => absurd ((m_leI (by omega) (by decide)).mpr (by omega)) q9)
    refine lv_bipush (v := 10) hx hb dJ6_stringSize_0f7a4_31 (by decide) ?_
    refine lv_iload_n hx hb dJ6_stringSize_0f7a4_33 rfl (lv_at hl 1 rfl) ?_
    refine lv_imul hx hb dJ6_stringSize_0f7a4_34 ?_
    rw [show ((10 * (mI 1000)) : Int32) = (mI 10000) from by decide]
    refine lv_istore_n (lv' := [(2, .int (mI 10000)), (3, .int 3), (0, .int (mI v)), (1, .int 0)]) hx hb dJ6_stringSize_0f7a4_35 rfl hl (by decide) rfl (fun ls hl => ?_)
    refine lv_iinc (v := 4) (lv' := [(3, .int 4), (2, .int (mI 10000)), (0, .int (mI v)), (1, .int 0)]) hx hb dJ6_stringSize_0f7a4_36 hl (k := 1) rfl (by decide) (by decide) rfl (fun ls hl => ?_)
    refine lv_goto (tgt := 16) hx hb dJ6_stringSize_0f7a4_39 (by decide) ?_
    refine lv_iload_n hx hb dJ6_stringSize_0f7a4_16 rfl (lv_at hl 0 rfl) ?_
    refine lv_bipush (v := 10) hx hb dJ6_stringSize_0f7a4_17 (by decide) ?_
    refine lv_icmp_ge (tgt := 42) hx hb dJ6_stringSize_0f7a4_19 (by decide) (fun q9 => absurd q9 (by decide)) (fun _ => ?_)
    refine lv_iload_n hx hb dJ6_stringSize_0f7a4_22 rfl (lv_at hl 2 rfl) ?_
    refine lv_iload_n hx hb dJ6_stringSize_0f7a4_23 rfl (lv_at hl 1 rfl) ?_
    refine lv_icmp_le (tgt := 31) hx hb dJ6_stringSize_0f7a4_24 (by decide) (fun q9 => absurd q9 (fun z => by have := (m_leI (by omega) (by decide)).mp z; omega)) (fun _ => ?_)
    refine lv_iload_n hx hb dJ6_stringSize_0f7a4_27 rfl (lv_at hl 0 rfl) ?_
    refine lv_iload_n hx hb dJ6_stringSize_0f7a4_28 rfl (lv_at hl 3 rfl) ?_
    refine lv_iadd hx hb dJ6_stringSize_0f7a4_29 ?_
    rw [show ((4 + 0) : Int32) = (nI (dg v).length) from by rw [hdl]; decide]
    exact W.iret hx hb hr (fun t ht _ => ⟨⟨_, (), rfl, rfl, trivial⟩, hS.F ht⟩) hS.2.2 dJ6_stringSize_0f7a4_30 hlocks
