/-! The law from its entry. -/
theorem wd_len {N : Nat} {ad : Nat → Nat} {L : Nat → (Nat → Int32) → va_E} {σ : St} : (wd N ad L σ).length = N := by simp [wd]
theorem two_l {N M : Nat} {ad ad2 : Nat → Nat} {L L2 : Nat → (Nat → Int32) → va_E} {σ τ : St} {i : Nat} (hi : i < N) : (wd N ad L σ ++ wd M ad2 L2 τ)[i]? = some (ad i, L i (σ i)) := by
  rw [List.getElem?_append_left (by rw [wd_len]; exact hi), wd_at hi]
theorem two_r {N M : Nat} {ad ad2 : Nat → Nat} {L L2 : Nat → (Nat → Int32) → va_E} {σ τ : St} {i : Nat} (hi : i < M) : (wd N ad L σ ++ wd M ad2 L2 τ)[N + i]? = some (ad2 i, L2 i (τ i)) := by
  rw [List.getElem?_append_right (by rw [wd_len]; omega), wd_len, Nat.add_sub_cancel_left, wd_at hi]
theorem two_P {N M : Nat} {ad ad2 : Nat → Nat} {L L2 : Nat → (Nat → Int32) → va_E} {σ τ : St} {D : va_G} {cl : List vw_C} {H : Heap} (h : va_P D cl (wd N ad L σ ++ wd M ad2 L2 τ) H) : va_P D cl (wd N ad L σ) H ∧ va_P D cl (wd M ad2 L2 τ) H := by
  refine ⟨fun k q hk => ?_, fun k q hk => ?_⟩
  · have hl := (List.getElem?_eq_some_iff.mp hk).1
    rw [wd_len] at hl
    rw [wd_at hl] at hk
    cases hk
    exact h k _ (two_l hl)
  · have hl := (List.getElem?_eq_some_iff.mp hk).1
    rw [wd_len] at hl
    rw [wd_at hl] at hk
    cases hk
    exact h (N + k) _ (two_r hl)
theorem two_D {N M : Nat} {ad ad2 : Nat → Nat} {L L2 : Nat → (Nat → Int32) → va_E} {σ τ : St} {A : Nat → Prop} (h : va_D A (wd N ad L σ ++ wd M ad2 L2 τ)) : WJ N ad ∧ WJ M ad2 ∧ (∀ q, WA N ad q → A q) ∧ (∀ q, WA M ad2 q → A q) ∧ ∀ i j, i < N → j < M → ad i ≠ ad2 j := by
  refine ⟨fun i j hi hj e => h.1 i j _ _ (two_l hi) (two_l hj) e, fun i j hi hj e => ?_, fun q hq => ?_, fun q hq => ?_, fun i j hi hj e => ?_⟩
  · have := h.1 (N + i) (N + j) _ _ (two_r hi) (two_r hj) e
    omega
  · obtain ⟨k, hk, rfl⟩ := hq
    exact h.2 k _ (two_l hk)
  · obtain ⟨k, hk, rfl⟩ := hq
    exact h.2 (N + k) _ (two_r hk)
  · have := h.1 i (N + j) _ _ (two_l hi) (two_r hj) e
    omega
theorem nd_93 : va_nd (List.range 93) = true := by decide +kernel
theorem dis_93 : ∀ i ∈ List.range 93, i ∉ [93] := by decide +kernel
theorem get_93 {ad : Nat → Nat} {L : Nat → (Nat → Int32) → va_E} {σ : St} {x : Nat × va_E} : (List.range 93).map (fun i => (wd 93 ad L σ ++ [x])[i]?) = (wd 93 ad L σ).map some := by
  apply List.ext_getElem?
  intro i
  rw [List.getElem?_map, List.getElem?_map]
  by_cases hi : i < 93
  · rw [List.getElem?_range hi, wd_at hi]
    show some ((wd 93 ad L σ ++ [x])[i]?) = _
    rw [List.getElem?_append_left (by rw [wd_len]; exact hi), wd_at hi]
    rfl
  · rw [List.getElem?_eq_none (by rw [List.length_range]; omega), List.getElem?_eq_none (by rw [wd_len]; omega)]
    rfl
theorem get_93x {ad : Nat → Nat} {L : Nat → (Nat → Int32) → va_E} {σ : St} {x : Nat × va_E} : (wd 93 ad L σ ++ [x])[93]? = some x := by
  rw [List.getElem?_append_right (by rw [wd_len]; omega), wd_len]
  rfl
theorem at_NWx {s : State} {args : Array Value} (hts : ∀ w ∈ lw_tbl, w.before args s = true) : NWx s :=
  ⟨⟨va_Nw.of rfl (hts (.methodLinkNest RX2 24 yX1_init RX6) (by decide +kernel)), va_AO.of (hts (.arrayOver (.object RX1)) (by decide +kernel))⟩, va_Nw.of rfl (hts (.methodLinkNest RX6 11 yX1_init RX6) (by decide +kernel)), va_Nw.of rfl (hts (.methodLinkNest RX6 25 yX4_init RX6) (by decide +kernel)), va_Nw.of rfl (hts (.methodLinkNest RX6 48 yX5_init RX6) (by decide +kernel)), va_Nw.of rfl (hts (.methodLinkNest RX6 55 yX3_init RX6) (by decide +kernel))⟩
set_option maxHeartbeats 8000000 in
set_option maxRecDepth 100000 in
theorem whole_start {p : Program} {e : Env} {s : State} {m : MethodId} {below : List Frame} {meth : Method} {c : Code} (l : Launch) (hflags : l.flags = flags0) {b L : Nat} {xs : Nat → Int32} (hL : L ≤ 1536) (C0 : lw_At p s m meth c b L xs) : W p l e room_1 s m #[Value.ref b] below meth c s.heap [] 0 0 (lw_Z below #[Value.ref b] s) (entryFrame m ([Value.ref b] : List Value).toArray 8) := by
  obtain ⟨hx, hb, hr, hml, hown, hts, hX, hbl, hlocks, hgv⟩ := id C0
  have hown : s.vm.findClass RL = some m.cls := hown
  have hts0 : ∀ w ∈ wsL_law, w.before #[Value.ref b] s = true := fun w h => hts w (wsL_law_in w h)
  have hA : ∀ q : Nat, s.heap.size ≤ q → (fun q : Nat => s.heap.size ≤ q) q := fun _ h => h
  have hbA : ¬ (fun q : Nat => s.heap.size ≤ q) b := Nat.not_le.mpr hbl
  obtain ⟨dC, dI, cy, hK⟩ := at_K hts
  obtain ⟨sa, hE⟩ := at_EX (A := fun q : Nat => s.heap.size ≤ q) hts hgv (fun a h => Nat.not_le.mpr h)
  have hN := at_NWx hts
  have hS : va_S (fun q : Nat => s.heap.size ≤ q) s.heap s.heap [] := va_S.rf
  have hP : va_P (dC, dI) vwCl [] s.heap := fun k q h => by simp at h
  have hD : va_D (fun q : Nat => s.heap.size ≤ q) [] := ⟨fun i j p q h => by simp at h, fun k q h => by simp at h⟩
  have hl := lv_entry ([.ref b]) (n := 8) (Nat.le_of_ble_eq_true rfl)
  rw [lg_entry_eq]
  generalize (lg_sl ([.ref b]) ++ List.replicate (8 - (lg_sl ([.ref b])).length) Slot.unset).toArray = ls at hl ⊢
  have hl : lv_has ls 8 [(0, .ref b)] := hl
  refine va_new (ci := 6) (fs := [.null, .null, .null, .null, .null, .null, .null, .null, .null, .int 0, .int 0, .int 0]) (C := RX6) (T := TX6) (N := 12) hx hb hts wsX60_in tyX6 tyX6_ok hown (hts (.classLink RL 7 RX6) (by decide +kernel)) (hts (.instantiable RX6 12) (by decide +kernel)) (hts (.initialized RX6) (by decide +kernel)) hK hP hD hS hA rfl dfX6 (Nat.le_of_ble_eq_true rfl) (Nat.le_of_ble_eq_true rfl) dL_law_0 (fun q0 H hP hD hS => ?_)
  have hP : va_P (dC, dI) vwCl [(q0, .inr (6, [.null, .null, .null, .null, .null, .null, .null, .null, .null, .int 0, .int 0, .int 0]))] H := hP
  have hD : va_D (fun q : Nat => s.heap.size ≤ q) [(q0, .inr (6, [.null, .null, .null, .null, .null, .null, .null, .null, .null, .int 0, .int 0, .int 0]))] := hD
  refine lv_dup hx hb dL_law_3 rfl ?_
  have hFc := va_free (wc := [(q0, .inr (6, [.null, .null, .null, .null, .null, .null, .null, .null, .null, .int 0, .int 0, .int 0]))]) hD hS hA [0] rfl
  refine va_callv (va_runI (As := []) (rest := [.ref q0]) ⟨hx, hb, hml, hown, hts0⟩ (mX6_init l dC dI cy q0 H.size) (cwI 0 hts0 gL_law_X6_init rfl rfl rfl (hts (.initialized RX6) (by decide +kernel)) (hts (.methodLink RL 9 yX6_init) (by decide +kernel)) (hts (.instanceMethod yX6_init) (by decide +kernel)) rfl dmX6_init ⟨Nat.le_of_ble_eq_true rfl, Nat.le_of_ble_eq_true rfl⟩) ⟨PcK_blind (fun _ _ _ _ h => NWx.call h), fun U hU hW => ⟨rfl, by rw [hU], by rw [hU]; exact hP, va_K.moved hW.alike hK, NWx.warm hW hN⟩⟩ rfl rfl hl.1 rfl (lv_room (Nat.le_of_ble_eq_true rfl)) dL_law_4 ⟨Nat.le_of_ble_eq_true rfl, Nat.le_of_ble_eq_true rfl⟩) hS (fun q _ h => hFc q h) hFc (fun u t H1 locs ht hvm hw hB hz1 hk1 hS => ?_)
  obtain ⟨adX, e0, hP1, hD1⟩ := X_world hB
  rw [ht] at hP1
  subst e0
  obtain ⟨hP, hD⟩ := va_join (wr := []) (w1 := wd 93 adX (layX adX cy) stX0) hP hD [0] [] rfl rfl (by decide) (by decide) hk1 hFc hP1 hD1
  generalize H1 = H at hP hS ⊢
  have hP : va_P (dC, dI) vwCl (wd 93 adX (layX adX cy) stX0) H := hP
  have hD : va_D (fun q : Nat => s.heap.size ≤ q) (wd 93 adX (layX adX cy) stX0) := hD
  refine lv_astore_n (lv' := [(1, .ref (adX 0)), (0, .ref b)]) hx hb dL_law_7 rfl hl (by decide) rfl (fun ls hl => ?_)
  refine va_new (ci := 7) (fs := [.null, .int 0, .int 0, .int 0, .int 0, .null, .null, .null, .null, .null, .null, .null, .null, .null, .null, .null, .int 0, .null, .int 0, .int 0, .int 0, .null, .int 0, .null, .int 0]) (C := RX7) (T := TX7) (N := 25) hx hb hts wsX70_in tyX7 tyX7_ok hown (hts (.classLink RL 10 RX7) (by decide +kernel)) (hts (.instantiable RX7 25) (by decide +kernel)) (hts (.initialized RX7) (by decide +kernel)) hK hP hD hS hA rfl dfX7 (Nat.le_of_ble_eq_true rfl) (Nat.le_of_ble_eq_true rfl) dL_law_8 (fun p0 H hP hD hS => ?_)
  refine lv_dup hx hb dL_law_11 rfl ?_
  have hPc := hP.sub (ws' := [(p0, .inr (7, [.null, .int 0, .int 0, .int 0, .int 0, .null, .null, .null, .null, .null, .null, .null, .null, .null, .null, .null, .int 0, .null, .int 0, .int 0, .int 0, .null, .int 0, .null, .int 0]))]) [93] (by rw [List.filterMap_cons_some get_93x]; rfl)
  have hFc := va_free (wc := [(p0, .inr (7, [.null, .int 0, .int 0, .int 0, .int 0, .null, .null, .null, .null, .null, .null, .null, .null, .null, .null, .null, .int 0, .null, .int 0, .int 0, .int 0, .null, .int 0, .null, .int 0]))]) hD hS hA [93] (by rw [List.map_cons, get_93x]; rfl)
  refine va_callv (va_runI (As := []) (rest := [.ref p0]) ⟨hx, hb, hml, hown, hts0⟩ (mX7_init l dC dI cy p0 H.size) (cwI 0 hts0 gL_law_X7_init rfl rfl rfl (hts (.initialized RX7) (by decide +kernel)) (hts (.methodLink RL 12 yX7_init) (by decide +kernel)) (hts (.instanceMethod yX7_init) (by decide +kernel)) rfl dmX7_init ⟨Nat.le_of_ble_eq_true rfl, Nat.le_of_ble_eq_true rfl⟩) ⟨PcK_blind (fun _ _ _ _ _ => trivial), fun U hU hW => ⟨rfl, by rw [hU], by rw [hU]; exact hPc, va_K.moved hW.alike hK, trivial⟩⟩ rfl rfl hl.1 rfl (lv_room (Nat.le_of_ble_eq_true rfl)) dL_law_12 ⟨Nat.le_of_ble_eq_true rfl, Nat.le_of_ble_eq_true rfl⟩) hS (fun q _ h => hFc q h) hFc (fun u t H1 locs ht hvm hw hB hz1 hk1 hS => ?_)
  obtain ⟨adM, e0, hP1, hD1⟩ := M_world hB
  rw [ht] at hP1
  subst e0
  obtain ⟨hP, hD⟩ := va_join (wr := wd 93 adX (layX adX cy) stX0) (w1 := wd 16 adM (layM adM cy) stM0) hP hD [93] (List.range 93) (by rw [List.map_cons, get_93x]; rfl) get_93 nd_93 dis_93 hk1 hFc hP1 hD1
  generalize H1 = H at hP hS ⊢
  obtain ⟨hPX, hPM⟩ := two_P hP
  obtain ⟨hJX, hJM, hAX, hAM, hdis⟩ := two_D hD
  refine lv_astore_n (lv' := [(2, .ref (adM 0)), (1, .ref (adX 0)), (0, .ref b)]) hx hb dL_law_15 rfl hl (by decide) rfl (fun ls hl => ?_)
  refine lv_iconst (v := nI 0) hx hb dL_law_16 (by decide) ?_
  refine lv_istore_n (lv' := [(3, .int (nI 0)), (2, .ref (adM 0)), (1, .ref (adX 0)), (0, .ref b)]) hx hb dL_law_17 rfl hl (by decide) rfl (fun ls hl => ?_)
  refine W.widen (k := 600000) (n := 7302250) (Nat.le_of_ble_eq_true rfl) (Nat.le_of_ble_eq_true rfl) ?_
  refine W.base ?_
  exact law_loop hL ⟨hx, hb, hml, hown, hts0, hX, hbl, hK, hJX, hJM, hAX, hAM, hdis, hE⟩ sim_all hr hlocks (L + 1) 0 (by omega) (Nat.zero_le _) s.drawn (Drawn.sameBut.refl s.drawn lw_cs) stX0 stM0 all0 H _ hPX hPM hS ls (lv_sub hl [3, 2, 1, 0] rfl)
