/-! The law, from its entry to its end. -/
theorem wd_DJ {N : Nat} {ad : Nat → Nat} {L : Nat → (Nat → Int32) → va_E} {σ : St} {A : Nat → Prop} (h : va_D A (wd N ad L σ)) : WJ N ad ∧ ∀ q, WA N ad q → A q :=
  ⟨fun i j hi hj e => h.1 i j _ _ (wd_at hi) (wd_at hj) e, fun q hq => by
    obtain ⟨k, hk, rfl⟩ := hq
    exact h.2 k _ (wd_at hk)⟩
set_option maxHeartbeats 8000000 in
set_option maxRecDepth 100000 in
theorem law_turns {p : Program} {l : Launch} {e : Env} {s : State} {m : MethodId} {below : List Frame} {meth : Method} {c : Code} {dC : Nat → ClassId} {dI : Nat → Nat → Nat} {cy : Nat → ClassId} {tb : Nat × Nat} {adX : Nat → Nat} {aK aV : Nat → Nat} {zX b bL : Nat} {xs : Nat → Int32} (F : LF p s m c dC dI cy tb adX aK aV zX b bL xs) (hAO : ∀ d0, va_AO RJ0 (s.setDrawn d0)) (hbl : bL < 2 ^ 31) (hx : p.tables.exec = Jvm.exec) (hb : c.code = code) (hr : meth.sig.returnType = ret) (hlocks : meth.locks = false) :
    ∀ n turn, turn + n = 4 → ∀ (d0 : Drawn), s.drawn.sameBut d0 lw_cs → ∀ (σ : St) (d : HD), CI σ d → 1 ≤ dP d → ∀ (H : Heap) (locs : List Loc), LWd (s.setDrawn d0) dC dI cy adX 0 (fun _ => 0) zX (fun _ => True) σ (fun _ _ => 0) H locs → ∀ ls : Array Slot, lv_has ls 31 [(0, .ref b), (1, .ref (adX 0)), (2, .int (nI turn))] → W p l e room_1 (s.setDrawn d0) m #[Value.ref b] below meth c H locs (100000 + 1000 * turn) (1000000 + 110000 * turn) (lw_Z below #[Value.ref b] s) (F0 m 15 ls []) := by
  intro n
  induction n with
  | zero =>
    intro turn ht d0 hd0 σ d hI hp H locs hw ls hl
    obtain rfl : turn = 4 := by omega
    have hb2 : c.code = cL_law := F.S.2.1
    refine lv_iload_n hx hb2 dL_law_15 rfl (lv_at hl 2 rfl) ?_
    refine lv_iconst (v := nI 4) hx hb2 dL_law_16 (by decide) ?_
    refine lv_icmp_ge (tgt := 1701) hx hb2 dL_law_17 (by decide) (fun _ => ?_) (fun q9 => absurd (nI_le (Nat.le_refl _) (by omega)) q9)
    refine lv_iconst (v := 1) hx hb2 dL_law_1701 (by decide) ?_
    refine va_forget hw.S.2.2 ?_
    refine W.widen (k := 723972) (n := 6930331) (by omega) (by omega) ?_
    exact lw_ret hd0 hx hb hr hlocks dL_law_1702
  | succ n ih =>
    intro turn ht d0 hd0 σ d hI hp H locs hw ls hl
    refine law_turn (nc := 100000 + 1000 * turn) (ns := 1000000 + 110000 * turn) (F.dr d0) (hAO d0) hbl hI hp (by omega) (by omega) (by omega) (fun d2 σ2 d3 hd2 hI2 hp2 H locs hw ls hl => ?_) H locs hw ls hl
    have hd3 : s.drawn.sameBut d2 lw_cs := hd0.trans hd2
    refine W.widen (k := 100000 + 1000 * (turn + 1)) (n := 1000000 + 110000 * (turn + 1)) (by omega) (by omega) ?_
    exact ih (turn + 1) (by omega) d2 hd3 σ2 d3 hI2 hp2 H locs hw ls hl
theorem at_NWx {s : State} {args : Array Value} (hts : ∀ w ∈ lw_tbl, w.before args s = true) : NWx s :=
  ⟨⟨va_Nw.of rfl (hts (.methodLinkNest RX2 24 yX1_init RX6) (by decide +kernel)), va_AO.of (hts (.arrayOver (.object RX1)) (by decide +kernel))⟩, va_Nw.of rfl (hts (.methodLinkNest RX6 11 yX1_init RX6) (by decide +kernel)), va_Nw.of rfl (hts (.methodLinkNest RX6 25 yX4_init RX6) (by decide +kernel)), va_Nw.of rfl (hts (.methodLinkNest RX6 48 yX5_init RX6) (by decide +kernel)), va_Nw.of rfl (hts (.methodLinkNest RX6 55 yX3_init RX6) (by decide +kernel))⟩
set_option maxHeartbeats 8000000 in
set_option maxRecDepth 100000 in
theorem whole_start {p : Program} {e : Env} {s : State} {m : MethodId} {below : List Frame} {meth : Method} {c : Code} (l : Launch) (hflags : l.flags = flags0) {b L : Nat} {xs : Nat → Int32} (hL : L ≤ 260) (C0 : lw_At p s m meth c b L xs) : W p l e room_1 s m #[Value.ref b] below meth c s.heap [] 0 0 (lw_Z below #[Value.ref b] s) (entryFrame m ([Value.ref b] : List Value).toArray 31) := by
  obtain ⟨hx, hb, hr, hml, hown, hts, hX, hbl, hlocks, hgv⟩ := id C0
  have hown : s.vm.findClass RL = some m.cls := hown
  have hts0 : ∀ w ∈ wsL_law, w.before #[Value.ref b] s = true := fun w h => lw_hts2 hts w (wsL_law_in w h)
  have hA : ∀ q : Nat, s.heap.size ≤ q → (fun q : Nat => s.heap.size ≤ q) q := fun _ h => h
  have hbA : ¬ (fun q : Nat => s.heap.size ≤ q) b := Nat.not_le.mpr hbl
  obtain ⟨dC, dI, cy, hK⟩ := at_K hts hts0
  obtain ⟨⟨tb, hE⟩, aK, aV, hEC⟩ := at_E (A := fun q : Nat => s.heap.size ≤ q) hts hgv (fun a h => Nat.not_le.mpr h)
  have hN := at_NWx hts
  have hS : va_S (fun q : Nat => s.heap.size ≤ q) s.heap s.heap [] := va_S.rf
  have hP : va_P (dC, dI) vwCl [] s.heap := fun k q h => by simp at h
  have hD : va_D (fun q : Nat => s.heap.size ≤ q) [] := ⟨fun i j p q h => by simp at h, fun k q h => by simp at h⟩
  have hl := lv_entry ([.ref b]) (n := 31) (Nat.le_of_ble_eq_true rfl)
  rw [lg_entry_eq]
  generalize (lg_sl ([.ref b]) ++ List.replicate (31 - (lg_sl ([.ref b])).length) Slot.unset).toArray = ls at hl ⊢
  have hl : lv_has ls 31 [(0, .ref b)] := hl
  refine va_new (ci := 6) (fs := [.null, .null, .null, .null, .null, .null, .null, .null, .null, .int 0, .int 0, .int 0]) (C := RX6) (T := TX6) (N := 12) hx hb hts0 jx_6 tyX6 tyX6_ok hown (hts (.classLink RL 13 RX6) (by decide +kernel)) (hts (.instantiable RX6 12) (by decide +kernel)) (hts (.initialized RX6) (by decide +kernel)) hK hP hD hS hA rfl dfX6 (Nat.le_of_ble_eq_true rfl) (Nat.le_of_ble_eq_true rfl) dL_law_0 (fun q0 H hP hD hS => ?_)
  have hP : va_P (dC, dI) vwCl [(q0, .inr (6, [.null, .null, .null, .null, .null, .null, .null, .null, .null, .int 0, .int 0, .int 0]))] H := hP
  have hD : va_D (fun q : Nat => s.heap.size ≤ q) [(q0, .inr (6, [.null, .null, .null, .null, .null, .null, .null, .null, .null, .int 0, .int 0, .int 0]))] := hD
  refine lv_dup hx hb dL_law_3 rfl ?_
  have hFc := va_free (wc := [(q0, .inr (6, [.null, .null, .null, .null, .null, .null, .null, .null, .null, .int 0, .int 0, .int 0]))]) hD hS hA [0] rfl
  refine va_callv (va_runI (As := []) (rest := [.ref q0]) ⟨hx, hb, hml, hown, hts0⟩ (mX6_init l dC dI cy q0 H.size) (cwI 0 hts0 gL_law_X6_init rfl rfl rfl (hts (.initialized RX6) (by decide +kernel)) (hts (.methodLink RL 97 yX6_init) (by decide +kernel)) (hts (.instanceMethod yX6_init) (by decide +kernel)) rfl dmX6_init ⟨Nat.le_of_ble_eq_true rfl, Nat.le_of_ble_eq_true rfl⟩) ⟨PcK_blind (fun _ _ _ _ h => NWx.call h), fun U hU hW => ⟨rfl, by rw [hU], by rw [hU]; exact hP, va_K.moved hW.alike hK, NWx.warm hW hN⟩⟩ rfl rfl hl.1 rfl (lv_room (Nat.le_of_ble_eq_true rfl)) dL_law_4 ⟨Nat.le_of_ble_eq_true rfl, Nat.le_of_ble_eq_true rfl⟩) hS (fun q _ h => hFc q h) hFc (fun u t H1 locs ht hvm hw hB hz1 hk1 hS => ?_)
  obtain ⟨adX, e0, hP1, hD1⟩ := X_world hB
  rw [ht] at hP1
  subst e0
  obtain ⟨hP, hD⟩ := va_join (wr := []) (w1 := wd 93 adX (layX adX cy) stX0) hP hD [0] [] rfl rfl (by decide) (by decide) hk1 hFc hP1 hD1
  generalize H1 = H at hP hS ⊢
  have hP : va_P (dC, dI) vwCl (wd 93 adX (layX adX cy) stX0) H := hP
  have hD : va_D (fun q : Nat => s.heap.size ≤ q) (wd 93 adX (layX adX cy) stX0) := hD
  refine lv_astore_n (lv' := [(1, .ref (adX 0)), (0, .ref b)]) hx hb dL_law_7 rfl hl (by decide) rfl (fun ls hl => ?_)
  have hbd0 : va_D (fun q : Nat => s.heap.size ≤ q) (wd 93 adX (layX adX cy) stX0) := hD
  obtain ⟨hJX, hAX⟩ := wd_DJ hbd0
  have hlt : ∀ q, WA 93 adX q → q < H.size := fun q hq => by
    obtain ⟨k, hk, rfl⟩ := hq
    exact (hP k _ (wd_at hk)).lt
  have F : LF p s m c dC dI cy tb adX aK aV H.size b L xs := ⟨⟨hx, hb, hml, hown, hts0⟩, hX, hbl, hK, hJX, fun q hq => ⟨hAX q hq, hlt q hq⟩, hE, hEC, hS.1⟩
  have T : LT 0 (fun _ => 0) H.size H.size := ⟨Nat.zero_le _, fun q h => by obtain ⟨k, hk, _⟩ := h; omega, fun i j hi => by omega, Nat.le_refl _⟩
  have hw : LWd s dC dI cy adX 0 (fun _ => 0) H.size (fun _ => True) stX0 (fun _ _ => 0) H locs := ⟨hP, fun k x hx => by simp [wd] at hx, trivial, hS, Nat.le_refl _⟩
  have kg := KG.T H.size
  have hb31 : L < 2 ^ 31 := by omega
  obtain ⟨⟨d0, hc0⟩, hrest⟩ := all0
  obtain ⟨σ1, σM1, d1, y1, y2, y3⟩ := sd_build hb31 xs (show allD stX0 stM0 d0 from ⟨hc0, hrest⟩)
  generalize hzX : H.size = zX at F T hw kg
  refine lv_aload_n hx hb dL_law_8 rfl (lv_at hl 0 rfl) ?_
  refine lv_aload_n hx hb dL_law_9 rfl (lv_at hl 1 rfl) ?_
  refine lx_vx (As := [.ref (adX 0), .ref b]) (rest := []) F T kg (mL_build l dC dI adX cy hJX b L xs stX0 σ1 y1) (va_cwS 2 hts0 gL_law_L_build rfl rfl rfl dmL_build ⟨Nat.le_of_ble_eq_true rfl, Nat.le_of_ble_eq_true rfl⟩) hw rfl rfl hl.1 (Nat.le_of_ble_eq_true rfl) ⟨Nat.le_of_ble_eq_true rfl, Nat.le_of_ble_eq_true rfl⟩ dL_law_10 (fun H locs hw => ?_)
  refine lv_iconst (v := nI 0) hx hb dL_law_13 (by decide) ?_
  refine lv_istore_n (lv' := [(2, .int (nI 0)), (1, .ref (adX 0)), (0, .ref b)]) hx hb dL_law_14 rfl hl (by decide) rfl (fun ls hl => ?_)
  refine W.widen (k := 100000 + 1000 * 0) (n := 1000000 + 110000 * 0) (Nat.le_of_ble_eq_true rfl) (Nat.le_of_ble_eq_true rfl) ?_
  refine W.base ?_
  exact law_turns F (fun d0 => va_AO.of (dr_words hts d0 (.arrayOver (.object RJ0)) (by decide +kernel))) hb31 hx hb hr hlocks 4 0 (by omega) s.drawn (Drawn.sameBut.refl s.drawn lw_cs) σ1 d1 (CI.of y2) y3 H locs hw ls (lv_sub hl [2, 1, 0] rfl)
