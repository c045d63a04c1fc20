/-! The law's rows on texts. -/
section LT
variable {p : Program} {l : Launch} {e : Env} {R : Room} {s : State} {m : MethodId} {args : Array Value} {below : List Frame} {meth : Method} {c : Code} {H : Heap} {locs : List Loc} {cells slots : Nat} {Q : State → Prop}
variable {cc : ByteArray} {pc : Nat} {ls : Array Slot} {rest st : List Value} {dC : Nat → ClassId} {dI : Nat → Nat → Nat} {cy : Nat → ClassId}
variable {tb : Nat × Nat} {Ts : List Cond} {nL index : Nat} {own : String}
/-- new StringBuilder() -/
theorem xb_new {i2 : Nat} (S : CallFix p m c cc nL s args Ts own) (hin : ∀ w ∈ wsJ40, w ∈ Ts) (hg : GoodIn Ts wsJ4_init_da8c8) (w1 : (Cond.classLink own index RJ4).before args s = true) (w2 : (Cond.instantiable RJ4 4).before args s = true) (w3 : (Cond.initialized RJ4).before args s = true) (w4 : (Cond.methodLink own i2 yJ4_init_da8c8).before args s = true) (w5 : (Cond.instanceMethod yJ4_init_da8c8).before args s = true)
    (hK : va_K (dC, dI) vwCl (tysX cy) s) (hE : EJ (fun q => s.heap.size ≤ q) tb s s.heap) (hS : va_S (fun q => s.heap.size ≤ q) s.heap H locs) (hsize : ls.size = nL) (hW : (rest.map fun v => v.category).sum ≤ 7) (hR : 3 ≤ R.frames ∧ 120 ≤ R.locals) (hf : cells + 2 ≤ R.cells ∧ slots + 20 ≤ R.slots) (hd0 : decode cc pc = .ok (.new index, 3)) (hd1 : decode cc (pc + 3) = .ok (.dup, 1)) (hd2 : decode cc (pc + 4) = .ok (.invokespecial i2, 3))
    (kk : ∀ (B V : Nat) (H1 : Heap) (locs1 : List Loc), BdA (dC, dI) cy B V 16 (fun _ => 0) [] H.size H1 → va_S (fun q => s.heap.size ≤ q) s.heap H1 locs1 → H.size ≤ H1.size → (∀ q, q < H.size → H1[q]? = H[q]?) → W p l e R s m args below meth c H1 locs1 (cells + 2) (slots + 20) Q (F0 m (pc + 7) ls (.ref B :: rest))) : W p l e R s m args below meth c H locs cells slots Q (F0 m pc ls rest) := by
  obtain ⟨hx, hb, hml, hown, hts⟩ := id S
  have hz0 := hS.1
  refine va_forget hS.2.2 ?_
  have hP0 : va_P (dC, dI) vwCl [] H := fun k q h => by simp at h
  have hD0 : va_D (fun q => H.size ≤ q) [] := ⟨fun i j p q h => by simp at h, fun k q h => by simp at h⟩
  refine va_new (A := fun q => H.size ≤ q) (H0 := H) (ws := []) (ci := 8) (fs := [.null, .int 0, .int 0, .int 0]) (C := RJ4) (T := TJ4) (N := 4) hx hb hts hin tyJ4 tyJ4_ok hown w1 w2 w3 hK hP0 hD0 va_S.rf (fun _ h => h) rfl dfJ4 (by omega) (by omega) hd0 (fun B H1 hP hD hS1 => ?_)
  have hP : va_P (dC, dI) vwCl [(B, .inr (8, [.null, .int 0, .int 0, .int (nI 0)]))] H1 := by rw [nI_0]; exact hP
  have hBz : H.size ≤ B := hD.2 0 _ rfl
  refine lv_dup hx hb hd1 rfl ?_
  have hA2 : ∀ x, va_A [(B, .inr (8, [.null, .int 0, .int 0, .int (nI 0)]))] H1.size x → H.size ≤ x := fun x h => by
    rcases h with ⟨k, e0, h⟩ | h
    · match k, h with
      | 0, h => cases h; exact hBz
      | k + 1, h => simp at h
    · exact Nat.le_trans hS1.1 h
  have hS2 := S_trans hS hS1 rfl (fun q h => Nat.le_trans hz0 h)
  refine va_callv (A0 := fun q => H.size ≤ q) (H0 := H) (va_runI (As := []) (rest := .ref B :: rest) S (mJ4_init_da8c8 l dC dI cy tb B H1.size) (cwI 0 hts hg rfl rfl rfl w3 w4 w5 rfl ⟨by decide, by decide, by decide +kernel⟩ ⟨by show 2 + 1 ≤ _; omega, by show 8 + (1 + 11) + 100 ≤ _; omega⟩) ⟨PcJ_blind, fun U hU hW2 => ⟨rfl, by rw [hU], by rw [hU]; exact hP, va_K.moved hW2.alike hK, hE.go hS2 hU hW2 (fun x h => Nat.le_trans hz0 (hA2 x h))⟩⟩ rfl rfl hsize rfl (lv_room (by simp only [List.map_cons, List.sum_cons]; show 1 + _ ≤ 8; omega)) hd2 ⟨by omega, by omega⟩) hS1 (fun x _ h => hA2 x h) (fun x h => hA2 x h) (fun V tS H2 locs2 ht _ _ hB _ hk2 hS3 => ?_)
  obtain ⟨hP2, hD2⟩ := hB
  rw [ht] at hP2
  have hBV : B ≠ V := fun e0 => by have := hD2.1 0 1 _ _ rfl rfl e0; omega
  refine W.widen (k := cells + 2) (n := slots + 20) (by omega) (by omega) ?_
  refine kk B V H2 locs2 ⟨hBV, hBz, hA2 V (hD2.2 1 _ rfl), ⟨Nat.zero_le _, by decide, fun i hi => absurd hi (Nat.not_lt_zero i), fun c hc => by simp at hc, sb_fit0⟩, hP2⟩ (S_trans hS hS3 rfl (fun q h => Nat.le_trans hz0 h)) hS3.1 (fun q h => hS3.2.1 q h (Nat.not_le.mpr h))
/-- append(int) -/
theorem xb_int {B V mb v lo : Nat} {a : Nat → Int32} {t : List Nat} (S : CallFix p m c cc nL s args Ts own) (hB : BdA (dC, dI) cy B V mb a t lo H) (hlo : lo ≤ H.size) (hlo2 : s.heap.size ≤ lo) (ht9 : t.length ≤ 96) (hv : v ≤ 9999) (cw : CallW R s args own RJ4 index yJ4_append_bf812 cJ4_append_bf812 2 (some (.object "java/lang/StringBuilder")) wsJ4_append_bf812 rmJ4_append_bf812 1 200 1) (hK : va_K (dC, dI) vwCl (tysX cy) s) (hE : EJ (fun q => s.heap.size ≤ q) tb s s.heap) (hS : va_S (fun q => s.heap.size ≤ q) s.heap H locs)
    (hsize : ls.size = nL) (hW : (rest.map fun v => v.category).sum ≤ 8) (hf : cells + 1 ≤ R.cells ∧ slots + 200 ≤ R.slots) (hdg : decode cc pc = .ok (.invokevirtual index, 3))
    (kk : ∀ (V1 m1 : Nat) (a1 : Nat → Int32) (H1 : Heap) (locs1 : List Loc), BdA (dC, dI) cy B V1 m1 a1 (t ++ dg v) lo H1 → va_S (fun q => s.heap.size ≤ q) s.heap H1 locs1 → H.size ≤ H1.size → (∀ q, q < lo → H1[q]? = H[q]?) → W p l e R s m args below meth c H1 locs1 (cells + 1) (slots + 200) Q (F0 m (pc + 3) ls (.ref B :: rest))) : W p l e R s m args below meth c H locs cells slots Q (F0 m pc ls (.int (nI v) :: .ref B :: rest)) := by
  obtain ⟨h1, h2, h3, h4, h5⟩ := id hB
  refine va_callr (va_runV (As := [.int (nI v)]) (rest := rest) S (mJ4_append_bf812 l dC dI cy tb B V mb a t H.size h1 h4 ht9 v hv) cw ⟨PcJ_blind, va_recv hK h5 (ci := 8) (q0 := 0) rfl rfl, fun U hU hW2 => ⟨rfl, by rw [hU], by rw [hU]; exact h5, va_K.moved hW2.alike hK, hE.go hS hU hW2 (fun x h => Nat.le_trans hlo2 (hB.sub hlo h))⟩⟩ rfl rfl hsize rfl (lv_room hW) hdg hf) hS (fun x _ h => Nat.le_trans hlo2 (hB.sub hlo h)) (fun x h => Nat.le_trans hlo2 (hB.sub hlo h)) (fun u ra tS H1 locs1 ht _ hw hB1 hz hk1 hS1 => ?_)
  obtain ⟨rfl, hP1, hD1⟩ := hB1
  rw [ht] at hP1
  exact kk u.1 u.2.1 u.2.2 H1 locs1 ⟨fun e0 => by have := hD1.1 0 1 _ _ rfl rfl e0; omega, h2, hB.sub hlo (hD1.2 1 _ rfl), hw, hP1⟩ hS1 hz (fun q h => hk1 q (Nat.lt_of_lt_of_le h hlo) (fun w => absurd h (Nat.not_lt.mpr (hB.sub hlo w))))
/-- append(String) -/
theorem xb_str {B V mb q v lo : Nat} {a tx : Nat → Int32} {t w : List Nat} (S : CallFix p m c cc nL s args Ts own) (hB : BdA (dC, dI) cy B V mb a t lo H) (hlo : lo ≤ H.size) (hlo2 : s.heap.size ≤ lo) (ht9 : t.length + w.length ≤ 100) (hwt : ∀ i, i < w.length → tx i = nI (w.getD i 0)) (hwc : ∀ c ∈ w, c < 128) (hTc : ∀ U : State, U.heap = H → s.WarmedH U.vm → sT q v w.length tx (va_A (SB cy B V mb a t.length) H.size) U U.heap)
    (cw : CallW R s args own RJ4 index yJ4_append_15ec4 cJ4_append_15ec4 2 (some (.object "java/lang/StringBuilder")) wsJ4_append_15ec4 rmJ4_append_15ec4 1 200 1) (hK : va_K (dC, dI) vwCl (tysX cy) s) (hE : EJ (fun q => s.heap.size ≤ q) tb s s.heap) (hS : va_S (fun q => s.heap.size ≤ q) s.heap H locs)
    (hsize : ls.size = nL) (hW : (rest.map fun v => v.category).sum ≤ 8) (hf : cells + 1 ≤ R.cells ∧ slots + 200 ≤ R.slots) (hdg : decode cc pc = .ok (.invokevirtual index, 3))
    (kk : ∀ (V1 m1 : Nat) (a1 : Nat → Int32) (H1 : Heap) (locs1 : List Loc), BdA (dC, dI) cy B V1 m1 a1 (t ++ w) lo H1 → va_S (fun q => s.heap.size ≤ q) s.heap H1 locs1 → H.size ≤ H1.size → (∀ q, q < lo → H1[q]? = H[q]?) → W p l e R s m args below meth c H1 locs1 (cells + 1) (slots + 200) Q (F0 m (pc + 3) ls (.ref B :: rest))) : W p l e R s m args below meth c H locs cells slots Q (F0 m pc ls (.ref q :: .ref B :: rest)) := by
  obtain ⟨h1, h2, h3, h4, h5⟩ := id hB
  refine va_callr (va_runV (As := [.ref q]) (rest := rest) S (mJ4_append_15ec4 l dC dI cy tb B V mb a t H.size h1 h4 q v tx w hwt hwc ht9) cw ⟨PcS_blind, va_recv hK h5 (ci := 8) (q0 := 0) rfl rfl, fun U hU hW2 => ⟨rfl, by rw [hU], by rw [hU]; exact h5, va_K.moved hW2.alike hK, hE.go hS hU hW2 (fun x h => Nat.le_trans hlo2 (hB.sub hlo h)), hTc U hU hW2⟩⟩ rfl rfl hsize rfl (lv_room hW) hdg hf) hS (fun x _ h => Nat.le_trans hlo2 (hB.sub hlo h)) (fun x h => Nat.le_trans hlo2 (hB.sub hlo h)) (fun u ra tS H1 locs1 ht _ hw hB1 hz hk1 hS1 => ?_)
  obtain ⟨rfl, hP1, hD1⟩ := hB1
  rw [ht] at hP1
  exact kk u.1 u.2.1 u.2.2 H1 locs1 ⟨fun e0 => by have := hD1.1 0 1 _ _ rfl rfl e0; omega, h2, hB.sub hlo (hD1.2 1 _ rfl), hw, hP1⟩ hS1 hz (fun q h => hk1 q (Nat.lt_of_lt_of_le h hlo) (fun w => absurd h (Nat.not_lt.mpr (hB.sub hlo w))))
/-- a constant as an argument -/
theorem tc_const {B V mb lo : Nat} {a : Nat → Int32} {t : List Nat} {aK aV : Nat → Nat} (hB : BdA (dC, dI) cy B V mb a t lo H) (hlo : lo ≤ H.size) (hlo2 : s.heap.size ≤ lo) (hC : EC (fun q => s.heap.size ≤ q) aK aV s s.heap) (hS : va_S (fun q => s.heap.size ≤ q) s.heap H locs) (i : Nat) (hi : i < 10) : ∀ U : State, U.heap = H → s.WarmedH U.vm → sT (aK i) (aV i) (kch i).length (fun j => nI ((kch i).getD j 0)) (va_A (SB cy B V mb a t.length) H.size) U U.heap :=
  fun U hU hW => (hC i hi).2.go hS hU hW (fun x h => Nat.le_trans hlo2 (hB.sub hlo h))
/-- a made string as an argument -/
theorem tc_made {B V mb lo q v lo2 : Nat} {a : Nat → Int32} {t w : List Nat} (hB : BdA (dC, dI) cy B V mb a t lo H) (hlo : lo ≤ H.size) (h : StA q v w lo2 lo s H) : ∀ U : State, U.heap = H → s.WarmedH U.vm → sT q v w.length (fun j => nI (w.getD j 0)) (va_A (SB cy B V mb a t.length) H.size) U U.heap :=
  fun U hU hW => by
    rw [hU]
    exact (h.2.2.1.moved hW.alike).of (fun z => absurd h.1.2 (Nat.not_lt.mpr (hB.sub hlo z))) (fun z => absurd h.2.1.2 (Nat.not_lt.mpr (hB.sub hlo z)))
/-- toString() -/
theorem xb_toS {B V mb lo : Nat} {a : Nat → Int32} {t : List Nat} (S : CallFix p m c cc nL s args Ts own) (hinJ0 : ∀ w ∈ wsJ00, w ∈ Ts) (hB : BdA (dC, dI) cy B V mb a t lo H) (hlo : lo ≤ H.size) (hlo2 : s.heap.size ≤ lo) (cw : CallW R s args own RJ4 index yJ4_toString_0e30d cJ4_toString_0e30d 1 (some (.object "java/lang/String")) wsJ4_toString_0e30d rmJ4_toString_0e30d 2 204 0) (hK : va_K (dC, dI) vwCl (tysX cy) s) (hE : EJ (fun q => s.heap.size ≤ q) tb s s.heap) (hS : va_S (fun q => s.heap.size ≤ q) s.heap H locs)
    (hsize : ls.size = nL) (hW : (rest.map fun v => v.category).sum ≤ 8) (hf : cells + 2 ≤ R.cells ∧ slots + 204 ≤ R.slots) (hdg : decode cc pc = .ok (.invokevirtual index, 3))
    (kk : ∀ (q v : Nat) (H1 : Heap) (locs1 : List Loc), StA q v t lo H1.size s H1 → H.size ≤ q → H.size ≤ v → va_P (dC, dI) vwCl [(q, .inr (7, [.ref v, .int 0, .int 0, .int 0]))] H1 → va_S (fun q => s.heap.size ≤ q) s.heap H1 locs1 → H.size ≤ H1.size → (∀ q, q < lo → H1[q]? = H[q]?) → W p l e R s m args below meth c H1 locs1 (cells + 2) (slots + 204) Q (F0 m (pc + 3) ls (.ref q :: rest))) : W p l e R s m args below meth c H locs cells slots Q (F0 m pc ls (.ref B :: rest)) := by
  obtain ⟨h1, h2, h3, h4, h5⟩ := id hB
  refine va_callr (va_runV (As := []) (rest := rest) S (mJ4_toString_0e30d l dC dI cy tb B V mb t.length a H.size h1 h4.1 h4.2.1 h4.2.2.2.2) cw ⟨PcJ_blind, va_recv hK h5 (ci := 8) (q0 := 0) rfl rfl, fun U hU hW2 => ⟨rfl, by rw [hU], by rw [hU]; exact h5, va_K.moved hW2.alike hK, hE.go hS hU hW2 (fun x h => Nat.le_trans hlo2 (hB.sub hlo h))⟩⟩ rfl rfl hsize rfl (lv_room hW) hdg hf) hS (fun x _ h => Nat.le_trans hlo2 (hB.sub hlo h)) (fun x h => Nat.le_trans hlo2 (hB.sub hlo h)) (fun u q tS H1 locs1 ht _ hw hB1 hz hk1 hS1 => ?_)
  obtain ⟨g1, g2, hP1⟩ := hB1
  rw [ht] at hP1
  have hsT : sT q u.1 t.length (fun j => nI (t.getD j 0)) (fun _ => False) s H1 := (ST_sT S.2.2.2.2 hinJ0 hK hP1).congr (fun j hj => (hw.1 j hj).trans (h4.2.2.1 j hj))
  exact kk q u.1 H1 locs1 ⟨⟨Nat.le_trans hlo g1, hsT.lt.1⟩, ⟨Nat.le_trans hlo hw.2, hsT.lt.2⟩, hsT, h4.2.2.2.1⟩ g1 hw.2 (hP1.sub [0] rfl) hS1 hz (fun x h => hk1 x (Nat.lt_of_lt_of_le h hlo) (fun w => absurd h (Nat.not_lt.mpr (hB.sub hlo w))))
/-- length(), charAt(i) of a made string -/
theorem xs_len {q v lo hi : Nat} {t : List Nat} (S : CallFix p m c cc nL s args Ts own) (hT : StA q v t lo hi s H) (cw : CallW R s args own RJ0 index yJ0_length_8abf5 cJ0_length_8abf5 1 (some .int) wsJ0_length_8abf5 rmJ0_length_8abf5 0 0 0) (hK : va_K (dC, dI) vwCl (tysX cy) s) (hE : EJ (fun q => s.heap.size ≤ q) tb s s.heap) (hS : va_S (fun q => s.heap.size ≤ q) s.heap H locs)
    (hsize : ls.size = nL) (hW : (rest.map fun v => v.category).sum ≤ 8) (hf : cells ≤ R.cells ∧ slots ≤ R.slots) (hdg : decode cc pc = .ok (.invokevirtual index, 3))
    (kk : ∀ (H1 : Heap) (locs1 : List Loc), va_S (fun q => s.heap.size ≤ q) s.heap H1 locs1 → H.size ≤ H1.size → (∀ q, q < H.size → H1[q]? = H[q]?) → W p l e R s m args below meth c H1 locs1 cells slots Q (F0 m (pc + 3) ls (.int (nI t.length) :: rest))) : W p l e R s m args below meth c H locs cells slots Q (F0 m pc ls (.ref q :: rest)) := by
  have hrc : ∃ cell : Cell, H[q]? = some cell ∧ cell.vm.isStatics = false ∧ s.vm.findClass RJ0 = some cell.cls := by
    obtain ⟨⟨c0, a1, a2, a3, -⟩, -⟩ := hT.2.2.1
    exact ⟨c0, a1, a2, a3⟩
  refine va_calli (va_runV (As := []) (rest := rest) S (mJ0_length_8abf5 l dC dI cy tb q v t.length (fun j => nI (t.getD j 0)) H.size) cw ⟨PcS_blind, hrc, fun U hU hW2 => ⟨rfl, by rw [hU], fun k x hx => by simp at hx, va_K.moved hW2.alike hK, hE.go hS hU hW2 (fun x h => h.elim), by rw [hU]; exact hT.2.2.1.moved hW2.alike⟩⟩ rfl rfl hsize rfl (lv_room hW) hdg hf) hS (fun _ _ h => h.elim) (fun _ h => h.elim) (fun r0 u0 tS H1 locs1 ht _ hw _ hz hk1 hS1 => ?_)
  obtain rfl := hw
  exact kk H1 locs1 hS1 hz (fun q h => hk1 q h id)
theorem xs_char {q v lo hi i : Nat} {t : List Nat} (S : CallFix p m c cc nL s args Ts own) (hT : StA q v t lo hi s H) (hi2 : i < t.length) (h31 : t.length < 2 ^ 31) (cw : CallW R s args own RJ0 index yJ0_charAt_5068e cJ0_charAt_5068e 2 (some .char) wsJ0_charAt_5068e rmJ0_charAt_5068e 0 0 1) (hK : va_K (dC, dI) vwCl (tysX cy) s) (hE : EJ (fun q => s.heap.size ≤ q) tb s s.heap) (hS : va_S (fun q => s.heap.size ≤ q) s.heap H locs)
    (hsize : ls.size = nL) (hW : (rest.map fun v => v.category).sum ≤ 8) (hf : cells ≤ R.cells ∧ slots ≤ R.slots) (hdg : decode cc pc = .ok (.invokevirtual index, 3))
    (kk : ∀ (H1 : Heap) (locs1 : List Loc), va_S (fun q => s.heap.size ≤ q) s.heap H1 locs1 → H.size ≤ H1.size → (∀ q, q < H.size → H1[q]? = H[q]?) → W p l e R s m args below meth c H1 locs1 cells slots Q (F0 m (pc + 3) ls (.int (nI (t.getD i 0)) :: rest))) : W p l e R s m args below meth c H locs cells slots Q (F0 m pc ls (.int (nI i) :: .ref q :: rest)) := by
  have hrc : ∃ cell : Cell, H[q]? = some cell ∧ cell.vm.isStatics = false ∧ s.vm.findClass RJ0 = some cell.cls := by
    obtain ⟨⟨c0, a1, a2, a3, -⟩, -⟩ := hT.2.2.1
    exact ⟨c0, a1, a2, a3⟩
  have hc2 : t.getD i 0 < 128 := by
    refine hT.2.2.2 _ ?_
    rw [List.getD_eq_getElem?_getD, List.getElem?_eq_getElem hi2, Option.getD_some]
    exact List.getElem_mem hi2
  refine va_calli (va_runV (As := [.int (nI i)]) (rest := rest) S (mJ0_charAt_5068e l dC dI cy tb q v t.length (fun j => nI (t.getD j 0)) i (t.getD i 0) hi2 h31 rfl hc2 H.size) cw ⟨PcS_blind, hrc, fun U hU hW2 => ⟨rfl, by rw [hU], fun k x hx => by simp at hx, va_K.moved hW2.alike hK, hE.go hS hU hW2 (fun x h => h.elim), by rw [hU]; exact hT.2.2.1.moved hW2.alike⟩⟩ rfl rfl hsize rfl (lv_room hW) hdg hf) hS (fun _ _ h => h.elim) (fun _ h => h.elim) (fun r0 u0 tS H1 locs1 ht _ hw _ hz hk1 hS1 => ?_)
  obtain rfl := hw
  exact kk H1 locs1 hS1 hz (fun q h => hk1 q h id)
/-- the row of the lines: read and written -/
theorem xs_ald {aL n lo hi i : Nat} {qs vs : Nat → Nat} {T : Nat → List Nat} (hexec : p.tables.exec = Jvm.exec) (hb : c.code = cc) (hK : va_K (dC, dI) vwCl (tysX cy) s) (hL : LnA (dC, dI) cy aL n qs vs T lo hi s H) (hi2 : i < n) (hn : n ≤ 8) (hdg : decode cc pc = .ok (.aaload, 1))
    (kk : W p l e R s m args below meth c H locs cells slots Q (F0 m (pc + 1) ls (.ref (qs i) :: rest))) : W p l e R s m args below meth c H locs cells slots Q (F0 m pc ls (.int (nI i) :: .ref aL :: rest)) := by
  refine va_aldq hexec hb hK hL.2.1 0 5 rfl rfl (vp_in_nI (n := i) (by omega) (by omega)) hdg ?_
  rw [nI_clamp (by omega), if_pos hi2]
  exact kk
theorem xs_ast {aL n lo hi hi2 i q v z : Nat} {qs vs : Nat → Nat} {T : Nat → List Nat} {t : List Nat} (hexec : p.tables.exec = Jvm.exec) (hb : c.code = cc) (hK : va_K (dC, dI) vwCl (tysX cy) s) (hL : LnA (dC, dI) cy aL n qs vs T lo hi s H) (hi3 : i ≤ n) (hn : i < 8) (hz : s.heap.size ≤ lo) (hhi : hi ≤ z) (hq : z ≤ q) (hv : z ≤ v) (hT : StA q v t lo hi2 s H) (hP : va_P (dC, dI) vwCl [(q, .inr (7, [.ref v, .int 0, .int 0, .int 0]))] H) (hS : va_S (fun q => s.heap.size ≤ q) s.heap H locs) (hdg : decode cc pc = .ok (.aastore, 1))
    (kk : ∀ (H1 : Heap) (locs1 : List Loc), LnA (dC, dI) cy aL (if i = n then n + 1 else n) (fun j => if j = i then q else qs j) (fun j => if j = i then v else vs j) (fun j => if j = i then t else T j) lo H1.size s H1 → va_S (fun q => s.heap.size ≤ q) s.heap H1 locs1 → H.size ≤ H1.size → (∀ x, x < lo → x < H.size → H1[x]? = H[x]?) → W p l e R s m args below meth c H1 locs1 cells slots Q (F0 m (pc + 1) ls rest)) : W p l e R s m args below meth c H locs cells slots Q (F0 m pc ls (.ref q :: .int (nI i) :: .ref aL :: rest)) := by
  refine va_forget hS.2.2 ?_
  have hqa : q ≠ aL := by have := hL.1.2; omega
  have hva : v ≠ aL := by have := hL.1.2; omega
  have hPP : va_P (dC, dI) vwCl [(aL, .inl (cy 5, 8, .inr (.inr (.inr (.inr (fun j => if j < n then some (qs j) else none)))))), (q, .inr (7, [.ref v, .int 0, .int 0, .int 0]))] H := P2 (hL.2.1 0 _ rfl) (hP 0 _ rfl)
  have hDD : va_D (fun x => x = aL ∨ x = q) [(aL, .inl (cy 5, 8, .inr (.inr (.inr (.inr (fun j => if j < n then some (qs j) else none)))))), (q, .inr (7, [.ref v, .int 0, .int 0, .int 0]))] := D2 (fun e0 => hqa e0.symm) (Or.inl rfl) (Or.inr rfl)
  have hD1 : va_D (fun x => x = aL) [(aL, (.inl (cy 5, 8, .inr (.inr (.inr (.inr (fun j => if j < n then some (qs j) else none))))) : va_E))] := D1 rfl
  obtain ⟨cell, c1, c2, c3⟩ := va_recv hK hP (ci := 7) (q0 := 0) rfl rfl
  obtain ⟨hcC, kC, hkC, hkk⟩ := (hK.1 7 _ rfl).2
  have hcl : cell.cls = dC 7 := Option.some.inj (c3.symm.trans hcC)
  have hany : va_Any RJ0 s H q := ⟨cell, c1, c2, ⟨kC, by rw [hcl]; exact hkC⟩, fun comp hc => by
    have e0 : comp = cell.cls := Option.some.inj (hc.symm.trans c3)
    rw [e0, hcl]
    exact va_assign ⟨hcC, kC, hkC, hkk⟩⟩
  refine va_astqM (A := fun x => x = aL) (H0 := H) (E := RJ0) hexec hb hK hL.2.1 hD1 va_S.rf 0 5 rfl rfl hany (vp_in_nI (n := i) (by omega) (by omega)) hdg (fun H1 locs1 q1 _ q3 => ?_)
  rw [nI_clamp (by omega)] at q1
  have hk : ∀ x, x ≠ aL → x < H.size → H1[x]? = H[x]? := fun x h1 h2 => q3.2.1 x h2 h1
  refine kk H1 locs1 ⟨⟨hL.1.1, (q1 0 _ rfl).lt⟩, fun k x hx => ?_, fun j hj => ?_⟩ (S_trans hS q3 rfl (fun x h => by rw [h]; exact Nat.le_trans hz hL.1.1)) q3.1 (fun x h1 h2 => hk x (fun e0 => by rw [e0] at h1; exact absurd hL.1.1 (Nat.not_le.mpr h1)) h2)
  · match k, hx with
    | 0, hx =>
      cases hx
      have h0 := q1 0 _ rfl
      have ef : (fun j => if j < (if i = n then n + 1 else n) then some (if j = i then q else qs j) else none) = va_up (fun j => if j < n then some (qs j) else none) i (some q) := by
        funext j
        unfold va_up
        by_cases hj : j = i
        · rw [if_pos hj, if_pos hj, if_pos (by split <;> omega)]
        · rw [if_neg hj, if_neg hj]
          by_cases h9 : j < n
          · show _ = if j < n then some (qs j) else none
            rw [if_pos h9, if_pos (by split <;> omega)]
          · show _ = if j < n then some (qs j) else none
            rw [if_neg h9, if_neg (by split <;> omega)]
      rw [ef]
      exact h0
    | k + 1, hx => simp [LnE] at hx
  · by_cases hji : j = i
    · simp only [if_pos hji]
      refine ⟨hqa, hva, ?_⟩
      have g4 := hT.2.2.1.stay (hk _ hqa hT.2.2.1.lt.1) (hk _ hva hT.2.2.1.lt.2)
      exact ⟨⟨hT.1.1, g4.lt.1⟩, ⟨hT.2.1.1, g4.lt.2⟩, g4, hT.2.2.2⟩
    · simp only [if_neg hji]
      have hjn : j < n := by split at hj <;> omega
      obtain ⟨g1, g2, g3⟩ := hL.2.2 j hjn
      refine ⟨g1, g2, ?_⟩
      have g4 := g3.2.2.1.stay (hk _ g1 g3.2.2.1.lt.1) (hk _ g2 g3.2.2.1.lt.2)
      exact ⟨⟨g3.1.1, g4.lt.1⟩, ⟨g3.2.1.1, g4.lt.2⟩, g4, g3.2.2.2⟩
end LT
