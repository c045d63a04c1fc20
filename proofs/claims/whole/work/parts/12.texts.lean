/-! Texts: String constants, static rows; contracts with what stands still (EX). -/
def txS (i : Nat) : String := ["pier ", "close ", "open ", "weigh ", "barge ", "gone ", "load ", "berth "].getD i ""
def kS (i : Nat) : Nat := [82, 84, 86, 88, 90, 92, 94, 96].getD i 0
def lenS : List Nat := [5, 6, 5, 6, 6, 5, 5, 6]
def bytS : List (List Int32) := [[112, 105, 101, 114, 32], [99, 108, 111, 115, 101, 32], [111, 112, 101, 110, 32], [119, 101, 105, 103, 104, 32], [98, 97, 114, 103, 101, 32], [103, 111, 110, 101, 32], [108, 111, 97, 100, 32], [98, 101, 114, 116, 104, 32]]
def chS (w k : Nat) : Int32 := (bytS.getD w []).getD k 0
def dgF (k : Nat) : Int32 := [1, 1, 1, 1, 4, 2, 2, 3].getD k 0
def dgS (k : Nat) : Int32 := [0, 0, 0, 1, 2, 0, 2, 0].getD k 0
theorem lenS_lt : ∀ w, w < 8 → lenS.getD w 0 < 10 := by decide +kernel
theorem chS_and : ∀ w, w < 8 → ∀ k, k < lenS.getD w 0 → chS w k &&& 255 = chS w k := by decide +kernel
theorem chS_char : ∀ w, w < 8 → ∀ k, k < lenS.getD w 0 → ((chS w k).toUInt32 % 65536).toInt32 = chS w k ∧ narrow .char (.int (chS w k)) = .int (chS w k) := by decide +kernel
abbrev SA : Type := (Nat → Nat) × (Nat → Nat) × Nat × Nat
def EX (A : Nat → Prop) (sa : SA) (U : State) (H : Heap) : Prop :=
  (∀ i, i < 8 → vk_R RX5 (kS i) (txS i) (sa.1 i) U) ∧ vk_S 8 lenS bytS sa.1 sa.2.1 A U H ∧ va_Z "java/lang/String" "COMPACT_STRINGS" "Z" (.int 1) A U H ∧ va_Zq "jdk/internal/util/Preconditions" "SIOOBE_FORMATTER" "Ljava/util/function/BiFunction;" A U H ∧
  (va_Z RX5 "DIGITS_OF_FIRST" "[I" (.ref sa.2.2.1) A U H ∧ va_T .int sa.2.2.1 8 (fun j => .int (dgF j)) A U H) ∧ (va_Z RX5 "DIGITS_OF_SECOND" "[I" (.ref sa.2.2.2) A U H ∧ va_T .int sa.2.2.2 8 (fun j => .int (dgS j)) A U H)
theorem EX.moved {A : Nat → Prop} {sa : SA} {s U : State} {H : Heap} (h : EX A sa s H) (hvm : s.vm.Alike U.vm) (hR : ∀ i, i < 8 → vk_R RX5 (kS i) (txS i) (sa.1 i) U) : EX A sa U H := by
  obtain ⟨h1, h2, h3, h4, h5, h6⟩ := h
  exact ⟨hR, h2.moved hvm, va_Z.moved hvm h3, va_Zq.moved hvm h4, ⟨va_Z.moved hvm h5.1, va_T.moved hvm h5.2⟩, ⟨va_Z.moved hvm h6.1, va_T.moved hvm h6.2⟩⟩
theorem EX.kept {A : Nat → Prop} {sa : SA} {U : State} {H H1 : Heap} (h : EX A sa U H) (hq : ∀ a : Nat, a < H.size → ¬ A a → H1[a]? = H[a]?) : EX A sa U H1 := by
  obtain ⟨h1, h2, h3, h4, h5, h6⟩ := h
  exact ⟨h1, h2.kept hq, va_Z.kept h3 hq, va_Zq.kept h4 hq, ⟨va_Z.kept h5.1 hq, va_T.kept h5.2 hq⟩, ⟨va_Z.kept h6.1 hq, va_T.kept h6.2 hq⟩⟩
theorem EX.go {A : Nat → Prop} {sa : SA} {s U : State} {H : Heap} {locs : List Loc} (h : EX A sa s s.heap) (hS : va_S A s.heap H locs) (hU : U.heap = H) (hW : s.WarmedH U.vm) : EX A sa U U.heap := by
  rw [hU]
  exact (h.kept hS.2.1).moved hW.alike (fun i hi => vk_R.warm hW (h.1 i hi))
def PcwE (av : List Value) (D : va_G) (tys : List (ClassId × FieldType)) (N : Nat) (ad : Nat → Nat) (L : Nat → (Nat → Int32) → va_E) (sa : SA) (σ : St) : Array Value → State → Prop := va_Pc av (fun U => va_P D vwCl (wd N ad L σ) U.heap ∧ va_K D vwCl tys U ∧ EX (WA N ad) sa U U.heap)
theorem PcwE_blind {av : List Value} {D : va_G} {tys : List (ClassId × FieldType)} {N : Nat} {ad : Nat → Nat} {L : Nat → (Nat → Int32) → va_E} {sa : SA} {σ : St} : FrameBlind (PcwE av D tys N ad L sa σ) := fun a U g mk q => by
  obtain ⟨q0, qP, qK, qE⟩ := q
  exact ⟨q0, qP, va_K.moved (u := U) (U := U.calling g mk a) (Vm.Alike.refl U.vm) qK, EX.moved (s := U) (U := U.calling g mk a) qE (Vm.Alike.refl U.vm) (fun i hi => vk_R.same (u := U) rfl (qE.1 i hi))⟩
def Qsw (D : va_G) (N : Nat) (ad : Nat → Nat) (L : Nat → (Nat → Int32) → va_E) (q : Nat) (σ' : St) : Array Value → State → Outcome → State → Prop := va_Qr (fun (u : St) => u = σ') (fun u a t => Bw D N ad L u t ∧ a = q) (WA N ad)
def CMiE (l : Launch) (y : MethodName) (ws : List Cond) (rm : Room) (D : va_G) (tys : List (ClassId × FieldType)) (N : Nat) (ad : Nat → Nat) (L : Nat → (Nat → Int32) → va_E) (sa : SA) (av : List Value) (σ : St) (r : Int32) (σ' : St) : Prop := Met l y ws rm (PcwE av D tys N ad L sa σ) (Qiw D N ad L r σ') 0 0 (WA N ad)
def CMvE (l : Launch) (y : MethodName) (ws : List Cond) (rm : Room) (D : va_G) (tys : List (ClassId × FieldType)) (N : Nat) (ad : Nat → Nat) (L : Nat → (Nat → Int32) → va_E) (sa : SA) (av : List Value) (σ : St) (σ' : St) : Prop := Met l y ws rm (PcwE av D tys N ad L sa σ) (Qvw D N ad L σ') 0 0 (WA N ad)
def CMsE (l : Launch) (y : MethodName) (ws : List Cond) (rm : Room) (D : va_G) (tys : List (ClassId × FieldType)) (N : Nat) (ad : Nat → Nat) (L : Nat → (Nat → Int32) → va_E) (sa : SA) (av : List Value) (σ : St) (q : Nat) (σ' : St) : Prop := Met l y ws rm (PcwE av D tys N ad L sa σ) (Qsw D N ad L q σ') 0 0 (WA N ad)
section TE
variable {p : Program} {l : Launch} {e : Env} {R : Room} {s : State} {m : MethodId} {args : Array Value} {below : List Frame} {meth : Method} {c : Code} {H : Heap} {locs : List Loc} {cells slots : Nat} {Q : State → Prop}
variable {cc : ByteArray} {pc : Nat} {ls : Array Slot} {rest st : List Value} {D : va_G} {tys : List (ClassId × FieldType)}
variable {N : Nat} {ad : Nat → Nat} {L : Nat → (Nat → Int32) → va_E} {σ σ' : St} {r : Int32} {sa : SA}
variable {Ts ws : List Cond} {bytes : ByteArray} {nL maxL index n : Nat} {own C : String} {y : MethodName} {ret : Option FieldType} {rm : Room} {As : List Value}
theorem xt_callViE (S : CallFix p m c cc nL s args Ts own) (b : Nat) (hM : CMiE l y ws rm D tys N ad L sa (.ref b :: As) σ r σ') (cw : CallW R s args own C index y bytes maxL ret ws rm 0 0 n) (hK : va_K D vwCl tys s) (hP : va_P D vwCl (wd N ad L σ) H) (hS : va_S (WA N ad) s.heap H locs) (hE : EX (WA N ad) sa s s.heap) (hrc : ∃ cell : Cell, H[b]? = some cell ∧ cell.vm.isStatics = false ∧ s.vm.findClass C = some cell.cls)
    (hst : st = As.reverse ++ .ref b :: rest) (hn : As.length = n) (hsize : ls.size = nL) (hW : (rest.map fun v => v.category).sum ≤ 8) (hf : cells ≤ R.cells ∧ slots ≤ R.slots) (hdg : decode cc pc = .ok (.invokevirtual index, 3))
    (kk : ∀ (H1 : Heap) (locs1 : List Loc), va_P D vwCl (wd N ad L σ') H1 → va_S (WA N ad) s.heap H1 locs1 → W p l e R s m args below meth c H1 locs1 cells slots Q (F0 m (pc + 3) ls (.int r :: rest))) : W p l e R s m args below meth c H locs cells slots Q (F0 m pc ls st) := by
  subst hst
  refine va_calli (va_runV (As := As) (rest := rest) S hM cw ⟨PcwE_blind, hrc, fun U hU hW => ⟨rfl, by rw [hU]; exact hP, va_K.moved hW.alike hK, hE.go hS hU hW⟩⟩ rfl hn hsize rfl (lv_room hW) hdg hf) hS (fun _ _ h => h) (fun _ h => h) (fun v u t H1 locs1 ht _ hw hB _ _ hS1 => ?_)
  obtain ⟨rfl, rfl⟩ := hw
  exact kk H1 locs1 (by rw [← ht]; exact hB) hS1
theorem xt_callSiE (S : CallFix p m c cc nL s args Ts own) (hM : CMiE l y ws rm D tys N ad L sa As σ r σ') (cw : CallB R s args own index y bytes maxL ret ws rm 0 0 n ∧ (Cond.static y).before args s = true) (hK : va_K D vwCl tys s) (hP : va_P D vwCl (wd N ad L σ) H) (hS : va_S (WA N ad) s.heap H locs) (hE : EX (WA N ad) sa s s.heap)
    (hst : st = As.reverse ++ rest) (hn : As.length = n) (hsize : ls.size = nL) (hW : (rest.map fun v => v.category).sum ≤ 8) (hf : cells ≤ R.cells ∧ slots ≤ R.slots) (hdg : decode cc pc = .ok (.invokestatic index, 3))
    (kk : ∀ (H1 : Heap) (locs1 : List Loc), va_P D vwCl (wd N ad L σ') H1 → va_S (WA N ad) s.heap H1 locs1 → W p l e R s m args below meth c H1 locs1 cells slots Q (F0 m (pc + 3) ls (.int r :: rest))) : W p l e R s m args below meth c H locs cells slots Q (F0 m pc ls st) := by
  subst hst
  refine va_calli (va_runS (As := As) (rest := rest) S hM cw ⟨PcwE_blind, fun U hU hW => ⟨rfl, by rw [hU]; exact hP, va_K.moved hW.alike hK, hE.go hS hU hW⟩⟩ rfl hn hsize rfl (lv_room hW) hdg hf) hS (fun _ _ h => h) (fun _ h => h) (fun v u t H1 locs1 ht _ hw hB _ _ hS1 => ?_)
  obtain ⟨rfl, rfl⟩ := hw
  exact kk H1 locs1 (by rw [← ht]; exact hB) hS1
theorem xt_callSvE (S : CallFix p m c cc nL s args Ts own) (hM : CMvE l y ws rm D tys N ad L sa As σ σ') (cw : CallB R s args own index y bytes maxL ret ws rm 0 0 n ∧ (Cond.static y).before args s = true) (hK : va_K D vwCl tys s) (hP : va_P D vwCl (wd N ad L σ) H) (hS : va_S (WA N ad) s.heap H locs) (hE : EX (WA N ad) sa s s.heap)
    (hst : st = As.reverse ++ rest) (hn : As.length = n) (hsize : ls.size = nL) (hW : (rest.map fun v => v.category).sum ≤ 8) (hf : cells ≤ R.cells ∧ slots ≤ R.slots) (hdg : decode cc pc = .ok (.invokestatic index, 3))
    (kk : ∀ (H1 : Heap) (locs1 : List Loc), va_P D vwCl (wd N ad L σ') H1 → va_S (WA N ad) s.heap H1 locs1 → W p l e R s m args below meth c H1 locs1 cells slots Q (F0 m (pc + 3) ls rest)) : W p l e R s m args below meth c H locs cells slots Q (F0 m pc ls st) := by
  subst hst
  refine va_callv (va_runS (As := As) (rest := rest) S hM cw ⟨PcwE_blind, fun U hU hW => ⟨rfl, by rw [hU]; exact hP, va_K.moved hW.alike hK, hE.go hS hU hW⟩⟩ rfl hn hsize rfl (lv_room hW) hdg hf) hS (fun _ _ h => h) (fun _ h => h) (fun u t H1 locs1 ht _ hw hB _ _ hS1 => ?_)
  obtain rfl := hw
  exact kk H1 locs1 (by rw [← ht]; exact hB) hS1
theorem xt_callSsE {q : Nat} (S : CallFix p m c cc nL s args Ts own) (hM : CMsE l y ws rm D tys N ad L sa As σ q σ') (cw : CallB R s args own index y bytes maxL ret ws rm 0 0 n ∧ (Cond.static y).before args s = true) (hK : va_K D vwCl tys s) (hP : va_P D vwCl (wd N ad L σ) H) (hS : va_S (WA N ad) s.heap H locs) (hE : EX (WA N ad) sa s s.heap)
    (hst : st = As.reverse ++ rest) (hn : As.length = n) (hsize : ls.size = nL) (hW : (rest.map fun v => v.category).sum ≤ 8) (hf : cells ≤ R.cells ∧ slots ≤ R.slots) (hdg : decode cc pc = .ok (.invokestatic index, 3))
    (kk : ∀ (H1 : Heap) (locs1 : List Loc), va_P D vwCl (wd N ad L σ') H1 → va_S (WA N ad) s.heap H1 locs1 → W p l e R s m args below meth c H1 locs1 cells slots Q (F0 m (pc + 3) ls (.ref q :: rest))) : W p l e R s m args below meth c H locs cells slots Q (F0 m pc ls st) := by
  subst hst
  refine va_callr (va_runS (As := As) (rest := rest) S hM cw ⟨PcwE_blind, fun U hU hW => ⟨rfl, by rw [hU]; exact hP, va_K.moved hW.alike hK, hE.go hS hU hW⟩⟩ rfl hn hsize rfl (lv_room hW) hdg hf) hS (fun _ _ h => h) (fun _ h => h) (fun u ra t H1 locs1 ht _ hw hB _ _ hS1 => ?_)
  obtain rfl := hw
  obtain ⟨hB, rfl⟩ := hB
  exact kk H1 locs1 (by rw [← ht]; exact hB) hS1
theorem xt_sret {ls : Array Slot} {k q : Nat} {nm0 : String} (hx : p.tables.exec = Jvm.exec) (hb : c.code = cc) (hr : meth.sig.returnType = some (.object nm0)) (hP : va_P D vwCl (wd N ad L σ) H) (hS : va_S (WA N ad) s.heap H locs) (hv : k = q) (hσ : σ = σ') (hdg : decode cc pc = .ok (.areturn, 1)) (hlocks : meth.locks = false) : W p l e R s m args below meth c H locs cells slots (MQ below (Qsw D N ad L q σ') args s cells slots (WA N ad)) (F0 m pc ls [.ref k]) := by
  subst hv
  subst hσ
  exact W.aret hx hb hr (Or.inl ⟨_, rfl⟩) (Or.inr ⟨_, rfl⟩) (fun t ht _ => ⟨⟨_, _, rfl, rfl, by show va_P D vwCl (wd N ad L σ) t.heap; rw [ht]; exact hP, rfl⟩, hS.F ht⟩) hS.2.2 hdg hlocks
end TE
theorem dmJ0_coder_7d493 : yJ0_coder_7d493.cls = RJ0 ∧ yJ0_coder_7d493.cls ≠ "java/lang/invoke/MethodHandle" ∧ yJ0_coder_7d493.cls ≠ "java/lang/invoke/VarHandle" ∧ (parseMethodDescriptor yJ0_coder_7d493.desc).map (fun d => d.parameters.length) = some 0 := by decide +kernel
abbrev rmJ0_coder_7d493 : Room := { frames := 0, cells := 0, slots := 0, locals := 0 }
set_option maxHeartbeats 8000000 in
set_option maxRecDepth 100000 in
theorem mJ0_coder_7d493 (l : Launch) (dC : Nat → ClassId) (dI : Nat → Nat → Nat) (ad : Nat → Nat) (cy : Nat → ClassId) (sa : SA) (w : Nat) (hw : w < 8) (σ : St) : CMiE l yJ0_coder_7d493 wsJ0_coder_7d493 rmJ0_coder_7d493 (dC, dI) (tysX cy) 93 ad (layX ad cy) sa [.ref (sa.1 w)] σ 0 σ := by
  refine Met.ofW (cc := cJ0_coder_7d493) (maxL := 1) (ret := (some .byte)) (by decide) rfl ?_
  intro p e s m args below meth c s₁ B hml hv
  obtain ⟨hargs, hP, hK, hE⟩ := hv
  have hx := B.exec
  have hb := B.bytes
  have hr := B.returns
  have hts := atoms_spec (ws := wsJ0_coder_7d493) B.pre
  have hown : s.vm.findClass RJ0 = some m.cls := findClass_of_methodNamed B.named
  have hlocks := B.notSynchronized
  have w1 := hts (.fieldLink RJ0 38 "java/lang/String" "COMPACT_STRINGS" "Z") (List.mem_of_getElem? (i := 1) rfl)
  have w2 := hts (.fieldLink RJ0 15 "java/lang/String" "coder" "B") (List.mem_of_getElem? (i := 2) rfl)
  have hS : va_S (WA 93 ad) s.heap s.heap [] := va_S.rf
  have hfr : entryFrame m args 1 = F0 m 0 ((lg_sl [.ref (sa.1 w)] ++ List.replicate (1 - (lg_sl [.ref (sa.1 w)]).length) Slot.unset).toArray) [] := by rw [hargs]; exact lg_entry_eq _ _ _
  rw [hfr]
  have hl := lv_entry ([.ref (sa.1 w)]) (n := 1) (Nat.le_of_ble_eq_true rfl)
  generalize (lg_sl [.ref (sa.1 w)] ++ List.replicate (1 - (lg_sl [.ref (sa.1 w)]).length) Slot.unset).toArray = ls at hl ⊢
  have hl : lv_has ls 1 [(0, .ref (sa.1 w))] := hl
  clear hfr hargs B
  show W p l e rmJ0_coder_7d493 s m args below meth c s.heap [] 0 0 (MQ below (Qiw (dC, dI) 93 ad (layX ad cy) 0 σ) args s 0 0 (WA 93 ad)) (F0 m 0 ls [])
  refine va_gets hx hb (C := "java/lang/String") (n := "COMPACT_STRINGS") (d := "Z") hE.2.2.1 hS hown w1 (fun _ h => h) dJ0_coder_7d493_0 ?_
  refine lv_if_eq (tgt := 13) hx hb dJ0_coder_7d493_3 (by decide) (fun q => absurd q (by decide)) (fun _ => ?_)
  refine lv_aload_n hx hb dJ0_coder_7d493_6 rfl (lv_at hl 0 rfl) ?_
  refine vk_getf hx hb (o := "java/lang/String") (n := "coder") (d := "B") (hE.2.1.1 w hw).2.1 hS hown w2 (fun _ h => h) dJ0_coder_7d493_7 ?_
  refine lv_goto (tgt := 14) hx hb dJ0_coder_7d493_10 (by decide) ?_
  exact xt_zret hx hb hr rfl hP hS rfl rfl dJ0_coder_7d493_14 hlocks
theorem dmJ0_length_8abf5 : yJ0_length_8abf5.cls = RJ0 ∧ yJ0_length_8abf5.cls ≠ "java/lang/invoke/MethodHandle" ∧ yJ0_length_8abf5.cls ≠ "java/lang/invoke/VarHandle" ∧ (parseMethodDescriptor yJ0_length_8abf5.desc).map (fun d => d.parameters.length) = some 0 := by decide +kernel
abbrev rmJ0_length_8abf5 : Room := { frames := 1, cells := 0, slots := 0, locals := 20 }
set_option maxHeartbeats 8000000 in
set_option maxRecDepth 100000 in
theorem mJ0_length_8abf5 (l : Launch) (dC : Nat → ClassId) (dI : Nat → Nat → Nat) (ad : Nat → Nat) (cy : Nat → ClassId) (sa : SA) (w : Nat) (hw : w < 8) (σ : St) : CMiE l yJ0_length_8abf5 wsJ0_length_8abf5 rmJ0_length_8abf5 (dC, dI) (tysX cy) 93 ad (layX ad cy) sa [.ref (sa.1 w)] σ (nI (lenS.getD w 0)) σ := by
  refine Met.ofW (cc := cJ0_length_8abf5) (maxL := 1) (ret := (some .int)) (by decide) rfl ?_
  intro p e s m args below meth c s₁ B hml hv
  obtain ⟨hargs, hP, hK, hE⟩ := hv
  have hx := B.exec
  have hb := B.bytes
  have hr := B.returns
  have hts := atoms_spec (ws := wsJ0_length_8abf5) B.pre
  have hown : s.vm.findClass RJ0 = some m.cls := findClass_of_methodNamed B.named
  have hlocks := B.notSynchronized
  have w1 := hts (.fieldLink RJ0 9 "java/lang/String" "value" "[B") (List.mem_of_getElem? (i := 1) rfl)
  have hS : va_S (WA 93 ad) s.heap s.heap [] := va_S.rf
  have hfr : entryFrame m args 1 = F0 m 0 ((lg_sl [.ref (sa.1 w)] ++ List.replicate (1 - (lg_sl [.ref (sa.1 w)]).length) Slot.unset).toArray) [] := by rw [hargs]; exact lg_entry_eq _ _ _
  rw [hfr]
  have hl := lv_entry ([.ref (sa.1 w)]) (n := 1) (Nat.le_of_ble_eq_true rfl)
  generalize (lg_sl [.ref (sa.1 w)] ++ List.replicate (1 - (lg_sl [.ref (sa.1 w)]).length) Slot.unset).toArray = ls at hl ⊢
  have hl : lv_has ls 1 [(0, .ref (sa.1 w))] := hl
  clear hfr hargs B
  show W p l e rmJ0_length_8abf5 s m args below meth c s.heap [] 0 0 (MQ below (Qiw (dC, dI) 93 ad (layX ad cy) (nI (lenS.getD w 0)) σ) args s 0 0 (WA 93 ad)) (F0 m 0 ls [])
  refine lv_aload_n hx hb dJ0_length_8abf5_0 rfl (lv_at hl 0 rfl) ?_
  refine vk_getf hx hb (o := "java/lang/String") (n := "value") (d := "[B") (hE.2.1.1 w hw).2.2.1 hS hown w1 (fun _ h => h) dJ0_length_8abf5_1 ?_
  refine va_tlen hx hb (hE.2.1.1 w hw).2.2.2 hS (v := nI (lenS.getD w 0)) rfl dJ0_length_8abf5_4 ?_
  refine lv_aload_n hx hb dJ0_length_8abf5_5 rfl (lv_at hl 0 rfl) ?_
  refine xt_callViE (As := []) (rest := [.int (nI (lenS.getD w 0))]) ⟨hx, hb, hml, hown, hts⟩ (sa.1 w) (mJ0_coder_7d493 l dC dI ad cy sa w hw σ) (cwV 0 hts gJ0_length_8abf5_J0_coder_7d493 rfl rfl rfl dmJ0_coder_7d493 ⟨Nat.le_of_ble_eq_true rfl, Nat.le_of_ble_eq_true rfl⟩) hK hP hS hE (vk_recv hE.2.1 hw hS) rfl rfl hl.1 (Nat.le_of_ble_eq_true rfl) ⟨Nat.zero_le _, Nat.zero_le _⟩ dJ0_length_8abf5_6 (fun H locs hP hS => ?_)
  refine lv_ishr hx hb dJ0_length_8abf5_9 ?_
  have h10 := lenS_lt w hw
  exact xt_iret hx hb hr hP hS (sc_shr0 (by omega)) rfl dJ0_length_8abf5_10 hlocks
theorem dmJ0_isLatin1_aae02 : yJ0_isLatin1_aae02.cls = RJ0 ∧ yJ0_isLatin1_aae02.cls ≠ "java/lang/invoke/MethodHandle" ∧ yJ0_isLatin1_aae02.cls ≠ "java/lang/invoke/VarHandle" ∧ (parseMethodDescriptor yJ0_isLatin1_aae02.desc).map (fun d => d.parameters.length) = some 0 := by decide +kernel
abbrev rmJ0_isLatin1_aae02 : Room := { frames := 0, cells := 0, slots := 0, locals := 0 }
set_option maxHeartbeats 8000000 in
set_option maxRecDepth 100000 in
theorem mJ0_isLatin1_aae02 (l : Launch) (dC : Nat → ClassId) (dI : Nat → Nat → Nat) (ad : Nat → Nat) (cy : Nat → ClassId) (sa : SA) (w : Nat) (hw : w < 8) (σ : St) : CMiE l yJ0_isLatin1_aae02 wsJ0_isLatin1_aae02 rmJ0_isLatin1_aae02 (dC, dI) (tysX cy) 93 ad (layX ad cy) sa [.ref (sa.1 w)] σ 1 σ := by
  refine Met.ofW (cc := cJ0_isLatin1_aae02) (maxL := 1) (ret := (some .boolean)) (by decide) rfl ?_
  intro p e s m args below meth c s₁ B hml hv
  obtain ⟨hargs, hP, hK, hE⟩ := hv
  have hx := B.exec
  have hb := B.bytes
  have hr := B.returns
  have hts := atoms_spec (ws := wsJ0_isLatin1_aae02) B.pre
  have hown : s.vm.findClass RJ0 = some m.cls := findClass_of_methodNamed B.named
  have hlocks := B.notSynchronized
  have w1 := hts (.fieldLink RJ0 38 "java/lang/String" "COMPACT_STRINGS" "Z") (List.mem_of_getElem? (i := 1) rfl)
  have w2 := hts (.fieldLink RJ0 15 "java/lang/String" "coder" "B") (List.mem_of_getElem? (i := 2) rfl)
  have hS : va_S (WA 93 ad) s.heap s.heap [] := va_S.rf
  have hfr : entryFrame m args 1 = F0 m 0 ((lg_sl [.ref (sa.1 w)] ++ List.replicate (1 - (lg_sl [.ref (sa.1 w)]).length) Slot.unset).toArray) [] := by rw [hargs]; exact lg_entry_eq _ _ _
  rw [hfr]
  have hl := lv_entry ([.ref (sa.1 w)]) (n := 1) (Nat.le_of_ble_eq_true rfl)
  generalize (lg_sl [.ref (sa.1 w)] ++ List.replicate (1 - (lg_sl [.ref (sa.1 w)]).length) Slot.unset).toArray = ls at hl ⊢
  have hl : lv_has ls 1 [(0, .ref (sa.1 w))] := hl
  clear hfr hargs B
  show W p l e rmJ0_isLatin1_aae02 s m args below meth c s.heap [] 0 0 (MQ below (Qiw (dC, dI) 93 ad (layX ad cy) 1 σ) args s 0 0 (WA 93 ad)) (F0 m 0 ls [])
  refine va_gets hx hb (C := "java/lang/String") (n := "COMPACT_STRINGS") (d := "Z") hE.2.2.1 hS hown w1 (fun _ h => h) dJ0_isLatin1_aae02_0 ?_
  refine lv_if_eq (tgt := 17) hx hb dJ0_isLatin1_aae02_3 (by decide) (fun q => absurd q (by decide)) (fun _ => ?_)
  refine lv_aload_n hx hb dJ0_isLatin1_aae02_6 rfl (lv_at hl 0 rfl) ?_
  refine vk_getf hx hb (o := "java/lang/String") (n := "coder") (d := "B") (hE.2.1.1 w hw).2.1 hS hown w2 (fun _ h => h) dJ0_isLatin1_aae02_7 ?_
  refine lv_if_ne (tgt := 17) hx hb dJ0_isLatin1_aae02_10 (by decide) (fun q => absurd rfl q) (fun _ => ?_)
  refine lv_iconst (v := 1) hx hb dJ0_isLatin1_aae02_13 (by decide) ?_
  refine lv_goto (tgt := 18) hx hb dJ0_isLatin1_aae02_14 (by decide) ?_
  exact xt_zret hx hb hr rfl hP hS rfl rfl dJ0_isLatin1_aae02_18 hlocks
theorem dmJ3_checkIndex_8e157 : yJ3_checkIndex_8e157.cls ≠ "java/lang/invoke/MethodHandle" ∧ yJ3_checkIndex_8e157.cls ≠ "java/lang/invoke/VarHandle" ∧ (parseMethodDescriptor yJ3_checkIndex_8e157.desc).map (fun d => d.parameters.length) = some 3 := by decide +kernel
abbrev rmJ3_checkIndex_8e157 : Room := { frames := 0, cells := 0, slots := 0, locals := 0 }
set_option maxHeartbeats 8000000 in
set_option maxRecDepth 100000 in
theorem mJ3_checkIndex_8e157_n (l : Launch) (dC : Nat → ClassId) (dI : Nat → Nat → Nat) (ad : Nat → Nat) (cy : Nat → ClassId) (sa : SA) (k n : Int32) (h0 : ¬ k < 0) (hk : k < n) (σ : St) : CMiE l yJ3_checkIndex_8e157 wsJ3_checkIndex_8e157 rmJ3_checkIndex_8e157 (dC, dI) (tysX cy) 93 ad (layX ad cy) sa [.int k, .int n, .null] σ k σ := by
  refine Met.ofW (cc := cJ3_checkIndex_8e157) (maxL := 3) (ret := (some .int)) (by decide) rfl ?_
  intro p e s m args below meth c s₁ B hml hv
  obtain ⟨hargs, hP, hK, hE⟩ := hv
  have hx := B.exec
  have hb := B.bytes
  have hr := B.returns
  have hts := atoms_spec (ws := wsJ3_checkIndex_8e157) B.pre
  have hown : s.vm.findClass RJ3 = some m.cls := findClass_of_methodNamed B.named
  have hlocks := B.notSynchronized
  have hS : va_S (WA 93 ad) s.heap s.heap [] := va_S.rf
  have hfr : entryFrame m args 3 = F0 m 0 ((lg_sl [.int k, .int n, .null] ++ List.replicate (3 - (lg_sl [.int k, .int n, .null]).length) Slot.unset).toArray) [] := by rw [hargs]; exact lg_entry_eq _ _ _
  rw [hfr]
  have hl := lv_entry ([.int k, .int n, .null]) (n := 3) (Nat.le_of_ble_eq_true rfl)
  generalize (lg_sl [.int k, .int n, .null] ++ List.replicate (3 - (lg_sl [.int k, .int n, .null]).length) Slot.unset).toArray = ls at hl ⊢
  have hl : lv_has ls 3 [(0, .int k), (1, .int n), (2, .null)] := hl
  clear hfr hargs B
  show W p l e rmJ3_checkIndex_8e157 s m args below meth c s.heap [] 0 0 (MQ below (Qiw (dC, dI) 93 ad (layX ad cy) k σ) args s 0 0 (WA 93 ad)) (F0 m 0 ls [])
  refine lv_iload_n hx hb dJ3_checkIndex_8e157_0 rfl (lv_at hl 0 rfl) ?_
  refine lv_if_lt (tgt := 9) hx hb dJ3_checkIndex_8e157_1 (by decide) (fun q => absurd q h0) (fun _ => ?_)
  refine lv_iload_n hx hb dJ3_checkIndex_8e157_4 rfl (lv_at hl 0 rfl) ?_
  refine lv_iload_n hx hb dJ3_checkIndex_8e157_5 rfl (lv_at hl 1 rfl) ?_
  refine lv_icmp_lt (tgt := 16) hx hb dJ3_checkIndex_8e157_6 (by decide) (fun _ => ?_) (fun q => absurd hk q)
  refine lv_iload_n hx hb dJ3_checkIndex_8e157_16 rfl (lv_at hl 0 rfl) ?_
  exact xt_iret hx hb hr hP hS rfl rfl dJ3_checkIndex_8e157_17 hlocks
set_option maxHeartbeats 8000000 in
set_option maxRecDepth 100000 in
theorem mJ3_checkIndex_8e157_r (l : Launch) (dC : Nat → ClassId) (dI : Nat → Nat → Nat) (ad : Nat → Nat) (cy : Nat → ClassId) (sa : SA) (t : Nat) (k n : Int32) (h0 : ¬ k < 0) (hk : k < n) (σ : St) : CMiE l yJ3_checkIndex_8e157 wsJ3_checkIndex_8e157 rmJ3_checkIndex_8e157 (dC, dI) (tysX cy) 93 ad (layX ad cy) sa [.int k, .int n, (.ref t)] σ k σ := by
  refine Met.ofW (cc := cJ3_checkIndex_8e157) (maxL := 3) (ret := (some .int)) (by decide) rfl ?_
  intro p e s m args below meth c s₁ B hml hv
  obtain ⟨hargs, hP, hK, hE⟩ := hv
  have hx := B.exec
  have hb := B.bytes
  have hr := B.returns
  have hts := atoms_spec (ws := wsJ3_checkIndex_8e157) B.pre
  have hown : s.vm.findClass RJ3 = some m.cls := findClass_of_methodNamed B.named
  have hlocks := B.notSynchronized
  have hS : va_S (WA 93 ad) s.heap s.heap [] := va_S.rf
  have hfr : entryFrame m args 3 = F0 m 0 ((lg_sl [.int k, .int n, (.ref t)] ++ List.replicate (3 - (lg_sl [.int k, .int n, (.ref t)]).length) Slot.unset).toArray) [] := by rw [hargs]; exact lg_entry_eq _ _ _
  rw [hfr]
  have hl := lv_entry ([.int k, .int n, (.ref t)]) (n := 3) (Nat.le_of_ble_eq_true rfl)
  generalize (lg_sl [.int k, .int n, (.ref t)] ++ List.replicate (3 - (lg_sl [.int k, .int n, (.ref t)]).length) Slot.unset).toArray = ls at hl ⊢
  have hl : lv_has ls 3 [(0, .int k), (1, .int n), (2, (.ref t))] := hl
  clear hfr hargs B
  show W p l e rmJ3_checkIndex_8e157 s m args below meth c s.heap [] 0 0 (MQ below (Qiw (dC, dI) 93 ad (layX ad cy) k σ) args s 0 0 (WA 93 ad)) (F0 m 0 ls [])
  refine lv_iload_n hx hb dJ3_checkIndex_8e157_0 rfl (lv_at hl 0 rfl) ?_
  refine lv_if_lt (tgt := 9) hx hb dJ3_checkIndex_8e157_1 (by decide) (fun q => absurd q h0) (fun _ => ?_)
  refine lv_iload_n hx hb dJ3_checkIndex_8e157_4 rfl (lv_at hl 0 rfl) ?_
  refine lv_iload_n hx hb dJ3_checkIndex_8e157_5 rfl (lv_at hl 1 rfl) ?_
  refine lv_icmp_lt (tgt := 16) hx hb dJ3_checkIndex_8e157_6 (by decide) (fun _ => ?_) (fun q => absurd hk q)
  refine lv_iload_n hx hb dJ3_checkIndex_8e157_16 rfl (lv_at hl 0 rfl) ?_
  exact xt_iret hx hb hr hP hS rfl rfl dJ3_checkIndex_8e157_17 hlocks
theorem dmJ0_checkIndex_df160 : yJ0_checkIndex_df160.cls ≠ "java/lang/invoke/MethodHandle" ∧ yJ0_checkIndex_df160.cls ≠ "java/lang/invoke/VarHandle" ∧ (parseMethodDescriptor yJ0_checkIndex_df160.desc).map (fun d => d.parameters.length) = some 2 := by decide +kernel
abbrev rmJ0_checkIndex_df160 : Room := { frames := 1, cells := 0, slots := 0, locals := 22 }
set_option maxHeartbeats 8000000 in
set_option maxRecDepth 100000 in
theorem mJ0_checkIndex_df160 (l : Launch) (dC : Nat → ClassId) (dI : Nat → Nat → Nat) (ad : Nat → Nat) (cy : Nat → ClassId) (sa : SA) (k n : Int32) (h0 : ¬ k < 0) (hk : k < n) (σ : St) : CMvE l yJ0_checkIndex_df160 wsJ0_checkIndex_df160 rmJ0_checkIndex_df160 (dC, dI) (tysX cy) 93 ad (layX ad cy) sa [.int k, .int n] σ σ := by
  refine Met.ofW (cc := cJ0_checkIndex_df160) (maxL := 2) (ret := none) (by decide) rfl ?_
  intro p e s m args below meth c s₁ B hml hv
  obtain ⟨hargs, hP, hK, hE⟩ := hv
  have hx := B.exec
  have hb := B.bytes
  have hr := B.returns
  have hts := atoms_spec (ws := wsJ0_checkIndex_df160) B.pre
  have hown : s.vm.findClass RJ0 = some m.cls := findClass_of_methodNamed B.named
  have hlocks := B.notSynchronized
  have w1 := hts (.fieldLink RJ0 1053 "jdk/internal/util/Preconditions" "SIOOBE_FORMATTER" "Ljava/util/function/BiFunction;") (List.mem_of_getElem? (i := 1) rfl)
  have hS : va_S (WA 93 ad) s.heap s.heap [] := va_S.rf
  have hfr : entryFrame m args 2 = F0 m 0 ((lg_sl [.int k, .int n] ++ List.replicate (2 - (lg_sl [.int k, .int n]).length) Slot.unset).toArray) [] := by rw [hargs]; exact lg_entry_eq _ _ _
  rw [hfr]
  have hl := lv_entry ([.int k, .int n]) (n := 2) (Nat.le_of_ble_eq_true rfl)
  generalize (lg_sl [.int k, .int n] ++ List.replicate (2 - (lg_sl [.int k, .int n]).length) Slot.unset).toArray = ls at hl ⊢
  have hl : lv_has ls 2 [(0, .int k), (1, .int n)] := hl
  clear hfr hargs B
  show W p l e rmJ0_checkIndex_df160 s m args below meth c s.heap [] 0 0 (MQ below (Qvw (dC, dI) 93 ad (layX ad cy) σ) args s 0 0 (WA 93 ad)) (F0 m 0 ls [])
  refine lv_iload_n hx hb dJ0_checkIndex_df160_0 rfl (lv_at hl 0 rfl) ?_
  refine lv_iload_n hx hb dJ0_checkIndex_df160_1 rfl (lv_at hl 1 rfl) ?_
  rcases hE.2.2.2.1 with hZ | ⟨t, hZ⟩
  · refine va_gets hx hb (C := "jdk/internal/util/Preconditions") (n := "SIOOBE_FORMATTER") (d := "Ljava/util/function/BiFunction;") hZ hS hown w1 (fun _ h => h) dJ0_checkIndex_df160_2 ?_
    refine xt_callSiE (As := [.int k, .int n, .null]) (rest := []) ⟨hx, hb, hml, hown, hts⟩ (mJ3_checkIndex_8e157_n l dC dI ad cy sa k n h0 hk σ) (va_cwS 3 hts gJ0_checkIndex_df160_J3_checkIndex_8e157 rfl rfl rfl dmJ3_checkIndex_8e157 ⟨Nat.le_of_ble_eq_true rfl, Nat.le_of_ble_eq_true rfl⟩) hK hP hS hE rfl rfl hl.1 (Nat.le_of_ble_eq_true rfl) ⟨Nat.zero_le _, Nat.zero_le _⟩ dJ0_checkIndex_df160_5 (fun H locs hP hS => ?_)
    refine lv_pop hx hb dJ0_checkIndex_df160_8 rfl ?_
    exact xt_vret hx hb hr hP hS rfl dJ0_checkIndex_df160_9 hlocks
  · refine va_gets hx hb (C := "jdk/internal/util/Preconditions") (n := "SIOOBE_FORMATTER") (d := "Ljava/util/function/BiFunction;") hZ hS hown w1 (fun _ h => h) dJ0_checkIndex_df160_2 ?_
    refine xt_callSiE (As := [.int k, .int n, (.ref t)]) (rest := []) ⟨hx, hb, hml, hown, hts⟩ (mJ3_checkIndex_8e157_r l dC dI ad cy sa t k n h0 hk σ) (va_cwS 3 hts gJ0_checkIndex_df160_J3_checkIndex_8e157 rfl rfl rfl dmJ3_checkIndex_8e157 ⟨Nat.le_of_ble_eq_true rfl, Nat.le_of_ble_eq_true rfl⟩) hK hP hS hE rfl rfl hl.1 (Nat.le_of_ble_eq_true rfl) ⟨Nat.zero_le _, Nat.zero_le _⟩ dJ0_checkIndex_df160_5 (fun H locs hP hS => ?_)
    refine lv_pop hx hb dJ0_checkIndex_df160_8 rfl ?_
    exact xt_vret hx hb hr hP hS rfl dJ0_checkIndex_df160_9 hlocks
theorem dmJ1_charAt_3b067 : yJ1_charAt_3b067.cls ≠ "java/lang/invoke/MethodHandle" ∧ yJ1_charAt_3b067.cls ≠ "java/lang/invoke/VarHandle" ∧ (parseMethodDescriptor yJ1_charAt_3b067.desc).map (fun d => d.parameters.length) = some 2 := by decide +kernel
abbrev rmJ1_charAt_3b067 : Room := { frames := 2, cells := 0, slots := 0, locals := 50 }
set_option maxHeartbeats 8000000 in
set_option maxRecDepth 100000 in
theorem mJ1_charAt_3b067 (l : Launch) (dC : Nat → ClassId) (dI : Nat → Nat → Nat) (ad : Nat → Nat) (cy : Nat → ClassId) (sa : SA) (w : Nat) (hw : w < 8) (k : Nat) (hk : k < lenS.getD w 0) (σ : St) : CMiE l yJ1_charAt_3b067 wsJ1_charAt_3b067 rmJ1_charAt_3b067 (dC, dI) (tysX cy) 93 ad (layX ad cy) sa [.ref (sa.2.1 w), .int (nI k)] σ (chS w k) σ := by
  refine Met.ofW (cc := cJ1_charAt_3b067) (maxL := 2) (ret := (some .char)) (by decide) rfl ?_
  intro p e s m args below meth c s₁ B hml hv
  obtain ⟨hargs, hP, hK, hE⟩ := hv
  have hx := B.exec
  have hb := B.bytes
  have hr := B.returns
  have hts := atoms_spec (ws := wsJ1_charAt_3b067) B.pre
  have hown : s.vm.findClass RJ1 = some m.cls := findClass_of_methodNamed B.named
  have hlocks := B.notSynchronized
  have hS : va_S (WA 93 ad) s.heap s.heap [] := va_S.rf
  have hfr : entryFrame m args 2 = F0 m 0 ((lg_sl [.ref (sa.2.1 w), .int (nI k)] ++ List.replicate (2 - (lg_sl [.ref (sa.2.1 w), .int (nI k)]).length) Slot.unset).toArray) [] := by rw [hargs]; exact lg_entry_eq _ _ _
  rw [hfr]
  have hl := lv_entry ([.ref (sa.2.1 w), .int (nI k)]) (n := 2) (Nat.le_of_ble_eq_true rfl)
  generalize (lg_sl [.ref (sa.2.1 w), .int (nI k)] ++ List.replicate (2 - (lg_sl [.ref (sa.2.1 w), .int (nI k)]).length) Slot.unset).toArray = ls at hl ⊢
  have hl : lv_has ls 2 [(0, .ref (sa.2.1 w)), (1, .int (nI k))] := hl
  clear hfr hargs B
  show W p l e rmJ1_charAt_3b067 s m args below meth c s.heap [] 0 0 (MQ below (Qiw (dC, dI) 93 ad (layX ad cy) (chS w k) σ) args s 0 0 (WA 93 ad)) (F0 m 0 ls [])
  have h10 := lenS_lt w hw
  refine lv_iload_n hx hb dJ1_charAt_3b067_0 rfl (lv_at hl 1 rfl) ?_
  refine lv_aload_n hx hb dJ1_charAt_3b067_1 rfl (lv_at hl 0 rfl) ?_
  refine va_tlen hx hb (hE.2.1.1 w hw).2.2.2 hS (v := nI (lenS.getD w 0)) rfl dJ1_charAt_3b067_2 ?_
  refine xt_callSvE (As := [.int (nI k), .int (nI (lenS.getD w 0))]) (rest := []) ⟨hx, hb, hml, hown, hts⟩ (mJ0_checkIndex_df160 l dC dI ad cy sa (nI k) (nI (lenS.getD w 0)) (nI_pos (by omega)) (nI_lt hk (by omega)) σ) (va_cwS 2 hts gJ1_charAt_3b067_J0_checkIndex_df160 rfl rfl rfl dmJ0_checkIndex_df160 ⟨Nat.le_of_ble_eq_true rfl, Nat.le_of_ble_eq_true rfl⟩) hK hP hS hE rfl rfl hl.1 (Nat.le_of_ble_eq_true rfl) ⟨Nat.zero_le _, Nat.zero_le _⟩ dJ1_charAt_3b067_3 (fun H locs hP hS => ?_)
  refine lv_aload_n hx hb dJ1_charAt_3b067_6 rfl (lv_at hl 0 rfl) ?_
  refine lv_iload_n hx hb dJ1_charAt_3b067_7 rfl (lv_at hl 1 rfl) ?_
  refine va_tb hx hb (hE.2.1.1 w hw).2.2.2 hS (vp_in_nI hk (by omega)) (v := .int (chS w k)) (by rw [nI_clamp (by omega)]; rfl) dJ1_charAt_3b067_8 ?_
  refine lv_sipush (v := 255) hx hb dJ1_charAt_3b067_9 (by decide) ?_
  refine lv_iand hx hb dJ1_charAt_3b067_12 ?_
  rw [chS_and w hw k hk]
  refine lv_i2c (v := chS w k) hx hb dJ1_charAt_3b067_13 (chS_char w hw k hk).1 ?_
  exact xt_zret hx hb hr (chS_char w hw k hk).2 hP hS rfl rfl dJ1_charAt_3b067_14 hlocks
theorem dmJ0_charAt_5068e : yJ0_charAt_5068e.cls = RJ0 ∧ yJ0_charAt_5068e.cls ≠ "java/lang/invoke/MethodHandle" ∧ yJ0_charAt_5068e.cls ≠ "java/lang/invoke/VarHandle" ∧ (parseMethodDescriptor yJ0_charAt_5068e.desc).map (fun d => d.parameters.length) = some 1 := by decide +kernel
abbrev rmJ0_charAt_5068e : Room := { frames := 3, cells := 0, slots := 0, locals := 80 }
set_option maxHeartbeats 8000000 in
set_option maxRecDepth 100000 in
theorem mJ0_charAt_5068e (l : Launch) (dC : Nat → ClassId) (dI : Nat → Nat → Nat) (ad : Nat → Nat) (cy : Nat → ClassId) (sa : SA) (w : Nat) (hw : w < 8) (k : Nat) (hk : k < lenS.getD w 0) (σ : St) : CMiE l yJ0_charAt_5068e wsJ0_charAt_5068e rmJ0_charAt_5068e (dC, dI) (tysX cy) 93 ad (layX ad cy) sa [.ref (sa.1 w), .int (nI k)] σ (chS w k) σ := by
  refine Met.ofW (cc := cJ0_charAt_5068e) (maxL := 2) (ret := (some .char)) (by decide) rfl ?_
  intro p e s m args below meth c s₁ B hml hv
  obtain ⟨hargs, hP, hK, hE⟩ := hv
  have hx := B.exec
  have hb := B.bytes
  have hr := B.returns
  have hts := atoms_spec (ws := wsJ0_charAt_5068e) B.pre
  have hown : s.vm.findClass RJ0 = some m.cls := findClass_of_methodNamed B.named
  have hlocks := B.notSynchronized
  have w1 := hts (.fieldLink RJ0 9 "java/lang/String" "value" "[B") (List.mem_of_getElem? (i := 1) rfl)
  have hS : va_S (WA 93 ad) s.heap s.heap [] := va_S.rf
  have hfr : entryFrame m args 2 = F0 m 0 ((lg_sl [.ref (sa.1 w), .int (nI k)] ++ List.replicate (2 - (lg_sl [.ref (sa.1 w), .int (nI k)]).length) Slot.unset).toArray) [] := by rw [hargs]; exact lg_entry_eq _ _ _
  rw [hfr]
  have hl := lv_entry ([.ref (sa.1 w), .int (nI k)]) (n := 2) (Nat.le_of_ble_eq_true rfl)
  generalize (lg_sl [.ref (sa.1 w), .int (nI k)] ++ List.replicate (2 - (lg_sl [.ref (sa.1 w), .int (nI k)]).length) Slot.unset).toArray = ls at hl ⊢
  have hl : lv_has ls 2 [(0, .ref (sa.1 w)), (1, .int (nI k))] := hl
  clear hfr hargs B
  show W p l e rmJ0_charAt_5068e s m args below meth c s.heap [] 0 0 (MQ below (Qiw (dC, dI) 93 ad (layX ad cy) (chS w k) σ) args s 0 0 (WA 93 ad)) (F0 m 0 ls [])
  refine lv_aload_n hx hb dJ0_charAt_5068e_0 rfl (lv_at hl 0 rfl) ?_
  refine xt_callViE (As := []) (rest := []) ⟨hx, hb, hml, hown, hts⟩ (sa.1 w) (mJ0_isLatin1_aae02 l dC dI ad cy sa w hw σ) (cwV 0 hts gJ0_charAt_5068e_J0_isLatin1_aae02 rfl rfl rfl dmJ0_isLatin1_aae02 ⟨Nat.le_of_ble_eq_true rfl, Nat.le_of_ble_eq_true rfl⟩) hK hP hS hE (vk_recv hE.2.1 hw hS) rfl rfl hl.1 (Nat.le_of_ble_eq_true rfl) ⟨Nat.zero_le _, Nat.zero_le _⟩ dJ0_charAt_5068e_1 (fun H locs hP hS => ?_)
  refine lv_if_eq (tgt := 16) hx hb dJ0_charAt_5068e_4 (by decide) (fun q => absurd q (by decide)) (fun _ => ?_)
  refine lv_aload_n hx hb dJ0_charAt_5068e_7 rfl (lv_at hl 0 rfl) ?_
  refine vk_getf hx hb (o := "java/lang/String") (n := "value") (d := "[B") (hE.2.1.1 w hw).2.2.1 hS hown w1 (fun _ h => h) dJ0_charAt_5068e_8 ?_
  refine lv_iload_n hx hb dJ0_charAt_5068e_11 rfl (lv_at hl 1 rfl) ?_
  refine xt_callSiE (As := [.ref (sa.2.1 w), .int (nI k)]) (rest := []) ⟨hx, hb, hml, hown, hts⟩ (mJ1_charAt_3b067 l dC dI ad cy sa w hw k hk σ) (va_cwS 2 hts gJ0_charAt_5068e_J1_charAt_3b067 rfl rfl rfl dmJ1_charAt_3b067 ⟨Nat.le_of_ble_eq_true rfl, Nat.le_of_ble_eq_true rfl⟩) hK hP hS hE rfl rfl hl.1 (Nat.le_of_ble_eq_true rfl) ⟨Nat.zero_le _, Nat.zero_le _⟩ dJ0_charAt_5068e_12 (fun H locs hP hS => ?_)
  exact xt_zret hx hb hr (chS_char w hw k hk).2 hP hS rfl rfl dJ0_charAt_5068e_15 hlocks
theorem dmX5_wordOf : yX5_wordOf.cls ≠ "java/lang/invoke/MethodHandle" ∧ yX5_wordOf.cls ≠ "java/lang/invoke/VarHandle" ∧ (parseMethodDescriptor yX5_wordOf.desc).map (fun d => d.parameters.length) = some 1 := by decide +kernel
abbrev rmX5_wordOf : Room := { frames := 0, cells := 0, slots := 0, locals := 0 }
set_option maxHeartbeats 8000000 in
set_option maxRecDepth 100000 in
theorem mX5_wordOf (l : Launch) (dC : Nat → ClassId) (dI : Nat → Nat → Nat) (ad : Nat → Nat) (cy : Nat → ClassId) (sa : SA) (w : Nat) (hw : w < 8) (σ : St) : CMsE l yX5_wordOf wsX5_wordOf rmX5_wordOf (dC, dI) (tysX cy) 93 ad (layX ad cy) sa [.int (nI w)] σ (sa.1 w) σ := by
  refine Met.ofW (cc := cX5_wordOf) (maxL := 1) (ret := (some (.object "java/lang/String"))) (by decide) rfl ?_
  intro p e s m args below meth c s₁ B hml hv
  obtain ⟨hargs, hP, hK, hE⟩ := hv
  have hx := B.exec
  have hb := B.bytes
  have hr := B.returns
  have hts := atoms_spec (ws := wsX5_wordOf) B.pre
  have hown : s.vm.findClass RX5 = some m.cls := findClass_of_methodNamed B.named
  have hlocks := B.notSynchronized
  have hS : va_S (WA 93 ad) s.heap s.heap [] := va_S.rf
  have hfr : entryFrame m args 1 = F0 m 0 ((lg_sl [.int (nI w)] ++ List.replicate (1 - (lg_sl [.int (nI w)]).length) Slot.unset).toArray) [] := by rw [hargs]; exact lg_entry_eq _ _ _
  rw [hfr]
  have hl := lv_entry ([.int (nI w)]) (n := 1) (Nat.le_of_ble_eq_true rfl)
  generalize (lg_sl [.int (nI w)] ++ List.replicate (1 - (lg_sl [.int (nI w)]).length) Slot.unset).toArray = ls at hl ⊢
  have hl : lv_has ls 1 [(0, .int (nI w))] := hl
  clear hfr hargs B
  show W p l e rmX5_wordOf s m args below meth c s.heap [] 0 0 (MQ below (Qsw (dC, dI) 93 ad (layX ad cy) (sa.1 w) σ) args s 0 0 (WA 93 ad)) (F0 m 0 ls [])
  refine lv_iload_n hx hb dX5_wordOf_0 rfl (lv_at hl 0 rfl) ?_
  by_cases c0 : w = 0
  · subst c0
    refine lv_tableIn (tgt := 44) (off := 43) hx hb dX5_wordOf_1 (by decide) (by decide) (by rfl) (by decide) ?_
    refine va_ldcS (tx := txS 0) hx hb hown (hE.1 0 (by decide)) dX5_wordOf_44 ?_
    exact xt_sret hx hb hr hP hS rfl rfl dX5_wordOf_46 hlocks
  ·
    by_cases c1 : w = 1
    · subst c1
      refine lv_tableIn (tgt := 47) (off := 46) hx hb dX5_wordOf_1 (by decide) (by decide) (by rfl) (by decide) ?_
      refine va_ldcS (tx := txS 1) hx hb hown (hE.1 1 (by decide)) dX5_wordOf_47 ?_
      exact xt_sret hx hb hr hP hS rfl rfl dX5_wordOf_49 hlocks
    ·
      by_cases c2 : w = 2
      · subst c2
        refine lv_tableIn (tgt := 50) (off := 49) hx hb dX5_wordOf_1 (by decide) (by decide) (by rfl) (by decide) ?_
        refine va_ldcS (tx := txS 2) hx hb hown (hE.1 2 (by decide)) dX5_wordOf_50 ?_
        exact xt_sret hx hb hr hP hS rfl rfl dX5_wordOf_52 hlocks
      ·
        by_cases c3 : w = 3
        · subst c3
          refine lv_tableIn (tgt := 53) (off := 52) hx hb dX5_wordOf_1 (by decide) (by decide) (by rfl) (by decide) ?_
          refine va_ldcS (tx := txS 3) hx hb hown (hE.1 3 (by decide)) dX5_wordOf_53 ?_
          exact xt_sret hx hb hr hP hS rfl rfl dX5_wordOf_55 hlocks
        ·
          by_cases c4 : w = 4
          · subst c4
            refine lv_tableIn (tgt := 56) (off := 55) hx hb dX5_wordOf_1 (by decide) (by decide) (by rfl) (by decide) ?_
            refine va_ldcS (tx := txS 4) hx hb hown (hE.1 4 (by decide)) dX5_wordOf_56 ?_
            exact xt_sret hx hb hr hP hS rfl rfl dX5_wordOf_58 hlocks
          ·
            by_cases c5 : w = 5
            · subst c5
              refine lv_tableIn (tgt := 59) (off := 58) hx hb dX5_wordOf_1 (by decide) (by decide) (by rfl) (by decide) ?_
              refine va_ldcS (tx := txS 5) hx hb hown (hE.1 5 (by decide)) dX5_wordOf_59 ?_
              exact xt_sret hx hb hr hP hS rfl rfl dX5_wordOf_61 hlocks
            ·
              by_cases c6 : w = 6
              · subst c6
                refine lv_tableIn (tgt := 62) (off := 61) hx hb dX5_wordOf_1 (by decide) (by decide) (by rfl) (by decide) ?_
                refine va_ldcS (tx := txS 6) hx hb hown (hE.1 6 (by decide)) dX5_wordOf_62 ?_
                exact xt_sret hx hb hr hP hS rfl rfl dX5_wordOf_64 hlocks
              ·
                have c7 : w = 7 := by omega
                subst c7
                refine lv_tableOut (tgt := 65) hx hb dX5_wordOf_1 (Or.inr (by decide)) (by decide) ?_
                refine va_ldcS (tx := txS 7) hx hb hown (hE.1 7 (by decide)) dX5_wordOf_65 ?_
                exact xt_sret hx hb hr hP hS rfl rfl dX5_wordOf_67 hlocks
theorem okI_eq {x : Int32} {n : Nat} (h : okI x n = true) : nI x.toNatClampNeg = x := by
  unfold okI at h
  simp only [Bool.and_eq_true, Bool.not_eq_true', decide_eq_false_iff_not, decide_eq_true_eq] at h
  obtain ⟨j, hj, rfl⟩ := nI_of h.1
  rw [nI_clamp hj]
theorem mX5_wordOf_x (l : Launch) (dC : Nat → ClassId) (dI : Nat → Nat → Nat) (ad : Nat → Nat) (cy : Nat → ClassId) (sa : SA) (x : Int32) (g : okI x 8 = true) (σ : St) : CMsE l yX5_wordOf wsX5_wordOf rmX5_wordOf (dC, dI) (tysX cy) 93 ad (layX ad cy) sa [.int x] σ (sa.1 x.toNatClampNeg) σ := by
  have h := mX5_wordOf l dC dI ad cy sa x.toNatClampNeg (okI_lt g) σ
  rw [okI_eq g] at h
  exact h
theorem mJ0_charAt_x (l : Launch) (dC : Nat → ClassId) (dI : Nat → Nat → Nat) (ad : Nat → Nat) (cy : Nat → ClassId) (sa : SA) (w : Nat) (hw : w < 8) (x : Int32) (g : okI x (lenS.getD w 0) = true) (σ : St) : CMiE l yJ0_charAt_5068e wsJ0_charAt_5068e rmJ0_charAt_5068e (dC, dI) (tysX cy) 93 ad (layX ad cy) sa [.ref (sa.1 w), .int x] σ (chS w x.toNatClampNeg) σ := by
  have h := mJ0_charAt_5068e l dC dI ad cy sa w hw x.toNatClampNeg (okI_lt g) σ
  rw [okI_eq g] at h
  exact h
