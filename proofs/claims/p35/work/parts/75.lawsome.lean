/-! The law: cell, some; rows for the script. -/
def ushr3 (x : Int32) : Int32 := (x.toUInt32 >>> ((3 : Int32).toUInt32 &&& Int32.toUInt32 31)).toInt32
def fL_cell (bL : Nat) (xs : Nat → Int32) (k : Int32) : Option Int32 := if Int32.ofNat bL ≤ k then some (7919 * k + 12) else gd (okI k bL) (some (xs k.toNatClampNeg))
def fL_some (bL : Nat) (xs : Nat → Int32) (k n : Int32) : Option Int32 := bd (fL_cell bL xs k) fun r1 => gd (okZ n) (some (jrem (ushr3 r1) n))
def F_ : Nat → Prop := fun _ => False
def PcX (av : List Value) (b bL : Nat) (xs : Nat → Int32) : Array Value → State → Prop := va_Pc av (fun U => va_X b bL xs U U.heap ∧ b < U.heap.size)
theorem PcX_blind {av : List Value} {b bL : Nat} {xs : Nat → Int32} : FrameBlind (PcX av b bL xs) := fun a U g mk q => by
  obtain ⟨q0, qX, qb⟩ := q
  exact ⟨q0, va_X.moved (u := U) (U := U.calling g mk a) (Vm.Alike.refl U.vm) qX, qb⟩
def CMX (l : Launch) (y : MethodName) (ws : List Cond) (rm : Room) (av : List Value) (b bL : Nat) (xs : Nat → Int32) (r : Int32) : Prop := Met l y ws rm (PcX av b bL xs) (va_Qi (fun (z : Int32) (_ : Unit) => z = r) (fun _ _ => True) F_) 0 0 F_
abbrev rmL_cell : Room := { frames := 0, cells := 0, slots := 0, locals := 0 }
theorem dmL_cell : yL_cell.cls ≠ "java/lang/invoke/MethodHandle" ∧ yL_cell.cls ≠ "java/lang/invoke/VarHandle" ∧ (parseMethodDescriptor yL_cell.desc).map (fun d => d.parameters.length) = some 2 := by decide +kernel
set_option maxHeartbeats 8000000 in
set_option maxRecDepth 100000 in
theorem mL_cell (l : Launch) (b bL : Nat) (xs : Nat → Int32) (k : Int32) (res : Int32) (hf : fL_cell bL xs k = some res) : CMX l yL_cell wsL_cell rmL_cell [.ref b, .int k] b bL xs res := by
  refine Met.ofW (cc := cL_cell) (maxL := 2) (ret := (some .int)) (by decide) rfl ?_
  intro p e s m args below meth c s₁ B hml hv
  obtain ⟨hargs, hX, hbl⟩ := hv
  have hx := B.exec
  have hb := B.bytes
  have hr := B.returns
  have hlocks := B.notSynchronized
  have hS : va_S F_ s.heap s.heap [] := va_S.rf
  have hbA : ¬ F_ b := id
  have hfr : entryFrame m args 2 = F0 m 0 ((lg_sl [.ref b, .int k] ++ List.replicate (2 - (lg_sl [.ref b, .int k]).length) Slot.unset).toArray) [] := by rw [hargs]; exact lg_entry_eq _ _ _
  rw [hfr]
  have hl := lv_entry ([.ref b, .int k]) (n := 2) (Nat.le_of_ble_eq_true rfl)
  generalize (lg_sl [.ref b, .int k] ++ List.replicate (2 - (lg_sl [.ref b, .int k]).length) Slot.unset).toArray = ls at hl ⊢
  have hl : lv_has ls 2 [(0, .ref b), (1, .int k)] := hl
  clear hfr hargs B
  show W p l e rmL_cell s m args below meth c s.heap [] 0 0 (MQ below (va_Qi (fun (z : Int32) (_ : Unit) => z = res) (fun _ _ => True) F_) args s 0 0 F_) (F0 m 0 ls [])
  unfold fL_cell at hf
  refine lv_iload_n hx hb dL_cell_0 rfl (lv_at hl 1 rfl) ?_
  refine lv_aload_n hx hb dL_cell_1 rfl (lv_at hl 0 rfl) ?_
  refine va_slen hx hb hX hbl hbA hS dL_cell_2 ?_
  refine lv_icmp_ge (tgt := 12) hx hb dL_cell_3 (by decide) (fun c1 => ?_) (fun c1 => ?_)
  · have hf := Option.some.inj ((if_pos c1).symm.trans hf)
    refine lv_sipush (v := 7919) hx hb dL_cell_12 (by decide) ?_
    refine lv_iload_n hx hb dL_cell_15 rfl (lv_at hl 1 rfl) ?_
    refine lv_imul hx hb dL_cell_16 ?_
    refine lv_bipush (v := 12) hx hb dL_cell_17 (by decide) ?_
    refine lv_iadd hx hb dL_cell_19 ?_
    exact W.iret hx hb hr (fun t ht _ => ⟨⟨_, (), rfl, hf, trivial⟩, hS.F ht⟩) hS.2.2 dL_cell_20 hlocks
  · have hf := (if_neg c1).symm.trans hf
    obtain ⟨g1, hf⟩ := gd_some hf
    have hf := Option.some.inj hf
    refine lv_aload_n hx hb dL_cell_6 rfl (lv_at hl 0 rfl) ?_
    refine lv_iload_n hx hb dL_cell_7 rfl (lv_at hl 1 rfl) ?_
    refine va_sld hx hb hX hbl hbA hS (okI_in g1) dL_cell_8 ?_
    refine lv_goto (tgt := 20) hx hb dL_cell_9 (by decide) ?_
    exact W.iret hx hb hr (fun t ht _ => ⟨⟨_, (), rfl, hf, trivial⟩, hS.F ht⟩) hS.2.2 dL_cell_20 hlocks
section TX
variable {p : Program} {l : Launch} {e : Env} {R : Room} {s : State} {m : MethodId} {args : Array Value} {below : List Frame} {meth : Method} {c : Code} {H : Heap} {locs : List Loc} {cells slots : Nat} {Q : State → Prop}
variable {cc : ByteArray} {pc : Nat} {ls : Array Slot} {rest st : List Value} {H0 : Heap} {A0 : Nat → Prop} {b bL : Nat} {xs : Nat → Int32} {r : Int32}
variable {Ts ws : List Cond} {bytes : ByteArray} {nL maxL index n : Nat} {own C : String} {y : MethodName} {ret : Option FieldType} {rm : Room} {As : List Value}
/-- a call that reads the script alone and changes nothing -/
theorem xx_call (S : CallFix p m c cc nL s args Ts own) (hX : va_X b bL xs s s.heap) (hbl : b < s.heap.size) (hbA : ¬ A0 b) (hM : CMX l y ws rm As b bL xs r) (cw : CallB R s args own index y bytes maxL ret ws rm 0 0 n ∧ (Cond.static y).before args s = true) (hS : va_S A0 s.heap H locs)
    (hst : st = As.reverse ++ rest) (hn : As.length = n) (hsize : ls.size = nL) (hW : (rest.map fun v => v.category).sum ≤ 8) (hf : cells ≤ R.cells ∧ slots ≤ R.slots) (hdg : decode cc pc = .ok (.invokestatic index, 3))
    (kk : ∀ (H1 : Heap) (locs1 : List Loc), va_S A0 s.heap H1 locs1 → H.size ≤ H1.size → (∀ q, q < H.size → H1[q]? = H[q]?) → W p l e R s m args below meth c H1 locs1 cells slots Q (F0 m (pc + 3) ls (.int r :: rest))) : W p l e R s m args below meth c H locs cells slots Q (F0 m pc ls st) := by
  subst hst
  refine va_calli (va_runS (As := As) (rest := rest) S hM cw ⟨PcX_blind, fun U hU hW => ⟨rfl, by rw [hU]; exact (hX.kept (hS.2.1 b hbl hbA)).moved hW.alike, by rw [hU]; exact Nat.lt_of_lt_of_le hbl hS.1⟩⟩ rfl hn hsize rfl (lv_room hW) hdg hf) hS (fun _ _ h => h.elim) (fun _ h => h.elim) (fun v u t H1 locs1 ht _ hw hB hz hk1 hS1 => ?_)
  obtain rfl := hw
  exact kk H1 locs1 hS1 hz (fun q h => hk1 q h (fun z => z))
end TX
abbrev rmL_some : Room := { frames := 1, cells := 0, slots := 0, locals := 21 }
theorem dmL_some : yL_some.cls ≠ "java/lang/invoke/MethodHandle" ∧ yL_some.cls ≠ "java/lang/invoke/VarHandle" ∧ (parseMethodDescriptor yL_some.desc).map (fun d => d.parameters.length) = some 3 := by decide +kernel
set_option maxHeartbeats 8000000 in
set_option maxRecDepth 100000 in
theorem mL_some (l : Launch) (b bL : Nat) (xs : Nat → Int32) (k n : Int32) (res : Int32) (hf : fL_some bL xs k n = some res) : CMX l yL_some wsL_some rmL_some [.ref b, .int k, .int n] b bL xs res := by
  refine Met.ofW (cc := cL_some) (maxL := 3) (ret := (some .int)) (by decide) rfl ?_
  intro p e s m args below meth c s₁ B hml hv
  obtain ⟨hargs, hX, hbl⟩ := hv
  have hx := B.exec
  have hb := B.bytes
  have hr := B.returns
  have hts := atoms_spec (ws := wsL_some) B.pre
  have hown : s.vm.findClass RL = some m.cls := findClass_of_methodNamed B.named
  have hlocks := B.notSynchronized
  have hS : va_S F_ s.heap s.heap [] := va_S.rf
  have hbA : ¬ F_ b := id
  have hfr : entryFrame m args 3 = F0 m 0 ((lg_sl [.ref b, .int k, .int n] ++ List.replicate (3 - (lg_sl [.ref b, .int k, .int n]).length) Slot.unset).toArray) [] := by rw [hargs]; exact lg_entry_eq _ _ _
  rw [hfr]
  have hl := lv_entry ([.ref b, .int k, .int n]) (n := 3) (Nat.le_of_ble_eq_true rfl)
  generalize (lg_sl [.ref b, .int k, .int n] ++ List.replicate (3 - (lg_sl [.ref b, .int k, .int n]).length) Slot.unset).toArray = ls at hl ⊢
  have hl : lv_has ls 3 [(0, .ref b), (1, .int k), (2, .int n)] := hl
  clear hfr hargs B
  show W p l e rmL_some s m args below meth c s.heap [] 0 0 (MQ below (va_Qi (fun (z : Int32) (_ : Unit) => z = res) (fun _ _ => True) F_) args s 0 0 F_) (F0 m 0 ls [])
  unfold fL_some at hf
  obtain ⟨r1, q1, hf⟩ := bd_some hf
  obtain ⟨g1, hf⟩ := gd_some hf
  have hf := Option.some.inj hf
  refine lv_aload_n hx hb dL_some_0 rfl (lv_at hl 0 rfl) ?_
  refine lv_iload_n hx hb dL_some_1 rfl (lv_at hl 1 rfl) ?_
  refine xx_call (As := [.ref b, .int k]) (rest := []) ⟨hx, hb, hml, hown, hts⟩ hX hbl hbA (mL_cell l b bL xs k r1 q1) (va_cwS 2 hts gL_some_L_cell rfl rfl rfl dmL_cell ⟨Nat.le_of_ble_eq_true rfl, Nat.le_of_ble_eq_true rfl⟩) hS rfl rfl hl.1 (Nat.le_of_ble_eq_true rfl) ⟨Nat.zero_le _, Nat.zero_le _⟩ dL_some_2 (fun H1 locs1 hS _ _ => ?_)
  refine lv_iconst (v := 3) hx hb dL_some_5 (by decide) ?_
  refine lv_iushr (v := ushr3 r1) hx hb dL_some_6 rfl ?_
  refine lv_iload_n hx hb dL_some_7 rfl (lv_at hl 2 rfl) ?_
  refine xt_irem hx hb dL_some_8 (okZ_ne g1) ?_
  exact W.iret hx hb hr (fun t ht _ => ⟨⟨_, (), rfl, hf, trivial⟩, hS.F ht⟩) hS.2.2 dL_some_9 hlocks
