/-! The law: acts, build. -/
def PcwX (av : List Value) (D : va_G) (tys : List (ClassId × FieldType)) (N : Nat) (ad : Nat → Nat) (L : Nat → (Nat → Int32) → va_E) (b bL : Nat) (xs : Nat → Int32) (σ : St) : Array Value → State → Prop := va_Pc av (fun U => va_P D vwCl (wd N ad L σ) U.heap ∧ va_K D vwCl tys U ∧ va_X b bL xs U U.heap ∧ b < U.heap.size ∧ ¬ WA N ad b)
theorem PcwX_blind {av : List Value} {D : va_G} {tys : List (ClassId × FieldType)} {N : Nat} {ad : Nat → Nat} {L : Nat → (Nat → Int32) → va_E} {b bL : Nat} {xs : Nat → Int32} {σ : St} : FrameBlind (PcwX av D tys N ad L b bL xs σ) := fun a U g mk q => by
  obtain ⟨q0, qP, qK, qX, qb⟩ := q
  exact ⟨q0, qP, va_K.moved (u := U) (U := U.calling g mk a) (Vm.Alike.refl U.vm) qK, va_X.moved (u := U) (U := U.calling g mk a) (Vm.Alike.refl U.vm) qX, qb⟩
def CMvX (l : Launch) (y : MethodName) (ws : List Cond) (rm : Room) (D : va_G) (tys : List (ClassId × FieldType)) (N : Nat) (ad : Nat → Nat) (L : Nat → (Nat → Int32) → va_E) (b bL : Nat) (xs : Nat → Int32) (av : List Value) (σ : St) (σ' : St) : Prop := Met l y ws rm (PcwX av D tys N ad L b bL xs σ) (Qvw D N ad L σ') 0 0 (WA N ad)
section TY
variable {p : Program} {l : Launch} {e : Env} {R : Room} {s : State} {m : MethodId} {args : Array Value} {below : List Frame} {meth : Method} {c : Code} {H : Heap} {locs : List Loc} {cells slots : Nat} {Q : State → Prop}
variable {cc : ByteArray} {pc : Nat} {ls : Array Slot} {rest st : List Value} {D : va_G} {tys : List (ClassId × FieldType)} {A0 : Nat → Prop} {b bL : Nat} {xs : Nat → Int32}
variable {N : Nat} {ad : Nat → Nat} {L : Nat → (Nat → Int32) → va_E} {σ σ' : St}
variable {Ts ws : List Cond} {bytes : ByteArray} {nL maxL index n : Nat} {own : String} {y : MethodName} {ret : Option FieldType} {rm : Room} {As : List Value}
theorem xt_callSvX (S : CallFix p m c cc nL s args Ts own) (hX : va_X b bL xs s s.heap) (hbl : b < s.heap.size) (hbA : ¬ WA N ad b) (hM : CMvX l y ws rm D tys N ad L b bL xs As σ σ') (cw : CallB R s args own index y bytes maxL ret ws rm 0 0 n ∧ (Cond.static y).before args s = true) (hK : va_K D vwCl tys s) (hP : va_P D vwCl (wd N ad L σ) H) (hS : va_S (WA N ad) s.heap H locs)
    (hst : st = As.reverse ++ rest) (hn : As.length = n) (hsize : ls.size = nL) (hW : (rest.map fun v => v.category).sum ≤ 8) (hf : cells ≤ R.cells ∧ slots ≤ R.slots) (hdg : decode cc pc = .ok (.invokestatic index, 3))
    (kk : ∀ (H1 : Heap) (locs1 : List Loc), va_P D vwCl (wd N ad L σ') H1 → va_S (WA N ad) s.heap H1 locs1 → W p l e R s m args below meth c H1 locs1 cells slots Q (F0 m (pc + 3) ls rest)) : W p l e R s m args below meth c H locs cells slots Q (F0 m pc ls st) := by
  subst hst
  refine va_callv (va_runS (As := As) (rest := rest) S hM cw ⟨PcwX_blind, fun U hU hW => ⟨rfl, by rw [hU]; exact hP, va_K.moved hW.alike hK, by rw [hU]; exact (hX.kept (hS.2.1 b hbl hbA)).moved hW.alike, by rw [hU]; exact Nat.lt_of_lt_of_le hbl hS.1, hbA⟩⟩ rfl hn hsize rfl (lv_room hW) hdg hf) hS (fun _ _ h => h) (fun _ h => h) (fun u t H1 locs1 ht _ hw hB _ _ hS1 => ?_)
  obtain rfl := hw
  exact kk H1 locs1 (by rw [← ht]; exact hB) hS1
theorem xx_callP {r : Int32} (S : CallFix p m c cc nL s args Ts own) (hX : va_X b bL xs s s.heap) (hbl : b < s.heap.size) (hbA : ¬ A0 b) (hM : CMX l y ws rm As b bL xs r) (cw : CallB R s args own index y bytes maxL ret ws rm 0 0 n ∧ (Cond.static y).before args s = true) (hP : va_P D vwCl (wd N ad L σ) H) (hS : va_S A0 s.heap H locs)
    (hst : st = As.reverse ++ rest) (hn : As.length = n) (hsize : ls.size = nL) (hW : (rest.map fun v => v.category).sum ≤ 8) (hf : cells ≤ R.cells ∧ slots ≤ R.slots) (hdg : decode cc pc = .ok (.invokestatic index, 3))
    (kk : ∀ (H1 : Heap) (locs1 : List Loc), va_P D vwCl (wd N ad L σ) H1 → va_S A0 s.heap H1 locs1 → W p l e R s m args below meth c H1 locs1 cells slots Q (F0 m (pc + 3) ls (.int r :: rest))) : W p l e R s m args below meth c H locs cells slots Q (F0 m pc ls st) :=
  xx_call S hX hbl hbA hM cw hS hst hn hsize hW hf hdg (fun H1 locs1 hS1 _ hk => kk H1 locs1 (hP.kept (fun k x hx => hk x.1 (hP k x hx).lt)) hS1)
end TY
def fL_acts (bL : Nat) (xs : Nat → Int32) (σ : St) (a2 : Int32) : Option St :=
  bd (fX6_account σ 0) fun r1 => bd (fX6_account σ 3) fun r2 => bd (fL_some bL xs (a2 + 1) r1) fun r3 => bd (fL_some bL xs (a2 + 2) (if (1 : Int32) < r2 then r2 else (1 : Int32))) fun r4 => bd (fL_some bL xs (a2 + 3) 5) fun r5 => bd (fL_some bL xs a2 9) fun r6 => if r6 = 0 then (if (7 : Int32) ≤ r1 then (some σ) else (bd (fX6_pier σ (1 + r5)) fun r9 => some r9.2)) else (if r6 = 1 then (bd (fX6_close σ r3) fun r11 => some r11.2) else (if r6 = 2 then (bd (fX6_close σ r3) fun r13 => some r13.2) else (if r6 = 3 then (bd (fX6_open σ r3) fun r15 => some r15.2) else (if r6 = 4 then (bd (fX6_weigh σ r3 (1 + r5)) fun r17 => some r17.2) else (if r6 = 5 then (bd (fL_some bL xs (a2 + 2) 9999) fun r19 => bd (fX6_barge σ r19 ((9 * r5) + 5)) fun r20 => some r20.2) else (if r6 = 6 then (bd (fX6_leave σ r4) fun r22 => some r22.2) else (if r6 = 7 then (bd (fX6_load σ r4 ((11 * r5) + 1)) fun r24 => some r24.2) else (bd (fX6_berth σ (20 + (20 * r5))) fun r25 => some r25.2))))))))
abbrev rmL_acts : Room := { frames := 6, cells := 0, slots := 0, locals := 177 }
theorem dmL_acts : yL_acts.cls ≠ "java/lang/invoke/MethodHandle" ∧ yL_acts.cls ≠ "java/lang/invoke/VarHandle" ∧ (parseMethodDescriptor yL_acts.desc).map (fun d => d.parameters.length) = some 3 := by decide +kernel
set_option maxHeartbeats 8000000 in
set_option maxRecDepth 100000 in
theorem mL_acts (l : Launch) (dC : Nat → ClassId) (dI : Nat → Nat → Nat) (ad : Nat → Nat) (cy : Nat → ClassId) (hJ : WJ 93 ad) (b bL : Nat) (xs : Nat → Int32) (σ : St) (a2 : Int32) (res : St) (hf : fL_acts bL xs σ a2 = some res) : CMvX l yL_acts wsL_acts rmL_acts (dC, dI) (tysX cy) 93 ad (layX ad cy) b bL xs [.ref (ad 0), .ref b, .int a2] σ res := by
  refine Met.ofW (cc := cL_acts) (maxL := 9) (ret := none) (by decide) rfl ?_
  intro p e s m args below meth c s₁ B hml hv
  obtain ⟨hargs, hP, hK, hX, hbl, hbA⟩ := hv
  have hx := B.exec
  have hb := B.bytes
  have hr := B.returns
  have hts := atoms_spec (ws := wsL_acts) B.pre
  have hown : s.vm.findClass RL = some m.cls := findClass_of_methodNamed B.named
  have hlocks := B.notSynchronized
  have w1 := hts (.methodLink RL 57 Lib.Math.max.name) (List.mem_of_getElem? (i := 1) rfl)
  have w2 := hts (.static Lib.Math.max.name) (List.mem_of_getElem? (i := 2) rfl)
  have w3 := hts (.initialized "java/lang/Math") (List.mem_of_getElem? (i := 3) rfl)
  have w4 := hts (.code Lib.Math.max.name Lib.Math.max.code 2 (some .int)) (List.mem_of_getElem? (i := 4) rfl)
  have hS : va_S (WA 93 ad) s.heap s.heap [] := va_S.rf
  have hfr : entryFrame m args 9 = F0 m 0 ((lg_sl [.ref (ad 0), .ref b, .int a2] ++ List.replicate (9 - (lg_sl [.ref (ad 0), .ref b, .int a2]).length) Slot.unset).toArray) [] := by rw [hargs]; exact lg_entry_eq _ _ _
  rw [hfr]
  have hl := lv_entry ([.ref (ad 0), .ref b, .int a2]) (n := 9) (Nat.le_of_ble_eq_true rfl)
  generalize (lg_sl [.ref (ad 0), .ref b, .int a2] ++ List.replicate (9 - (lg_sl [.ref (ad 0), .ref b, .int a2]).length) Slot.unset).toArray = ls at hl ⊢
  have hl : lv_has ls 9 [(0, .ref (ad 0)), (1, .ref b), (2, .int a2)] := hl
  clear hfr hargs B
  show W p l e rmL_acts s m args below meth c s.heap [] 0 0 (MQ below (Qvw (dC, dI) 93 ad (layX ad cy) res) args s 0 0 (WA 93 ad)) (F0 m 0 ls [])
  unfold fL_acts at hf
  obtain ⟨H, eH⟩ : ∃ H : Heap, H = s.heap := ⟨_, rfl⟩
  rw [← eH] at hP
  have hS : va_S (WA 93 ad) s.heap H [] := by rw [eH]; exact hS
  suffices K : W p l e rmL_acts s m args below meth c H [] 0 0 (MQ below (Qvw (dC, dI) 93 ad (layX ad cy) res) args s 0 0 (WA 93 ad)) (F0 m 0 ls []) by rw [eH] at K; exact K
  clear eH
  obtain ⟨locs, elocs⟩ : ∃ z : List Loc, z = [] := ⟨_, rfl⟩
  rw [← elocs] at hS ⊢
  refine lv_aload_n hx hb dL_acts_0 rfl (lv_at hl 0 rfl) ?_
  refine lv_iconst (v := 0) hx hb dL_acts_1 (by decide) ?_
  obtain ⟨r1, qr1, hf⟩ := bd_some hf
  refine xt_callVi (As := [.int 0]) (rest := []) (C := RX6) (ci := 6) ⟨hx, hb, hml, hown, hts⟩ 0 (mX6_account l dC dI ad cy hJ σ 0 r1 qr1) (cwV 1 hts gL_acts_X6_account rfl rfl rfl dmX6_account ⟨Nat.le_of_ble_eq_true rfl, Nat.le_of_ble_eq_true rfl⟩) hK hP hS (by decide) (LX6_obj ad cy _) rfl rfl rfl hl.1 (Nat.le_of_ble_eq_true rfl) ⟨Nat.zero_le _, Nat.zero_le _⟩ dL_acts_2 (fun H locs hP hS => ?_)
  refine lv_istore_n (lv' := [(3, .int r1), (0, .ref (ad 0)), (1, .ref b), (2, .int a2)]) hx hb dL_acts_5 rfl hl (by decide) rfl (fun ls hl => ?_)
  refine lv_aload_n hx hb dL_acts_6 rfl (lv_at hl 1 rfl) ?_
  refine lv_iconst (v := 3) hx hb dL_acts_7 (by decide) ?_
  obtain ⟨r2, qr2, hf⟩ := bd_some hf
  refine xt_callVi (As := [.int 3]) (rest := []) (C := RX6) (ci := 6) ⟨hx, hb, hml, hown, hts⟩ 0 (mX6_account l dC dI ad cy hJ σ 3 r2 qr2) (cwV 1 hts gL_acts_X6_account rfl rfl rfl dmX6_account ⟨Nat.le_of_ble_eq_true rfl, Nat.le_of_ble_eq_true rfl⟩) hK hP hS (by decide) (LX6_obj ad cy _) rfl rfl rfl hl.1 (Nat.le_of_ble_eq_true rfl) ⟨Nat.zero_le _, Nat.zero_le _⟩ dL_acts_8 (fun H locs hP hS => ?_)
  refine lv_istore (lv' := [(4, .int r2), (3, .int r1), (0, .ref (ad 0)), (1, .ref b), (2, .int a2)]) hx hb dL_acts_11 hl (by decide) rfl (fun ls hl => ?_)
  refine lv_aload_n hx hb dL_acts_13 rfl (lv_at hl 3 rfl) ?_
  refine lv_iload_n hx hb dL_acts_14 rfl (lv_at hl 4 rfl) ?_
  refine lv_iconst (v := 1) hx hb dL_acts_15 (by decide) ?_
  refine lv_iadd hx hb dL_acts_16 ?_
  refine lv_iload_n hx hb dL_acts_17 rfl (lv_at hl 1 rfl) ?_
  obtain ⟨r3, qr3, hf⟩ := bd_some hf
  refine xx_callP (As := [.ref b, .int (a2 + 1), .int r1]) (rest := []) ⟨hx, hb, hml, hown, hts⟩ hX hbl hbA (mL_some l b bL xs (a2 + 1) r1 r3 qr3) (va_cwS 3 hts gL_acts_L_some rfl rfl rfl dmL_some ⟨Nat.le_of_ble_eq_true rfl, Nat.le_of_ble_eq_true rfl⟩) hP hS rfl rfl hl.1 (Nat.le_of_ble_eq_true rfl) ⟨Nat.zero_le _, Nat.zero_le _⟩ dL_acts_18 (fun H locs hP hS => ?_)
  refine lv_istore (lv' := [(5, .int r3), (4, .int r2), (3, .int r1), (0, .ref (ad 0)), (1, .ref b), (2, .int a2)]) hx hb dL_acts_21 hl (by decide) rfl (fun ls hl => ?_)
  refine lv_aload_n hx hb dL_acts_23 rfl (lv_at hl 4 rfl) ?_
  refine lv_iload_n hx hb dL_acts_24 rfl (lv_at hl 5 rfl) ?_
  refine lv_iconst (v := 2) hx hb dL_acts_25 (by decide) ?_
  refine lv_iadd hx hb dL_acts_26 ?_
  refine lv_iconst (v := 1) hx hb dL_acts_27 (by decide) ?_
  refine lv_iload hx hb dL_acts_28 (lv_at hl 1 rfl) ?_
  refine va_mmax hx hb (hml.trans hl.1.symm) hown w1 w2 w3 w4 (Nat.le_of_ble_eq_true rfl) (Nat.le_of_ble_eq_true rfl) (Nat.zero_le _) (Nat.zero_le _) dL_acts_30 ?_
  obtain ⟨r4, qr4, hf⟩ := bd_some hf
  refine xx_callP (As := [.ref b, .int (a2 + 2), .int (if (1 : Int32) < r2 then r2 else (1 : Int32))]) (rest := []) ⟨hx, hb, hml, hown, hts⟩ hX hbl hbA (mL_some l b bL xs (a2 + 2) (if (1 : Int32) < r2 then r2 else (1 : Int32)) r4 qr4) (va_cwS 3 hts gL_acts_L_some rfl rfl rfl dmL_some ⟨Nat.le_of_ble_eq_true rfl, Nat.le_of_ble_eq_true rfl⟩) hP hS rfl rfl hl.1 (Nat.le_of_ble_eq_true rfl) ⟨Nat.zero_le _, Nat.zero_le _⟩ dL_acts_33 (fun H locs hP hS => ?_)
  refine lv_istore (lv' := [(6, .int r4), (5, .int r3), (4, .int r2), (3, .int r1), (0, .ref (ad 0)), (1, .ref b), (2, .int a2)]) hx hb dL_acts_36 hl (by decide) rfl (fun ls hl => ?_)
  refine lv_aload_n hx hb dL_acts_38 rfl (lv_at hl 5 rfl) ?_
  refine lv_iload_n hx hb dL_acts_39 rfl (lv_at hl 6 rfl) ?_
  refine lv_iconst (v := 3) hx hb dL_acts_40 (by decide) ?_
  refine lv_iadd hx hb dL_acts_41 ?_
  refine lv_iconst (v := 5) hx hb dL_acts_42 (by decide) ?_
  obtain ⟨r5, qr5, hf⟩ := bd_some hf
  refine xx_callP (As := [.ref b, .int (a2 + 3), .int 5]) (rest := []) ⟨hx, hb, hml, hown, hts⟩ hX hbl hbA (mL_some l b bL xs (a2 + 3) 5 r5 qr5) (va_cwS 3 hts gL_acts_L_some rfl rfl rfl dmL_some ⟨Nat.le_of_ble_eq_true rfl, Nat.le_of_ble_eq_true rfl⟩) hP hS rfl rfl hl.1 (Nat.le_of_ble_eq_true rfl) ⟨Nat.zero_le _, Nat.zero_le _⟩ dL_acts_43 (fun H locs hP hS => ?_)
  refine lv_istore (lv' := [(7, .int r5), (6, .int r4), (5, .int r3), (4, .int r2), (3, .int r1), (0, .ref (ad 0)), (1, .ref b), (2, .int a2)]) hx hb dL_acts_46 hl (by decide) rfl (fun ls hl => ?_)
  refine lv_aload_n hx hb dL_acts_48 rfl (lv_at hl 6 rfl) ?_
  refine lv_iload_n hx hb dL_acts_49 rfl (lv_at hl 7 rfl) ?_
  refine lv_bipush (v := 9) hx hb dL_acts_50 (by decide) ?_
  obtain ⟨r6, qr6, hf⟩ := bd_some hf
  refine xx_callP (As := [.ref b, .int a2, .int 9]) (rest := []) ⟨hx, hb, hml, hown, hts⟩ hX hbl hbA (mL_some l b bL xs a2 9 r6 qr6) (va_cwS 3 hts gL_acts_L_some rfl rfl rfl dmL_some ⟨Nat.le_of_ble_eq_true rfl, Nat.le_of_ble_eq_true rfl⟩) hP hS rfl rfl hl.1 (Nat.le_of_ble_eq_true rfl) ⟨Nat.zero_le _, Nat.zero_le _⟩ dL_acts_52 (fun H locs hP hS => ?_)
  by_cases c7 : r6 = 0
  · have hf := (if_pos c7).symm.trans hf
    refine lv_tableIn (tgt := 100) (off := 45) hx hb dL_acts_55 (by rw [c7]; decide) (by rw [c7]; decide) (by rw [c7]; rfl) (by decide) ?_
    refine lv_iload_n hx hb dL_acts_100 rfl (lv_at hl 4 rfl) ?_
    refine lv_bipush (v := 7) hx hb dL_acts_101 (by decide) ?_
    refine lv_icmp_ge (tgt := 117) hx hb dL_acts_103 (by decide) (fun c8 => ?_) (fun c8 => ?_)
    · have hf := (if_pos c8).symm.trans hf
      refine lv_iconst (v := 0) hx hb dL_acts_117 (by decide) ?_
      refine lv_istore (lv' := [(8, .int 0), (7, .int r5), (6, .int r4), (5, .int r3), (4, .int r2), (3, .int r1), (0, .ref (ad 0)), (1, .ref b), (2, .int a2)]) hx hb dL_acts_118 hl (by decide) rfl (fun ls hl => ?_)
      refine lv_goto (tgt := 229) hx hb dL_acts_120 (by decide) ?_
      exact xt_vret hx hb hr hP hS (Option.some.inj hf) dL_acts_229 hlocks
    · have hf := (if_neg c8).symm.trans hf
      refine lv_aload_n hx hb dL_acts_106 rfl (lv_at hl 5 rfl) ?_
      refine lv_iconst (v := 1) hx hb dL_acts_107 (by decide) ?_
      refine lv_iload hx hb dL_acts_108 (lv_at hl 0 rfl) ?_
      refine lv_iadd hx hb dL_acts_110 ?_
      obtain ⟨r9, qr9, hf⟩ := bd_some hf
      refine xt_callVi (As := [.int (1 + r5)]) (rest := []) (C := RX6) (ci := 6) ⟨hx, hb, hml, hown, hts⟩ 0 (mX6_pier l dC dI ad cy hJ σ (1 + r5) r9 qr9) (cwV 1 hts gL_acts_X6_pier rfl rfl rfl dmX6_pier ⟨Nat.le_of_ble_eq_true rfl, Nat.le_of_ble_eq_true rfl⟩) hK hP hS (by decide) (LX6_obj ad cy _) rfl rfl rfl hl.1 (Nat.le_of_ble_eq_true rfl) ⟨Nat.zero_le _, Nat.zero_le _⟩ dL_acts_111 (fun H locs hP hS => ?_)
      refine lv_goto (tgt := 118) hx hb dL_acts_114 (by decide) ?_
      refine lv_istore (lv' := [(8, .int r9.1), (7, .int r5), (6, .int r4), (5, .int r3), (4, .int r2), (3, .int r1), (0, .ref (ad 0)), (1, .ref b), (2, .int a2)]) hx hb dL_acts_118 hl (by decide) rfl (fun ls hl => ?_)
      refine lv_goto (tgt := 229) hx hb dL_acts_120 (by decide) ?_
      exact xt_vret hx hb hr hP hS (Option.some.inj hf) dL_acts_229 hlocks
  · have hf := (if_neg c7).symm.trans hf
    by_cases c10 : r6 = 1
    · have hf := (if_pos c10).symm.trans hf
      refine lv_tableIn (tgt := 123) (off := 68) hx hb dL_acts_55 (by rw [c10]; decide) (by rw [c10]; decide) (by rw [c10]; rfl) (by decide) ?_
      refine lv_aload_n hx hb dL_acts_123 rfl (lv_at hl 5 rfl) ?_
      refine lv_iload hx hb dL_acts_124 (lv_at hl 2 rfl) ?_
      obtain ⟨r11, qr11, hf⟩ := bd_some hf
      refine xt_callVi (As := [.int r3]) (rest := []) (C := RX6) (ci := 6) ⟨hx, hb, hml, hown, hts⟩ 0 (mX6_close l dC dI ad cy hJ σ r3 r11 qr11) (cwV 1 hts gL_acts_X6_close rfl rfl rfl dmX6_close ⟨Nat.le_of_ble_eq_true rfl, Nat.le_of_ble_eq_true rfl⟩) hK hP hS (by decide) (LX6_obj ad cy _) rfl rfl rfl hl.1 (Nat.le_of_ble_eq_true rfl) ⟨Nat.zero_le _, Nat.zero_le _⟩ dL_acts_126 (fun H locs hP hS => ?_)
      refine lv_istore (lv' := [(8, .int r11.1), (7, .int r5), (6, .int r4), (5, .int r3), (4, .int r2), (3, .int r1), (0, .ref (ad 0)), (1, .ref b), (2, .int a2)]) hx hb dL_acts_129 hl (by decide) rfl (fun ls hl => ?_)
      refine lv_goto (tgt := 229) hx hb dL_acts_131 (by decide) ?_
      exact xt_vret hx hb hr hP hS (Option.some.inj hf) dL_acts_229 hlocks
    · have hf := (if_neg c10).symm.trans hf
      by_cases c12 : r6 = 2
      · have hf := (if_pos c12).symm.trans hf
        refine lv_tableIn (tgt := 123) (off := 68) hx hb dL_acts_55 (by rw [c12]; decide) (by rw [c12]; decide) (by rw [c12]; rfl) (by decide) ?_
        refine lv_aload_n hx hb dL_acts_123 rfl (lv_at hl 5 rfl) ?_
        refine lv_iload hx hb dL_acts_124 (lv_at hl 2 rfl) ?_
        obtain ⟨r13, qr13, hf⟩ := bd_some hf
        refine xt_callVi (As := [.int r3]) (rest := []) (C := RX6) (ci := 6) ⟨hx, hb, hml, hown, hts⟩ 0 (mX6_close l dC dI ad cy hJ σ r3 r13 qr13) (cwV 1 hts gL_acts_X6_close rfl rfl rfl dmX6_close ⟨Nat.le_of_ble_eq_true rfl, Nat.le_of_ble_eq_true rfl⟩) hK hP hS (by decide) (LX6_obj ad cy _) rfl rfl rfl hl.1 (Nat.le_of_ble_eq_true rfl) ⟨Nat.zero_le _, Nat.zero_le _⟩ dL_acts_126 (fun H locs hP hS => ?_)
        refine lv_istore (lv' := [(8, .int r13.1), (7, .int r5), (6, .int r4), (5, .int r3), (4, .int r2), (3, .int r1), (0, .ref (ad 0)), (1, .ref b), (2, .int a2)]) hx hb dL_acts_129 hl (by decide) rfl (fun ls hl => ?_)
        refine lv_goto (tgt := 229) hx hb dL_acts_131 (by decide) ?_
        exact xt_vret hx hb hr hP hS (Option.some.inj hf) dL_acts_229 hlocks
      · have hf := (if_neg c12).symm.trans hf
        by_cases c14 : r6 = 3
        · have hf := (if_pos c14).symm.trans hf
          refine lv_tableIn (tgt := 134) (off := 79) hx hb dL_acts_55 (by rw [c14]; decide) (by rw [c14]; decide) (by rw [c14]; rfl) (by decide) ?_
          refine lv_aload_n hx hb dL_acts_134 rfl (lv_at hl 5 rfl) ?_
          refine lv_iload hx hb dL_acts_135 (lv_at hl 2 rfl) ?_
          obtain ⟨r15, qr15, hf⟩ := bd_some hf
          refine xt_callVi (As := [.int r3]) (rest := []) (C := RX6) (ci := 6) ⟨hx, hb, hml, hown, hts⟩ 0 (mX6_open l dC dI ad cy hJ σ r3 r15 qr15) (cwV 1 hts gL_acts_X6_open rfl rfl rfl dmX6_open ⟨Nat.le_of_ble_eq_true rfl, Nat.le_of_ble_eq_true rfl⟩) hK hP hS (by decide) (LX6_obj ad cy _) rfl rfl rfl hl.1 (Nat.le_of_ble_eq_true rfl) ⟨Nat.zero_le _, Nat.zero_le _⟩ dL_acts_137 (fun H locs hP hS => ?_)
          refine lv_istore (lv' := [(8, .int r15.1), (7, .int r5), (6, .int r4), (5, .int r3), (4, .int r2), (3, .int r1), (0, .ref (ad 0)), (1, .ref b), (2, .int a2)]) hx hb dL_acts_140 hl (by decide) rfl (fun ls hl => ?_)
          refine lv_goto (tgt := 229) hx hb dL_acts_142 (by decide) ?_
          exact xt_vret hx hb hr hP hS (Option.some.inj hf) dL_acts_229 hlocks
        · have hf := (if_neg c14).symm.trans hf
          by_cases c16 : r6 = 4
          · have hf := (if_pos c16).symm.trans hf
            refine lv_tableIn (tgt := 145) (off := 90) hx hb dL_acts_55 (by rw [c16]; decide) (by rw [c16]; decide) (by rw [c16]; rfl) (by decide) ?_
            refine lv_aload_n hx hb dL_acts_145 rfl (lv_at hl 5 rfl) ?_
            refine lv_iload hx hb dL_acts_146 (lv_at hl 2 rfl) ?_
            refine lv_iconst (v := 1) hx hb dL_acts_148 (by decide) ?_
            refine lv_iload hx hb dL_acts_149 (lv_at hl 0 rfl) ?_
            refine lv_iadd hx hb dL_acts_151 ?_
            obtain ⟨r17, qr17, hf⟩ := bd_some hf
            refine xt_callVi (As := [.int r3, .int (1 + r5)]) (rest := []) (C := RX6) (ci := 6) ⟨hx, hb, hml, hown, hts⟩ 0 (mX6_weigh l dC dI ad cy hJ σ r3 (1 + r5) r17 qr17) (cwV 2 hts gL_acts_X6_weigh rfl rfl rfl dmX6_weigh ⟨Nat.le_of_ble_eq_true rfl, Nat.le_of_ble_eq_true rfl⟩) hK hP hS (by decide) (LX6_obj ad cy _) rfl rfl rfl hl.1 (Nat.le_of_ble_eq_true rfl) ⟨Nat.zero_le _, Nat.zero_le _⟩ dL_acts_152 (fun H locs hP hS => ?_)
            refine lv_istore (lv' := [(8, .int r17.1), (7, .int r5), (6, .int r4), (5, .int r3), (4, .int r2), (3, .int r1), (0, .ref (ad 0)), (1, .ref b), (2, .int a2)]) hx hb dL_acts_155 hl (by decide) rfl (fun ls hl => ?_)
            refine lv_goto (tgt := 229) hx hb dL_acts_157 (by decide) ?_
            exact xt_vret hx hb hr hP hS (Option.some.inj hf) dL_acts_229 hlocks
          · have hf := (if_neg c16).symm.trans hf
            by_cases c18 : r6 = 5
            · have hf := (if_pos c18).symm.trans hf
              refine lv_tableIn (tgt := 160) (off := 105) hx hb dL_acts_55 (by rw [c18]; decide) (by rw [c18]; decide) (by rw [c18]; rfl) (by decide) ?_
              refine lv_aload_n hx hb dL_acts_160 rfl (lv_at hl 5 rfl) ?_
              refine lv_aload_n hx hb dL_acts_161 rfl (lv_at hl 6 rfl) ?_
              refine lv_iload_n hx hb dL_acts_162 rfl (lv_at hl 7 rfl) ?_
              refine lv_iconst (v := 2) hx hb dL_acts_163 (by decide) ?_
              refine lv_iadd hx hb dL_acts_164 ?_
              refine lv_sipush (v := 9999) hx hb dL_acts_165 (by decide) ?_
              obtain ⟨r19, qr19, hf⟩ := bd_some hf
              refine xx_callP (As := [.ref b, .int (a2 + 2), .int 9999]) (rest := [.ref (ad 0)]) ⟨hx, hb, hml, hown, hts⟩ hX hbl hbA (mL_some l b bL xs (a2 + 2) 9999 r19 qr19) (va_cwS 3 hts gL_acts_L_some rfl rfl rfl dmL_some ⟨Nat.le_of_ble_eq_true rfl, Nat.le_of_ble_eq_true rfl⟩) hP hS rfl rfl hl.1 (Nat.le_of_ble_eq_true rfl) ⟨Nat.zero_le _, Nat.zero_le _⟩ dL_acts_168 (fun H locs hP hS => ?_)
              refine lv_bipush (v := 9) hx hb dL_acts_171 (by decide) ?_
              refine lv_iload hx hb dL_acts_173 (lv_at hl 0 rfl) ?_
              refine lv_imul hx hb dL_acts_175 ?_
              refine lv_iconst (v := 5) hx hb dL_acts_176 (by decide) ?_
              refine lv_iadd hx hb dL_acts_177 ?_
              obtain ⟨r20, qr20, hf⟩ := bd_some hf
              refine xt_callVi (As := [.int r19, .int ((9 * r5) + 5)]) (rest := []) (C := RX6) (ci := 6) ⟨hx, hb, hml, hown, hts⟩ 0 (mX6_barge l dC dI ad cy hJ σ r19 ((9 * r5) + 5) r20 qr20) (cwV 2 hts gL_acts_X6_barge rfl rfl rfl dmX6_barge ⟨Nat.le_of_ble_eq_true rfl, Nat.le_of_ble_eq_true rfl⟩) hK hP hS (by decide) (LX6_obj ad cy _) rfl rfl rfl hl.1 (Nat.le_of_ble_eq_true rfl) ⟨Nat.zero_le _, Nat.zero_le _⟩ dL_acts_178 (fun H locs hP hS => ?_)
              refine lv_istore (lv' := [(8, .int r20.1), (7, .int r5), (6, .int r4), (5, .int r3), (4, .int r2), (3, .int r1), (0, .ref (ad 0)), (1, .ref b), (2, .int a2)]) hx hb dL_acts_181 hl (by decide) rfl (fun ls hl => ?_)
              refine lv_goto (tgt := 229) hx hb dL_acts_183 (by decide) ?_
              exact xt_vret hx hb hr hP hS (Option.some.inj hf) dL_acts_229 hlocks
            · have hf := (if_neg c18).symm.trans hf
              by_cases c21 : r6 = 6
              · have hf := (if_pos c21).symm.trans hf
                refine lv_tableIn (tgt := 186) (off := 131) hx hb dL_acts_55 (by rw [c21]; decide) (by rw [c21]; decide) (by rw [c21]; rfl) (by decide) ?_
                refine lv_aload_n hx hb dL_acts_186 rfl (lv_at hl 5 rfl) ?_
                refine lv_iload hx hb dL_acts_187 (lv_at hl 1 rfl) ?_
                obtain ⟨r22, qr22, hf⟩ := bd_some hf
                refine xt_callVi (As := [.int r4]) (rest := []) (C := RX6) (ci := 6) ⟨hx, hb, hml, hown, hts⟩ 0 (mX6_leave l dC dI ad cy hJ σ r4 r22 qr22) (cwV 1 hts gL_acts_X6_leave rfl rfl rfl dmX6_leave ⟨Nat.le_of_ble_eq_true rfl, Nat.le_of_ble_eq_true rfl⟩) hK hP hS (by decide) (LX6_obj ad cy _) rfl rfl rfl hl.1 (Nat.le_of_ble_eq_true rfl) ⟨Nat.zero_le _, Nat.zero_le _⟩ dL_acts_189 (fun H locs hP hS => ?_)
                refine lv_istore (lv' := [(8, .int r22.1), (7, .int r5), (6, .int r4), (5, .int r3), (4, .int r2), (3, .int r1), (0, .ref (ad 0)), (1, .ref b), (2, .int a2)]) hx hb dL_acts_192 hl (by decide) rfl (fun ls hl => ?_)
                refine lv_goto (tgt := 229) hx hb dL_acts_194 (by decide) ?_
                exact xt_vret hx hb hr hP hS (Option.some.inj hf) dL_acts_229 hlocks
              · have hf := (if_neg c21).symm.trans hf
                by_cases c23 : r6 = 7
                · have hf := (if_pos c23).symm.trans hf
                  refine lv_tableIn (tgt := 197) (off := 142) hx hb dL_acts_55 (by rw [c23]; decide) (by rw [c23]; decide) (by rw [c23]; rfl) (by decide) ?_
                  refine lv_aload_n hx hb dL_acts_197 rfl (lv_at hl 5 rfl) ?_
                  refine lv_iload hx hb dL_acts_198 (lv_at hl 1 rfl) ?_
                  refine lv_bipush (v := 11) hx hb dL_acts_200 (by decide) ?_
                  refine lv_iload hx hb dL_acts_202 (lv_at hl 0 rfl) ?_
                  refine lv_imul hx hb dL_acts_204 ?_
                  refine lv_iconst (v := 1) hx hb dL_acts_205 (by decide) ?_
                  refine lv_iadd hx hb dL_acts_206 ?_
                  obtain ⟨r24, qr24, hf⟩ := bd_some hf
                  refine xt_callVi (As := [.int r4, .int ((11 * r5) + 1)]) (rest := []) (C := RX6) (ci := 6) ⟨hx, hb, hml, hown, hts⟩ 0 (mX6_load l dC dI ad cy hJ σ r4 ((11 * r5) + 1) r24 qr24) (cwV 2 hts gL_acts_X6_load rfl rfl rfl dmX6_load ⟨Nat.le_of_ble_eq_true rfl, Nat.le_of_ble_eq_true rfl⟩) hK hP hS (by decide) (LX6_obj ad cy _) rfl rfl rfl hl.1 (Nat.le_of_ble_eq_true rfl) ⟨Nat.zero_le _, Nat.zero_le _⟩ dL_acts_207 (fun H locs hP hS => ?_)
                  refine lv_istore (lv' := [(8, .int r24.1), (7, .int r5), (6, .int r4), (5, .int r3), (4, .int r2), (3, .int r1), (0, .ref (ad 0)), (1, .ref b), (2, .int a2)]) hx hb dL_acts_210 hl (by decide) rfl (fun ls hl => ?_)
                  refine lv_goto (tgt := 229) hx hb dL_acts_212 (by decide) ?_
                  exact xt_vret hx hb hr hP hS (Option.some.inj hf) dL_acts_229 hlocks
                · have hf := (if_neg c23).symm.trans hf
                  refine lv_tableOut (tgt := 215) hx hb dL_acts_55 (by have ic7 : ¬ Int32.toInt r6 = 0 := lv_neT c7 (by decide); have ic10 : ¬ Int32.toInt r6 = 1 := lv_neT c10 (by decide); have ic12 : ¬ Int32.toInt r6 = 2 := lv_neT c12 (by decide); have ic14 : ¬ Int32.toInt r6 = 3 := lv_neT c14 (by decide); have ic16 : ¬ Int32.toInt r6 = 4 := lv_neT c16 (by decide); have ic18 : ¬ Int32.toInt r6 = 5 := lv_neT c18 (by decide); have ic21 : ¬ Int32.toInt r6 = 6 := lv_neT c21 (by decide); have ic23 : ¬ Int32.toInt r6 = 7 := lv_neT c23 (by decide); omega) (by decide) ?_
                  refine lv_aload_n hx hb dL_acts_215 rfl (lv_at hl 5 rfl) ?_
                  refine lv_bipush (v := 20) hx hb dL_acts_216 (by decide) ?_
                  refine lv_bipush (v := 20) hx hb dL_acts_218 (by decide) ?_
                  refine lv_iload hx hb dL_acts_220 (lv_at hl 0 rfl) ?_
                  refine lv_imul hx hb dL_acts_222 ?_
                  refine lv_iadd hx hb dL_acts_223 ?_
                  obtain ⟨r25, qr25, hf⟩ := bd_some hf
                  refine xt_callVi (As := [.int (20 + (20 * r5))]) (rest := []) (C := RX6) (ci := 6) ⟨hx, hb, hml, hown, hts⟩ 0 (mX6_berth l dC dI ad cy hJ σ (20 + (20 * r5)) r25 qr25) (cwV 1 hts gL_acts_X6_berth rfl rfl rfl dmX6_berth ⟨Nat.le_of_ble_eq_true rfl, Nat.le_of_ble_eq_true rfl⟩) hK hP hS (by decide) (LX6_obj ad cy _) rfl rfl rfl hl.1 (Nat.le_of_ble_eq_true rfl) ⟨Nat.zero_le _, Nat.zero_le _⟩ dL_acts_224 (fun H locs hP hS => ?_)
                  refine lv_istore (lv' := [(8, .int r25.1), (7, .int r5), (6, .int r4), (5, .int r3), (4, .int r2), (3, .int r1), (0, .ref (ad 0)), (1, .ref b), (2, .int a2)]) hx hb dL_acts_227 hl (by decide) rfl (fun ls hl => ?_)
                  exact xt_vret hx hb hr hP hS (Option.some.inj hf) dL_acts_229 hlocks
def fL_build_B136 (bL : Nat) (xs : Nat → Int32) (σ : St) : Option St :=
  some σ
def fL_build_L114 (bL : Nat) (xs : Nat → Int32) (K114_136 : St → Option St) : Nat → St → Int32 → Option St
  | 0, _, _ => none
  | n114 + 1, σ, x3 => if (4 : Int32) ≤ x3 then (K114_136 σ) else (bd (fL_acts bL xs σ (38 + (4 * x3))) fun r2 => nm (x3 + 1) fun v3 => (fL_build_L114 bL xs K114_136 n114) r2 v3)
def fL_build_B112 (bL : Nat) (xs : Nat → Int32) (σ : St) : Option St :=
  fL_build_L114 bL xs (fun σ => fL_build_B136 bL xs σ) 1000 σ 0
def fL_build_B86 (bL : Nat) (xs : Nat → Int32) (σ : St) : Option St :=
  bd (fL_some bL xs 36 3) fun r4 => if r4 = 0 then (bd (fL_some bL xs 37 100) fun r6 => bd (fX6_berth σ (10 + r6)) fun r7 => fL_build_B112 bL xs r7.2) else (fL_build_B112 bL xs σ)
def fL_build_L37 (bL : Nat) (xs : Nat → Int32) (K37_86 : St → Option St) : Nat → St → Int32 → Option St
  | 0, _, _ => none
  | n37 + 1, σ, x3 => bd (fL_some bL xs 7 8) fun r8 => if (6 + r8) ≤ x3 then (K37_86 σ) else (bd (fL_some bL xs (8 + x3) 400) fun r10 => bd (fL_some bL xs (22 + x3) 60) fun r11 => bd (fX6_barge σ r10 (1 + r11)) fun r12 => nm (x3 + 1) fun v13 => (fL_build_L37 bL xs K37_86 n37) r12.2 v13)
def fL_build_B35 (bL : Nat) (xs : Nat → Int32) (σ : St) : Option St :=
  fL_build_L37 bL xs (fun σ => fL_build_B86 bL xs σ) 1000 σ 0
def fL_build_L2 (bL : Nat) (xs : Nat → Int32) (K2_35 : St → Option St) : Nat → St → Int32 → Option St
  | 0, _, _ => none
  | n2 + 1, σ, x3 => bd (fL_some bL xs 0 4) fun r14 => if (2 + r14) ≤ x3 then (K2_35 σ) else (bd (fL_some bL xs (1 + x3) 3) fun r16 => bd (fX6_pier σ (1 + r16)) fun r17 => nm (x3 + 1) fun v18 => (fL_build_L2 bL xs K2_35 n2) r17.2 v18)
def fL_build (bL : Nat) (xs : Nat → Int32) (σ : St) : Option St :=
  fL_build_L2 bL xs (fun σ => fL_build_B35 bL xs σ) 1000 σ 0
abbrev rmL_build : Room := { frames := 7, cells := 0, slots := 0, locals := 205 }
theorem dmL_build : yL_build.cls ≠ "java/lang/invoke/MethodHandle" ∧ yL_build.cls ≠ "java/lang/invoke/VarHandle" ∧ (parseMethodDescriptor yL_build.desc).map (fun d => d.parameters.length) = some 2 := by decide +kernel
set_option maxHeartbeats 8000000 in
set_option maxRecDepth 100000 in
theorem mL_build (l : Launch) (dC : Nat → ClassId) (dI : Nat → Nat → Nat) (ad : Nat → Nat) (cy : Nat → ClassId) (hJ : WJ 93 ad) (b bL : Nat) (xs : Nat → Int32) (σ : St) (res : St) (hf : fL_build bL xs σ = some res) : CMvX l yL_build wsL_build rmL_build (dC, dI) (tysX cy) 93 ad (layX ad cy) b bL xs [.ref (ad 0), .ref b] σ res := by
  refine Met.ofW (cc := cL_build) (maxL := 4) (ret := none) (by decide) rfl ?_
  intro p e s m args below meth c s₁ B hml hv
  obtain ⟨hargs, hP, hK, hX, hbl, hbA⟩ := hv
  have hx := B.exec
  have hb := B.bytes
  have hr := B.returns
  have hts := atoms_spec (ws := wsL_build) B.pre
  have hown : s.vm.findClass RL = some m.cls := findClass_of_methodNamed B.named
  have hlocks := B.notSynchronized
  have hS : va_S (WA 93 ad) s.heap s.heap [] := va_S.rf
  have hfr : entryFrame m args 4 = F0 m 0 ((lg_sl [.ref (ad 0), .ref b] ++ List.replicate (4 - (lg_sl [.ref (ad 0), .ref b]).length) Slot.unset).toArray) [] := by rw [hargs]; exact lg_entry_eq _ _ _
  rw [hfr]
  have hl := lv_entry ([.ref (ad 0), .ref b]) (n := 4) (Nat.le_of_ble_eq_true rfl)
  generalize (lg_sl [.ref (ad 0), .ref b] ++ List.replicate (4 - (lg_sl [.ref (ad 0), .ref b]).length) Slot.unset).toArray = ls at hl ⊢
  have hl : lv_has ls 4 [(0, .ref (ad 0)), (1, .ref b)] := hl
  clear hfr hargs B
  show W p l e rmL_build s m args below meth c s.heap [] 0 0 (MQ below (Qvw (dC, dI) 93 ad (layX ad cy) res) args s 0 0 (WA 93 ad)) (F0 m 0 ls [])
  have kB136 : ∀ (σ : St), fL_build_B136 bL xs σ = some res → ∀ (H : Heap) (locs : List Loc), va_P (dC, dI) vwCl (wd 93 ad (layX ad cy) σ) H → va_S (WA 93 ad) s.heap H locs → ∀ (ls : Array Slot), lv_has ls 4 [] → W p l e rmL_build s m args below meth c H locs 0 0 (MQ below (Qvw (dC, dI) 93 ad (layX ad cy) res) args s 0 0 (WA 93 ad)) (F0 m 136 ls []) := by
    intro σ hf H locs hP hS ls hl
    unfold fL_build_B136 at hf
    exact xt_vret hx hb hr hP hS (Option.some.inj hf) dL_build_136 hlocks
  have loop114 : ∀ (n114 : Nat) (σ : St) (x3 : Int32), fL_build_L114 bL xs (fun σ => fL_build_B136 bL xs σ) n114 σ x3 = some res → ∀ (H : Heap) (locs : List Loc), va_P (dC, dI) vwCl (wd 93 ad (layX ad cy) σ) H → va_S (WA 93 ad) s.heap H locs → ∀ (ls : Array Slot), lv_has ls 4 [(0, .ref (ad 0)), (1, .ref b), (3, .int x3)] → W p l e rmL_build s m args below meth c H locs 0 0 (MQ below (Qvw (dC, dI) 93 ad (layX ad cy) res) args s 0 0 (WA 93 ad)) (F0 m 114 ls []) := by
    intro n114
    induction n114 with
    | zero => intro σ x3 hf; simp [fL_build_L114] at hf
    | succ n114 ih114 =>
      intro σ x3 hf H locs hP hS ls hl
      rw [fL_build_L114] at hf
      refine lv_iload_n hx hb dL_build_114 rfl (lv_at hl 2 rfl) ?_
      refine lv_iconst (v := 4) hx hb dL_build_115 (by decide) ?_
      refine lv_icmp_ge (tgt := 136) hx hb dL_build_116 (by decide) (fun c1 => ?_) (fun c1 => ?_)
      · have hf := (if_pos c1).symm.trans hf
        exact kB136 σ hf H locs hP hS ls (lv_sub hl [] rfl)
      · have hf := (if_neg c1).symm.trans hf
        refine lv_aload_n hx hb dL_build_119 rfl (lv_at hl 0 rfl) ?_
        refine lv_aload_n hx hb dL_build_120 rfl (lv_at hl 1 rfl) ?_
        refine lv_bipush (v := 38) hx hb dL_build_121 (by decide) ?_
        refine lv_iconst (v := 4) hx hb dL_build_123 (by decide) ?_
        refine lv_iload_n hx hb dL_build_124 rfl (lv_at hl 2 rfl) ?_
        refine lv_imul hx hb dL_build_125 ?_
        refine lv_iadd hx hb dL_build_126 ?_
        obtain ⟨r2, qr2, hf⟩ := bd_some hf
        refine xt_callSvX (As := [.ref (ad 0), .ref b, .int (38 + (4 * x3))]) (rest := []) ⟨hx, hb, hml, hown, hts⟩ hX hbl hbA (mL_acts l dC dI ad cy hJ b bL xs σ (38 + (4 * x3)) r2 qr2) (va_cwS 3 hts gL_build_L_acts rfl rfl rfl dmL_acts ⟨Nat.le_of_ble_eq_true rfl, Nat.le_of_ble_eq_true rfl⟩) hK hP hS rfl rfl hl.1 (Nat.le_of_ble_eq_true rfl) ⟨Nat.zero_le _, Nat.zero_le _⟩ dL_build_127 (fun H locs hP hS => ?_)
        obtain ⟨v3, ev3⟩ : ∃ y : Int32, y = x3 + 1 := ⟨_, rfl⟩
        have hf := nm_to hf ev3
        refine lv_iinc (v := v3) (lv' := [(3, .int v3), (0, .ref (ad 0)), (1, .ref b)]) hx hb dL_build_130 hl (k := 2) rfl (by rw [ev3]; rfl) (by decide) rfl (fun ls hl => ?_)
        refine lv_goto (tgt := 114) hx hb dL_build_133 (by decide) ?_
        exact ih114 r2 v3 hf H locs hP hS ls (lv_sub hl [1, 2, 0] rfl)
  have kB112 : ∀ (σ : St), fL_build_B112 bL xs σ = some res → ∀ (H : Heap) (locs : List Loc), va_P (dC, dI) vwCl (wd 93 ad (layX ad cy) σ) H → va_S (WA 93 ad) s.heap H locs → ∀ (ls : Array Slot), lv_has ls 4 [(0, .ref (ad 0)), (1, .ref b)] → W p l e rmL_build s m args below meth c H locs 0 0 (MQ below (Qvw (dC, dI) 93 ad (layX ad cy) res) args s 0 0 (WA 93 ad)) (F0 m 112 ls []) := by
    intro σ hf H locs hP hS ls hl
    unfold fL_build_B112 at hf
    refine lv_iconst (v := 0) hx hb dL_build_112 (by decide) ?_
    refine lv_istore_n (lv' := [(3, .int 0), (0, .ref (ad 0)), (1, .ref b)]) hx hb dL_build_113 rfl hl (by decide) rfl (fun ls hl => ?_)
    exact loop114 1000 σ 0 hf H locs hP hS ls (lv_sub hl [1, 2, 0] rfl)
  have kB86 : ∀ (σ : St), fL_build_B86 bL xs σ = some res → ∀ (H : Heap) (locs : List Loc), va_P (dC, dI) vwCl (wd 93 ad (layX ad cy) σ) H → va_S (WA 93 ad) s.heap H locs → ∀ (ls : Array Slot), lv_has ls 4 [(0, .ref (ad 0)), (1, .ref b)] → W p l e rmL_build s m args below meth c H locs 0 0 (MQ below (Qvw (dC, dI) 93 ad (layX ad cy) res) args s 0 0 (WA 93 ad)) (F0 m 86 ls []) := by
    intro σ hf H locs hP hS ls hl
    unfold fL_build_B86 at hf
    refine lv_aload_n hx hb dL_build_86 rfl (lv_at hl 1 rfl) ?_
    refine lv_bipush (v := 36) hx hb dL_build_87 (by decide) ?_
    refine lv_iconst (v := 3) hx hb dL_build_89 (by decide) ?_
    obtain ⟨r4, qr4, hf⟩ := bd_some hf
    refine xx_callP (As := [.ref b, .int 36, .int 3]) (rest := []) ⟨hx, hb, hml, hown, hts⟩ hX hbl hbA (mL_some l b bL xs 36 3 r4 qr4) (va_cwS 3 hts gL_build_L_some rfl rfl rfl dmL_some ⟨Nat.le_of_ble_eq_true rfl, Nat.le_of_ble_eq_true rfl⟩) hP hS rfl rfl hl.1 (Nat.le_of_ble_eq_true rfl) ⟨Nat.zero_le _, Nat.zero_le _⟩ dL_build_90 (fun H locs hP hS => ?_)
    refine lv_if_ne (tgt := 112) hx hb dL_build_93 (by decide) (fun c5 => ?_) (fun c5 => ?_)
    · have hf := (if_neg c5).symm.trans hf
      exact kB112 σ hf H locs hP hS ls (lv_sub hl [0, 1] rfl)
    · have hf := (if_pos c5).symm.trans hf
      refine lv_aload_n hx hb dL_build_96 rfl (lv_at hl 0 rfl) ?_
      refine lv_bipush (v := 10) hx hb dL_build_97 (by decide) ?_
      refine lv_aload_n hx hb dL_build_99 rfl (lv_at hl 1 rfl) ?_
      refine lv_bipush (v := 37) hx hb dL_build_100 (by decide) ?_
      refine lv_bipush (v := 100) hx hb dL_build_102 (by decide) ?_
      obtain ⟨r6, qr6, hf⟩ := bd_some hf
      refine xx_callP (As := [.ref b, .int 37, .int 100]) (rest := [.int 10, .ref (ad 0)]) ⟨hx, hb, hml, hown, hts⟩ hX hbl hbA (mL_some l b bL xs 37 100 r6 qr6) (va_cwS 3 hts gL_build_L_some rfl rfl rfl dmL_some ⟨Nat.le_of_ble_eq_true rfl, Nat.le_of_ble_eq_true rfl⟩) hP hS rfl rfl hl.1 (Nat.le_of_ble_eq_true rfl) ⟨Nat.zero_le _, Nat.zero_le _⟩ dL_build_104 (fun H locs hP hS => ?_)
      refine lv_iadd hx hb dL_build_107 ?_
      obtain ⟨r7, qr7, hf⟩ := bd_some hf
      refine xt_callVi (As := [.int (10 + r6)]) (rest := []) (C := RX6) (ci := 6) ⟨hx, hb, hml, hown, hts⟩ 0 (mX6_berth l dC dI ad cy hJ σ (10 + r6) r7 qr7) (cwV 1 hts gL_build_X6_berth rfl rfl rfl dmX6_berth ⟨Nat.le_of_ble_eq_true rfl, Nat.le_of_ble_eq_true rfl⟩) hK hP hS (by decide) (LX6_obj ad cy _) rfl rfl rfl hl.1 (Nat.le_of_ble_eq_true rfl) ⟨Nat.zero_le _, Nat.zero_le _⟩ dL_build_108 (fun H locs hP hS => ?_)
      refine lv_istore_n (lv' := [(2, .int r7.1), (0, .ref (ad 0)), (1, .ref b)]) hx hb dL_build_111 rfl hl (by decide) rfl (fun ls hl => ?_)
      exact kB112 r7.2 hf H locs hP hS ls (lv_sub hl [1, 2] rfl)
  have loop37 : ∀ (n37 : Nat) (σ : St) (x3 : Int32), fL_build_L37 bL xs (fun σ => fL_build_B86 bL xs σ) n37 σ x3 = some res → ∀ (H : Heap) (locs : List Loc), va_P (dC, dI) vwCl (wd 93 ad (layX ad cy) σ) H → va_S (WA 93 ad) s.heap H locs → ∀ (ls : Array Slot), lv_has ls 4 [(0, .ref (ad 0)), (1, .ref b), (3, .int x3)] → W p l e rmL_build s m args below meth c H locs 0 0 (MQ below (Qvw (dC, dI) 93 ad (layX ad cy) res) args s 0 0 (WA 93 ad)) (F0 m 37 ls []) := by
    intro n37
    induction n37 with
    | zero => intro σ x3 hf; simp [fL_build_L37] at hf
    | succ n37 ih37 =>
      intro σ x3 hf H locs hP hS ls hl
      rw [fL_build_L37] at hf
      refine lv_iload_n hx hb dL_build_37 rfl (lv_at hl 2 rfl) ?_
      refine lv_bipush (v := 6) hx hb dL_build_38 (by decide) ?_
      refine lv_aload_n hx hb dL_build_40 rfl (lv_at hl 1 rfl) ?_
      refine lv_bipush (v := 7) hx hb dL_build_41 (by decide) ?_
      refine lv_bipush (v := 8) hx hb dL_build_43 (by decide) ?_
      obtain ⟨r8, qr8, hf⟩ := bd_some hf
      refine xx_callP (As := [.ref b, .int 7, .int 8]) (rest := [.int 6, .int x3]) ⟨hx, hb, hml, hown, hts⟩ hX hbl hbA (mL_some l b bL xs 7 8 r8 qr8) (va_cwS 3 hts gL_build_L_some rfl rfl rfl dmL_some ⟨Nat.le_of_ble_eq_true rfl, Nat.le_of_ble_eq_true rfl⟩) hP hS rfl rfl hl.1 (Nat.le_of_ble_eq_true rfl) ⟨Nat.zero_le _, Nat.zero_le _⟩ dL_build_45 (fun H locs hP hS => ?_)
      refine lv_iadd hx hb dL_build_48 ?_
      refine lv_icmp_ge (tgt := 86) hx hb dL_build_49 (by decide) (fun c9 => ?_) (fun c9 => ?_)
      · have hf := (if_pos c9).symm.trans hf
        exact kB86 σ hf H locs hP hS ls (lv_sub hl [0, 1] rfl)
      · have hf := (if_neg c9).symm.trans hf
        refine lv_aload_n hx hb dL_build_52 rfl (lv_at hl 0 rfl) ?_
        refine lv_aload_n hx hb dL_build_53 rfl (lv_at hl 1 rfl) ?_
        refine lv_bipush (v := 8) hx hb dL_build_54 (by decide) ?_
        refine lv_iload_n hx hb dL_build_56 rfl (lv_at hl 2 rfl) ?_
        refine lv_iadd hx hb dL_build_57 ?_
        refine lv_sipush (v := 400) hx hb dL_build_58 (by decide) ?_
        obtain ⟨r10, qr10, hf⟩ := bd_some hf
        refine xx_callP (As := [.ref b, .int (8 + x3), .int 400]) (rest := [.ref (ad 0)]) ⟨hx, hb, hml, hown, hts⟩ hX hbl hbA (mL_some l b bL xs (8 + x3) 400 r10 qr10) (va_cwS 3 hts gL_build_L_some rfl rfl rfl dmL_some ⟨Nat.le_of_ble_eq_true rfl, Nat.le_of_ble_eq_true rfl⟩) hP hS rfl rfl hl.1 (Nat.le_of_ble_eq_true rfl) ⟨Nat.zero_le _, Nat.zero_le _⟩ dL_build_61 (fun H locs hP hS => ?_)
        refine lv_iconst (v := 1) hx hb dL_build_64 (by decide) ?_
        refine lv_aload_n hx hb dL_build_65 rfl (lv_at hl 1 rfl) ?_
        refine lv_bipush (v := 22) hx hb dL_build_66 (by decide) ?_
        refine lv_iload_n hx hb dL_build_68 rfl (lv_at hl 2 rfl) ?_
        refine lv_iadd hx hb dL_build_69 ?_
        refine lv_bipush (v := 60) hx hb dL_build_70 (by decide) ?_
        obtain ⟨r11, qr11, hf⟩ := bd_some hf
        refine xx_callP (As := [.ref b, .int (22 + x3), .int 60]) (rest := [.int 1, .int r10, .ref (ad 0)]) ⟨hx, hb, hml, hown, hts⟩ hX hbl hbA (mL_some l b bL xs (22 + x3) 60 r11 qr11) (va_cwS 3 hts gL_build_L_some rfl rfl rfl dmL_some ⟨Nat.le_of_ble_eq_true rfl, Nat.le_of_ble_eq_true rfl⟩) hP hS rfl rfl hl.1 (Nat.le_of_ble_eq_true rfl) ⟨Nat.zero_le _, Nat.zero_le _⟩ dL_build_72 (fun H locs hP hS => ?_)
        refine lv_iadd hx hb dL_build_75 ?_
        obtain ⟨r12, qr12, hf⟩ := bd_some hf
        refine xt_callVi (As := [.int r10, .int (1 + r11)]) (rest := []) (C := RX6) (ci := 6) ⟨hx, hb, hml, hown, hts⟩ 0 (mX6_barge l dC dI ad cy hJ σ r10 (1 + r11) r12 qr12) (cwV 2 hts gL_build_X6_barge rfl rfl rfl dmX6_barge ⟨Nat.le_of_ble_eq_true rfl, Nat.le_of_ble_eq_true rfl⟩) hK hP hS (by decide) (LX6_obj ad cy _) rfl rfl rfl hl.1 (Nat.le_of_ble_eq_true rfl) ⟨Nat.zero_le _, Nat.zero_le _⟩ dL_build_76 (fun H locs hP hS => ?_)
        refine lv_istore_n (lv' := [(2, .int r12.1), (0, .ref (ad 0)), (1, .ref b), (3, .int x3)]) hx hb dL_build_79 rfl hl (by decide) rfl (fun ls hl => ?_)
        obtain ⟨v13, ev13⟩ : ∃ y : Int32, y = x3 + 1 := ⟨_, rfl⟩
        have hf := nm_to hf ev13
        refine lv_iinc (v := v13) (lv' := [(3, .int v13), (2, .int r12.1), (0, .ref (ad 0)), (1, .ref b)]) hx hb dL_build_80 hl (k := 3) rfl (by rw [ev13]; rfl) (by decide) rfl (fun ls hl => ?_)
        refine lv_goto (tgt := 37) hx hb dL_build_83 (by decide) ?_
        exact ih37 r12.2 v13 hf H locs hP hS ls (lv_sub hl [2, 3, 0] rfl)
  have kB35 : ∀ (σ : St), fL_build_B35 bL xs σ = some res → ∀ (H : Heap) (locs : List Loc), va_P (dC, dI) vwCl (wd 93 ad (layX ad cy) σ) H → va_S (WA 93 ad) s.heap H locs → ∀ (ls : Array Slot), lv_has ls 4 [(0, .ref (ad 0)), (1, .ref b)] → W p l e rmL_build s m args below meth c H locs 0 0 (MQ below (Qvw (dC, dI) 93 ad (layX ad cy) res) args s 0 0 (WA 93 ad)) (F0 m 35 ls []) := by
    intro σ hf H locs hP hS ls hl
    unfold fL_build_B35 at hf
    refine lv_iconst (v := 0) hx hb dL_build_35 (by decide) ?_
    refine lv_istore_n (lv' := [(3, .int 0), (0, .ref (ad 0)), (1, .ref b)]) hx hb dL_build_36 rfl hl (by decide) rfl (fun ls hl => ?_)
    exact loop37 1000 σ 0 hf H locs hP hS ls (lv_sub hl [1, 2, 0] rfl)
  have loop2 : ∀ (n2 : Nat) (σ : St) (x3 : Int32), fL_build_L2 bL xs (fun σ => fL_build_B35 bL xs σ) n2 σ x3 = some res → ∀ (H : Heap) (locs : List Loc), va_P (dC, dI) vwCl (wd 93 ad (layX ad cy) σ) H → va_S (WA 93 ad) s.heap H locs → ∀ (ls : Array Slot), lv_has ls 4 [(0, .ref (ad 0)), (1, .ref b), (3, .int x3)] → W p l e rmL_build s m args below meth c H locs 0 0 (MQ below (Qvw (dC, dI) 93 ad (layX ad cy) res) args s 0 0 (WA 93 ad)) (F0 m 2 ls []) := by
    intro n2
    induction n2 with
    | zero => intro σ x3 hf; simp [fL_build_L2] at hf
    | succ n2 ih2 =>
      intro σ x3 hf H locs hP hS ls hl
      rw [fL_build_L2] at hf
      refine lv_iload_n hx hb dL_build_2 rfl (lv_at hl 2 rfl) ?_
      refine lv_iconst (v := 2) hx hb dL_build_3 (by decide) ?_
      refine lv_aload_n hx hb dL_build_4 rfl (lv_at hl 1 rfl) ?_
      refine lv_iconst (v := 0) hx hb dL_build_5 (by decide) ?_
      refine lv_iconst (v := 4) hx hb dL_build_6 (by decide) ?_
      obtain ⟨r14, qr14, hf⟩ := bd_some hf
      refine xx_callP (As := [.ref b, .int 0, .int 4]) (rest := [.int 2, .int x3]) ⟨hx, hb, hml, hown, hts⟩ hX hbl hbA (mL_some l b bL xs 0 4 r14 qr14) (va_cwS 3 hts gL_build_L_some rfl rfl rfl dmL_some ⟨Nat.le_of_ble_eq_true rfl, Nat.le_of_ble_eq_true rfl⟩) hP hS rfl rfl hl.1 (Nat.le_of_ble_eq_true rfl) ⟨Nat.zero_le _, Nat.zero_le _⟩ dL_build_7 (fun H locs hP hS => ?_)
      refine lv_iadd hx hb dL_build_10 ?_
      refine lv_icmp_ge (tgt := 35) hx hb dL_build_11 (by decide) (fun c15 => ?_) (fun c15 => ?_)
      · have hf := (if_pos c15).symm.trans hf
        exact kB35 σ hf H locs hP hS ls (lv_sub hl [0, 1] rfl)
      · have hf := (if_neg c15).symm.trans hf
        refine lv_aload_n hx hb dL_build_14 rfl (lv_at hl 0 rfl) ?_
        refine lv_iconst (v := 1) hx hb dL_build_15 (by decide) ?_
        refine lv_aload_n hx hb dL_build_16 rfl (lv_at hl 1 rfl) ?_
        refine lv_iconst (v := 1) hx hb dL_build_17 (by decide) ?_
        refine lv_iload_n hx hb dL_build_18 rfl (lv_at hl 2 rfl) ?_
        refine lv_iadd hx hb dL_build_19 ?_
        refine lv_iconst (v := 3) hx hb dL_build_20 (by decide) ?_
        obtain ⟨r16, qr16, hf⟩ := bd_some hf
        refine xx_callP (As := [.ref b, .int (1 + x3), .int 3]) (rest := [.int 1, .ref (ad 0)]) ⟨hx, hb, hml, hown, hts⟩ hX hbl hbA (mL_some l b bL xs (1 + x3) 3 r16 qr16) (va_cwS 3 hts gL_build_L_some rfl rfl rfl dmL_some ⟨Nat.le_of_ble_eq_true rfl, Nat.le_of_ble_eq_true rfl⟩) hP hS rfl rfl hl.1 (Nat.le_of_ble_eq_true rfl) ⟨Nat.zero_le _, Nat.zero_le _⟩ dL_build_21 (fun H locs hP hS => ?_)
        refine lv_iadd hx hb dL_build_24 ?_
        obtain ⟨r17, qr17, hf⟩ := bd_some hf
        refine xt_callVi (As := [.int (1 + r16)]) (rest := []) (C := RX6) (ci := 6) ⟨hx, hb, hml, hown, hts⟩ 0 (mX6_pier l dC dI ad cy hJ σ (1 + r16) r17 qr17) (cwV 1 hts gL_build_X6_pier rfl rfl rfl dmX6_pier ⟨Nat.le_of_ble_eq_true rfl, Nat.le_of_ble_eq_true rfl⟩) hK hP hS (by decide) (LX6_obj ad cy _) rfl rfl rfl hl.1 (Nat.le_of_ble_eq_true rfl) ⟨Nat.zero_le _, Nat.zero_le _⟩ dL_build_25 (fun H locs hP hS => ?_)
        refine lv_istore_n (lv' := [(2, .int r17.1), (0, .ref (ad 0)), (1, .ref b), (3, .int x3)]) hx hb dL_build_28 rfl hl (by decide) rfl (fun ls hl => ?_)
        obtain ⟨v18, ev18⟩ : ∃ y : Int32, y = x3 + 1 := ⟨_, rfl⟩
        have hf := nm_to hf ev18
        refine lv_iinc (v := v18) (lv' := [(3, .int v18), (2, .int r17.1), (0, .ref (ad 0)), (1, .ref b)]) hx hb dL_build_29 hl (k := 3) rfl (by rw [ev18]; rfl) (by decide) rfl (fun ls hl => ?_)
        refine lv_goto (tgt := 2) hx hb dL_build_32 (by decide) ?_
        exact ih2 r17.2 v18 hf H locs hP hS ls (lv_sub hl [2, 3, 0] rfl)
  unfold fL_build at hf
  obtain ⟨H, eH⟩ : ∃ H : Heap, H = s.heap := ⟨_, rfl⟩
  rw [← eH] at hP
  have hS : va_S (WA 93 ad) s.heap H [] := by rw [eH]; exact hS
  suffices K : W p l e rmL_build s m args below meth c H [] 0 0 (MQ below (Qvw (dC, dI) 93 ad (layX ad cy) res) args s 0 0 (WA 93 ad)) (F0 m 0 ls []) by rw [eH] at K; exact K
  clear eH
  obtain ⟨locs, elocs⟩ : ∃ z : List Loc, z = [] := ⟨_, rfl⟩
  rw [← elocs] at hS ⊢
  refine lv_iconst (v := 0) hx hb dL_build_0 (by decide) ?_
  refine lv_istore_n (lv' := [(3, .int 0), (0, .ref (ad 0)), (1, .ref b)]) hx hb dL_build_1 rfl hl (by decide) rfl (fun ls hl => ?_)
  exact loop2 1000 σ 0 hf H locs hP hS ls (lv_sub hl [1, 2, 0] rfl)
