theorem rs_1 {a : Int32} {b : St} {res : Int32 × St} (h : some (a, b) = some res) : a = res.1 := by rw [← Option.some.inj h]
theorem rs_2 {a : Int32} {b : St} {res : Int32 × St} (h : some (a, b) = some res) : b = res.2 := by rw [← Option.some.inj h]
/-! JDK: Arrays.fill over ints. -/
theorem fl_0 (v : Int32) (row : Nat → Int32) : fl 0 v row = row := by
  funext j
  simp [fl]
theorem fl_succ (i : Nat) (v : Int32) (row : Nat → Int32) : upd (fl i v row) i v = fl (i + 1) v row := by
  funext j
  unfold upd fl
  by_cases h : j = i
  · subst h
    simp
  · by_cases h2 : j < i
    · simp [h, h2, Nat.lt_succ_of_lt h2]
    · have h3 : ¬ j < i + 1 := by omega
      simp [h, h2, h3]
theorem sr_sr (σ : St) (k : Nat) (r r' : Nat → Int32) : sr (sr σ k r) k r' = sr σ k r' := by
  funext a
  unfold sr
  by_cases h : a = k <;> simp [h]
theorem sr_id (σ : St) (k : Nat) : sr σ k (σ k) = σ := by
  funext a
  unfold sr
  by_cases h : a = k <;> simp [h]
theorem okI_nI {i n : Nat} (h : i < n) (hn : n < 2 ^ 31) : okI (nI i) n = true := by
  have h1 : ¬ nI i < 0 := nI_pos (by omega)
  have h2 : (nI i).toNatClampNeg = i := nI_clamp (by omega)
  unfold okI
  rw [h2]
  simp [h1, h]
abbrev rmJ7_fill_53178 : Room := { frames := 0, cells := 0, slots := 0, locals := 0 }
theorem dmJ7_fill_53178 : yJ7_fill_53178.cls ≠ "java/lang/invoke/MethodHandle" ∧ yJ7_fill_53178.cls ≠ "java/lang/invoke/VarHandle" ∧ (parseMethodDescriptor yJ7_fill_53178.desc).map (fun d => d.parameters.length) = some 2 := by decide +kernel
set_option maxHeartbeats 8000000 in
set_option maxRecDepth 100000 in
theorem mJ7_fill_53178 (l : Launch) (dC : Nat → ClassId) (dI : Nat → Nat → Nat) (N : Nat) (ad : Nat → Nat) (L : Nat → (Nat → Int32) → va_E) (cy : Nat → ClassId) (hJ : WJ N ad) (k : Nat) (hk : k < N) (n : Nat) (ha : ∀ row, L k row = .inl (cy 0, n, .inl row)) (hn : n < 2 ^ 31) (σ : St) (v : Int32) : CMv l yJ7_fill_53178 wsJ7_fill_53178 rmJ7_fill_53178 (dC, dI) (tysX cy) N ad L [.ref (ad k), .int v] σ (sr σ k (fl n v (σ k))) := by
  refine Met.ofW (cc := cJ7_fill_53178) (maxL := 4) (ret := none) (by decide) rfl ?_
  intro p e s m args below meth c s₁ B hml hv
  obtain ⟨hargs, hP, hK⟩ := hv
  have hx := B.exec
  have hb := B.bytes
  have hr := B.returns
  have hts := atoms_spec (ws := wsJ7_fill_53178) B.pre
  have hlocks := B.notSynchronized
  have hS : va_S (WA N ad) s.heap s.heap [] := va_S.rf
  have hfr : entryFrame m args 4 = F0 m 0 ((lg_sl [.ref (ad k), .int v] ++ List.replicate (4 - (lg_sl [.ref (ad k), .int v]).length) Slot.unset).toArray) [] := by rw [hargs]; exact lg_entry_eq _ _ _
  rw [hfr]
  have hl := lv_entry ([.ref (ad k), .int v]) (n := 4) (Nat.le_of_ble_eq_true rfl)
  generalize (lg_sl [.ref (ad k), .int v] ++ List.replicate (4 - (lg_sl [.ref (ad k), .int v]).length) Slot.unset).toArray = ls at hl ⊢
  have hl : lv_has ls 4 [(0, .ref (ad k)), (1, .int v)] := hl
  clear hfr hargs B
  show W p l e rmJ7_fill_53178 s m args below meth c s.heap [] 0 0 (MQ below (Qvw (dC, dI) N ad L (sr σ k (fl n v (σ k)))) args s 0 0 (WA N ad)) (F0 m 0 ls [])
  have key : ∀ (d i : Nat), i + d = n → ∀ (H : Heap) (locs : List Loc), va_P (dC, dI) vwCl (wd N ad L (sr σ k (fl i v (σ k)))) H → va_S (WA N ad) s.heap H locs → ∀ (ls : Array Slot), lv_has ls 4 [(2, .int (nI i)), (3, .int (nI n)), (0, .ref (ad k)), (1, .int v)] → W p l e rmJ7_fill_53178 s m args below meth c H locs 0 0 (MQ below (Qvw (dC, dI) N ad L (sr σ k (fl n v (σ k)))) args s 0 0 (WA N ad)) (F0 m 5 ls []) := by
    intro d
    induction d with
    | zero =>
      intro i hi H locs hP hS ls hl
      have hin : i = n := by omega
      subst hin
      refine lv_iload_n hx hb dJ7_fill_53178_5 rfl (lv_at hl 0 rfl) ?_
      refine lv_iload_n hx hb dJ7_fill_53178_6 rfl (lv_at hl 1 rfl) ?_
      refine lv_icmp_ge (tgt := 20) hx hb dJ7_fill_53178_7 (by decide) (fun _ => ?_) (fun q => absurd (nI_le (Nat.le_refl _) hn) q)
      exact xt_vret hx hb hr hP hS rfl dJ7_fill_53178_20 hlocks
    | succ d ih =>
      intro i hi H locs hP hS ls hl
      have hlt : i < n := by omega
      refine lv_iload_n hx hb dJ7_fill_53178_5 rfl (lv_at hl 0 rfl) ?_
      refine lv_iload_n hx hb dJ7_fill_53178_6 rfl (lv_at hl 1 rfl) ?_
      refine lv_icmp_ge (tgt := 20) hx hb dJ7_fill_53178_7 (by decide) (fun q => absurd q (nI_ge hlt hn)) (fun _ => ?_)
      refine lv_aload_n hx hb dJ7_fill_53178_10 rfl (lv_at hl 2 rfl) ?_
      refine lv_iload_n hx hb dJ7_fill_53178_11 rfl (lv_at hl 0 rfl) ?_
      refine lv_iload_n hx hb dJ7_fill_53178_12 rfl (lv_at hl 3 rfl) ?_
      refine xt_iast hx hb hK hP hJ hS k hk 0 ha rfl (okI_nI hlt hn) dJ7_fill_53178_13 (fun H locs hP hS => ?_)
      have eσ : su (sr σ k (fl i v (σ k))) k (nI i).toNatClampNeg v = sr σ k (fl (i + 1) v (σ k)) := by
        rw [nI_clamp (by omega)]
        unfold su
        rw [sr_self, fl_succ, sr_sr]
      rw [eσ] at hP
      refine lv_iinc (v := nI (i + 1)) (lv' := [(2, .int (nI (i + 1))), (3, .int (nI n)), (0, .ref (ad k)), (1, .int v)]) hx hb dJ7_fill_53178_14 hl (k := 0) rfl (by rw [nI_succ]; rfl) (by decide) rfl (fun ls hl => ?_)
      refine lv_goto (tgt := 5) hx hb dJ7_fill_53178_17 (by decide) ?_
      exact ih (i + 1) (by omega) H locs hP hS ls hl
  refine lv_iconst (v := 0) hx hb dJ7_fill_53178_0 (by decide) ?_
  refine lv_istore_n (lv' := [(2, .int 0), (0, .ref (ad k)), (1, .int v)]) hx hb dJ7_fill_53178_1 rfl hl (by decide) rfl (fun ls hl => ?_)
  refine lv_aload_n hx hb dJ7_fill_53178_2 rfl (lv_at hl 1 rfl) ?_
  refine va_alen hx hb hK hP k 0 (wd_atE hk (ha _)) rfl (v := nI n) rfl dJ7_fill_53178_3 ?_
  refine lv_istore_n (lv' := [(3, .int (nI n)), (2, .int 0), (0, .ref (ad k)), (1, .int v)]) hx hb dJ7_fill_53178_4 rfl hl (by decide) rfl (fun ls hl => ?_)
  exact key n 0 (by omega) s.heap [] (by rw [fl_0, sr_id]; exact hP) hS ls (lv_sub hl [1, 0, 2, 3] rfl)
/-- as Met.ofW, for a class that isn't plainly named but a method that no native stands for -/
theorem xt_ofWF {l : Launch} {y : MethodName} {ws ws' : List Cond} {rm : Room} {Pc : Array Value → State → Prop} {Qc : Array Value → State → Outcome → State → Prop} {mc ms : Nat} {free : Addr → Prop} {cc : ByteArray} {maxL : Nat} {ret : Option FieldType}
    (hy : plainFor y = true) (hw : ws = Cond.code y cc maxL ret :: ws')
    (body : ∀ p e s m args below meth c s₁, BodyLoose p l y (headSpec ws rm) cc maxL ret e s m args below meth c s₁ → c.maxLocals = maxL → Pc args s →
      W p l e (headSpec ws rm).room s m args below meth c s.heap [] 0 0 (MQ below Qc args s mc ms free) (entryFrame m args maxL)) : Met l y ws rm Pc Qc mc ms free := by
  refine MetFree.of_bodySF (code := cc) (maxLocals := maxL) (ret := ret) hy ?_ ?_
  · intro args s m h hn
    obtain ⟨meth, c, h1, h2, h3, h4, h5, h6, -, -⟩ := Cond.code_spec hn (atoms_spec (ws := ws) h _ (by rw [hw]; exact List.mem_cons_self))
    exact ⟨meth, c, h1, h2, h3, h4, h5, h6⟩
  · intro p e s m args below meth c s₁ B hml hP _
    have hh0 : s₁.heap = s.heap := by rw [B.state]; rfl
    obtain ⟨t, a1, o, b1, b2, b3⟩ := body p e s m args below meth c s₁ B hml hP s₁ hh0 (Stand.of_body B)
    exact ⟨t, o, a1, b1, b2, ⟨b3.1, b3.2⟩⟩
def fJ9_floorMod_7cf53 (σ : St) (a0 : Int32) (a1 : Int32) : Option Int32 :=
  gd (okZ a1) <| nm (jrem a0 a1) fun v2 => if 0 ≤ (a0 ^^^ a1) then (some v2) else (if v2 = 0 then (some v2) else (some (v2 + a1)))
abbrev rmJ9_floorMod_7cf53 : Room := { frames := 0, cells := 0, slots := 0, locals := 0 }
theorem dmJ9_floorMod_7cf53 : yJ9_floorMod_7cf53.cls ≠ "java/lang/invoke/MethodHandle" ∧ yJ9_floorMod_7cf53.cls ≠ "java/lang/invoke/VarHandle" ∧ (parseMethodDescriptor yJ9_floorMod_7cf53.desc).map (fun d => d.parameters.length) = some 2 := by decide +kernel
set_option maxHeartbeats 8000000 in
set_option maxRecDepth 100000 in
theorem mJ9_floorMod_7cf53 (l : Launch) (dC : Nat → ClassId) (dI : Nat → Nat → Nat) (N : Nat) (ad : Nat → Nat) (L : Nat → (Nat → Int32) → va_E) (cy : Nat → ClassId) (hJ : WJ N ad) (σ : St) (a0 : Int32) (a1 : Int32) (res : Int32) (hf : fJ9_floorMod_7cf53 σ a0 a1 = some res) : CMi l yJ9_floorMod_7cf53 wsJ9_floorMod_7cf53 rmJ9_floorMod_7cf53 (dC, dI) (tysX cy) N ad L [.int a0, .int a1] σ res σ := by
  refine xt_ofWF (cc := cJ9_floorMod_7cf53) (maxL := 3) (ret := (some .int)) (by decide +kernel) rfl ?_
  intro p e s m args below meth c s₁ B hml hv
  obtain ⟨hargs, hP, hK⟩ := hv
  have hx := B.exec
  have hb := B.bytes
  have hr := B.returns
  have hts := atoms_spec (ws := wsJ9_floorMod_7cf53) B.pre
  have hown : s.vm.findClass RJ9 = some m.cls := findClass_of_methodNamed B.named
  have hlocks := B.notSynchronized
  have hS : va_S (WA N ad) s.heap s.heap [] := va_S.rf
  have hfr : entryFrame m args 3 = F0 m 0 ((lg_sl [.int a0, .int a1] ++ List.replicate (3 - (lg_sl [.int a0, .int a1]).length) Slot.unset).toArray) [] := by rw [hargs]; exact lg_entry_eq _ _ _
  rw [hfr]
  have hl := lv_entry ([.int a0, .int a1]) (n := 3) (Nat.le_of_ble_eq_true rfl)
  generalize (lg_sl [.int a0, .int a1] ++ List.replicate (3 - (lg_sl [.int a0, .int a1]).length) Slot.unset).toArray = ls at hl ⊢
  have hl : lv_has ls 3 [(0, .int a0), (1, .int a1)] := hl
  clear hfr hargs B
  show W p l e rmJ9_floorMod_7cf53 s m args below meth c s.heap [] 0 0 (MQ below (Qiw (dC, dI) N ad L res σ) args s 0 0 (WA N ad)) (F0 m 0 ls [])
  unfold fJ9_floorMod_7cf53 at hf
  obtain ⟨H, eH⟩ : ∃ H : Heap, H = s.heap := ⟨_, rfl⟩
  rw [← eH] at hP
  have hS : va_S (WA N ad) s.heap H [] := by rw [eH]; exact hS
  suffices K : W p l e rmJ9_floorMod_7cf53 s m args below meth c H [] 0 0 (MQ below (Qiw (dC, dI) N ad L res σ) args s 0 0 (WA N ad)) (F0 m 0 ls []) by rw [eH] at K; exact K
  clear eH
  obtain ⟨locs, elocs⟩ : ∃ z : List Loc, z = [] := ⟨_, rfl⟩
  rw [← elocs] at hS ⊢
  refine lv_iload_n hx hb dJ9_floorMod_7cf53_0 rfl (lv_at hl 0 rfl) ?_
  refine lv_iload_n hx hb dJ9_floorMod_7cf53_1 rfl (lv_at hl 1 rfl) ?_
  obtain ⟨g1, hf⟩ := gd_some hf
  refine xt_irem hx hb dJ9_floorMod_7cf53_2 (okZ_ne g1) ?_
  refine lv_topi (fun v2 ev2 => ?_)
  have hf := nm_to hf ev2
  refine lv_istore_n (lv' := [(2, .int v2), (0, .int a0), (1, .int a1)]) hx hb dJ9_floorMod_7cf53_3 rfl hl (by decide) rfl (fun ls hl => ?_)
  refine lv_iload_n hx hb dJ9_floorMod_7cf53_4 rfl (lv_at hl 1 rfl) ?_
  refine lv_iload_n hx hb dJ9_floorMod_7cf53_5 rfl (lv_at hl 2 rfl) ?_
  refine lv_ixor hx hb dJ9_floorMod_7cf53_6 ?_
  refine lv_if_ge (tgt := 18) hx hb dJ9_floorMod_7cf53_7 (by decide) (fun c3 => ?_) (fun c3 => ?_)
  · have hf := (if_pos c3).symm.trans hf
    refine lv_iload_n hx hb dJ9_floorMod_7cf53_18 rfl (lv_at hl 0 rfl) ?_
    exact xt_iret hx hb hr hP hS (Option.some.inj hf) rfl dJ9_floorMod_7cf53_19 hlocks
  · have hf := (if_neg c3).symm.trans hf
    refine lv_iload_n hx hb dJ9_floorMod_7cf53_10 rfl (lv_at hl 0 rfl) ?_
    refine lv_if_eq (tgt := 18) hx hb dJ9_floorMod_7cf53_11 (by decide) (fun c4 => ?_) (fun c4 => ?_)
    · have hf := (if_pos c4).symm.trans hf
      refine lv_iload_n hx hb dJ9_floorMod_7cf53_18 rfl (lv_at hl 0 rfl) ?_
      exact xt_iret hx hb hr hP hS (Option.some.inj hf) rfl dJ9_floorMod_7cf53_19 hlocks
    · have hf := (if_neg c4).symm.trans hf
      refine lv_iload_n hx hb dJ9_floorMod_7cf53_14 rfl (lv_at hl 0 rfl) ?_
      refine lv_iload_n hx hb dJ9_floorMod_7cf53_15 rfl (lv_at hl 2 rfl) ?_
      refine lv_iadd hx hb dJ9_floorMod_7cf53_16 ?_
      exact xt_iret hx hb hr hP hS (Option.some.inj hf) rfl dJ9_floorMod_7cf53_17 hlocks
