theorem dmJ6_getChars_ba4f3 : yJ6_getChars_ba4f3.cls ≠ "java/lang/invoke/MethodHandle" ∧ yJ6_getChars_ba4f3.cls ≠ "java/lang/invoke/VarHandle" ∧ (parseMethodDescriptor yJ6_getChars_ba4f3.desc).map (fun d => d.parameters.length) = some 3 := by decide +kernel
abbrev rmJ6_getChars_ba4f3 : Room := { frames := 0, cells := 0, slots := 0, locals := 0 }
set_option maxHeartbeats 8000000 in
set_option maxRecDepth 100000 in
theorem mJ6_getChars_ba4f3 (l : Launch) (dC : Nat → ClassId) (dI : Nat → Nat → Nat) (cy : Nat → ClassId) (tb : Nat × Nat) (V m n : Nat) (a : Nat → Int32) (sz v : Nat) (hv : v ≤ 9999) (hm : m ≤ 200) (hne : n + (dg v).length ≤ m) (hf : sb_Fit a) : Met l yJ6_getChars_ba4f3 wsJ6_getChars_ba4f3 rmJ6_getChars_ba4f3 (PcJ [.int (nI v), .int (nI (n + (dg v).length)), .ref V] sz (dC, dI) cy [(V, .inl (cy 4, m, .inl a))] (va_A [(V, .inl (cy 4, m, .inl a))] sz) tb) (va_Qi (fun (z : Int32) (b : Nat → Int32) => z = nI n ∧ (∀ i, i < n → b i = a i) ∧ (∀ i, i < (dg v).length → b (n + i) = nI ((dg v).getD i 0)) ∧ sb_Fit b) (fun b t => va_P (dC, dI) vwCl [(V, .inl (cy 4, m, .inl b))] t.heap ∧ va_D (va_A [(V, .inl (cy 4, m, .inl a))] sz) [(V, .inl (cy 4, m, .inl b))]) (va_A [(V, .inl (cy 4, m, .inl a))] sz)) 0 0 (va_A [(V, .inl (cy 4, m, .inl a))] sz) := by
  refine Met.ofW (cc := cJ6_getChars_ba4f3) (maxL := 7) (ret := (some .int)) (by decide) rfl ?_
  intro p e s mt args below meth c s₁ BY hml hv
  obtain ⟨hargs, hsz, hP, hK, hE⟩ := hv
  have hx := BY.exec
  have hb := BY.bytes
  have hr := BY.returns
  have hts := atoms_spec (ws := wsJ6_getChars_ba4f3) BY.pre
  have hown : s.vm.findClass RJ6 = some mt.cls := findClass_of_methodNamed BY.named
  have hlocks := BY.notSynchronized
  have w1 := hts (.fieldLink RJ6 83 "java/lang/Integer" "DigitOnes" "[B") (List.mem_of_getElem? (i := 1) rfl)
  have w2 := hts (.fieldLink RJ6 87 "java/lang/Integer" "DigitTens" "[B") (List.mem_of_getElem? (i := 2) rfl)
  have hS : va_S (va_A [(V, .inl (cy 4, m, .inl a))] sz) s.heap s.heap [] := va_S.rf
  have hfr : entryFrame mt args 7 = F0 mt 0 ((lg_sl [.int (nI v), .int (nI (n + (dg v).length)), .ref V] ++ List.replicate (7 - (lg_sl [.int (nI v), .int (nI (n + (dg v).length)), .ref V]).length) Slot.unset).toArray) [] := by rw [hargs]; exact lg_entry_eq _ _ _
  rw [hfr]
  have hl := lv_entry ([.int (nI v), .int (nI (n + (dg v).length)), .ref V]) (n := 7) (Nat.le_of_ble_eq_true rfl)
  generalize (lg_sl [.int (nI v), .int (nI (n + (dg v).length)), .ref V] ++ List.replicate (7 - (lg_sl [.int (nI v), .int (nI (n + (dg v).length)), .ref V]).length) Slot.unset).toArray = ls at hl ⊢
  have hl : lv_has ls 7 [(0, .int (nI v)), (1, .int (nI (n + (dg v).length))), (2, .ref V)] := hl
  clear hfr hargs BY
  show W p l e rmJ6_getChars_ba4f3 s mt args below meth c s.heap [] 0 0 (MQ below (va_Qi (fun (z : Int32) (b : Nat → Int32) => z = nI n ∧ (∀ i, i < n → b i = a i) ∧ (∀ i, i < (dg v).length → b (n + i) = nI ((dg v).getD i 0)) ∧ sb_Fit b) (fun b t => va_P (dC, dI) vwCl [(V, .inl (cy 4, m, .inl b))] t.heap ∧ va_D (va_A [(V, .inl (cy 4, m, .inl a))] sz) [(V, .inl (cy 4, m, .inl b))]) (va_A [(V, .inl (cy 4, m, .inl a))] sz)) args s 0 0 (va_A [(V, .inl (cy 4, m, .inl a))] sz)) (F0 mt 0 ls [])
  have hEn := hE.narrow (B := (va_A [(V, .inl (cy 4, m, .inl a))] sz)) (fun x h => h)
  subst hsz
  have hD : va_D (va_A [(V, .inl (cy 4, m, .inl a))] s.heap.size) [(V, .inl (cy 4, m, .inl a))] := D1 (Or.inl ⟨0, _, rfl⟩)
  have hv1 := hv
  rcases (show v < 10 ∨ (10 ≤ v ∧ v < 100) ∨ (100 ≤ v ∧ v < 1000) ∨ (1000 ≤ v ∧ v < 10000) by omega) with h1 | h1 | h1 | h1
  · have hdg : dg v = [48 + v] := by unfold dg; rw [if_pos h1]
    have hdl : (dg v).length = 1 := by rw [hdg]; rfl
    rw [hdl] at hl hne
    refine lv_iload_n hx hb dJ6_getChars_ba4f3_0 rfl (lv_at hl 1 rfl) ?_
    refine lv_istore (lv' := [(5, .int (nI (n + 1))), (0, .int (nI v)), (1, .int (nI (n + 1))), (2, .ref V)]) hx hb dJ6_getChars_ba4f3_1 hl (by decide) rfl (fun ls hl => ?_)
    refine lv_iload_n hx hb dJ6_getChars_ba4f3_3 rfl (lv_at hl 1 rfl) ?_
    refine lv_if_ge (tgt := 11) hx hb dJ6_getChars_ba4f3_4 (by decide) (fun _ => ?_) (fun q9 => absurd (nI_pos' (by omega)) q9)
    refine lv_iconst (v := 0) hx hb dJ6_getChars_ba4f3_11 (by decide) ?_
    refine lv_istore (lv' := [(6, .int 0), (5, .int (nI (n + 1))), (0, .int (nI v)), (1, .int (nI (n + 1))), (2, .ref V)]) hx hb dJ6_getChars_ba4f3_12 hl (by decide) rfl (fun ls hl => ?_)
    refine lv_iload hx hb dJ6_getChars_ba4f3_14 (lv_at hl 0 rfl) ?_
    refine lv_if_ne (tgt := 22) hx hb dJ6_getChars_ba4f3_16 (by decide) (fun q9 => absurd (rfl) q9) (fun _ => ?_)
    refine lv_iload_n hx hb dJ6_getChars_ba4f3_19 rfl (lv_at hl 2 rfl) ?_
    refine lv_ineg hx hb dJ6_getChars_ba4f3_20 ?_
    rw [show ((-(nI v)) : Int32) = (mI v) from pz_neg v]
    refine lv_istore_n (lv' := [(0, .int (mI v)), (6, .int 0), (5, .int (nI (n + 1))), (1, .int (nI (n + 1))), (2, .ref V)]) hx hb dJ6_getChars_ba4f3_21 rfl hl (by decide) rfl (fun ls hl => ?_)
    refine lv_iload_n hx hb dJ6_getChars_ba4f3_22 rfl (lv_at hl 0 rfl) ?_
    refine lv_bipush (v := (mI 100)) hx hb dJ6_getChars_ba4f3_23 (by decide) ?_
    refine lv_icmp_gt (tgt := 72) hx hb dJ6_getChars_ba4f3_25 (by decide) (fun _ => ?_) (fun q9 => absurd ((m_ltI (by decide) (by omega)).mpr (by omega)) q9)
    refine lv_aload_n hx hb dJ6_getChars_ba4f3_72 rfl (lv_at hl 4 rfl) ?_
    refine lv_iinc (v := (nI (n + 0))) (lv' := [(5, .int (nI (n + 0))), (0, .int (mI v)), (6, .int 0), (1, .int (nI (n + 1))), (2, .ref V)]) hx hb dJ6_getChars_ba4f3_73 hl (k := 2) rfl (by rw [show Int32.ofInt (-1) = -1 from by decide]; exact pk_m1 (n + 0)) (by decide) rfl (fun ls hl => ?_)
    refine lv_iload hx hb dJ6_getChars_ba4f3_76 (lv_at hl 0 rfl) ?_
    refine va_gets hx hb (C := "java/lang/Integer") (n := "DigitOnes") (d := "[B") hEn.2.2.2.1.1 hS hown w1 (fun _ h9 => h9) dJ6_getChars_ba4f3_78 ?_
    refine lv_iload_n hx hb dJ6_getChars_ba4f3_81 rfl (lv_at hl 1 rfl) ?_
    refine lv_ineg hx hb dJ6_getChars_ba4f3_82 ?_
    rw [show ((-(mI v)) : Int32) = (nI v) from m_neg _]
    refine va_tb hx hb hEn.2.2.2.1.2 hS (vp_in_nI (n := v) (by omega) (by omega)) (v := .int (dOn (v))) (by rw [nI_clamp (n := v) (by omega)]) dJ6_getChars_ba4f3_83 ?_
    refine va_bast hx hb hK hP hD hS 0 4 rfl rfl (vp_in_nI (n := n + 0) (by omega) (by omega)) dJ6_getChars_ba4f3_84 (fun H locs hP hD hS => ?_)
    rw [nI_clamp (n := n + 0) (by omega), dO_nar (v)] at hP hD
    have hP : va_P (dC, dI) vwCl [(V, .inl (cy 4, m, .inl (upd a (n + 0) (nI (48 + v % 10)))))] H := hP
    have hD : va_D (va_A [(V, .inl (cy 4, m, .inl a))] s.heap.size) [(V, .inl (cy 4, m, .inl (upd a (n + 0) (nI (48 + v % 10)))))] := hD
    refine lv_iload_n hx hb dJ6_getChars_ba4f3_85 rfl (lv_at hl 1 rfl) ?_
    refine lv_bipush (v := (mI 9)) hx hb dJ6_getChars_ba4f3_86 (by decide) ?_
    refine lv_icmp_ge (tgt := 104) hx hb dJ6_getChars_ba4f3_88 (by decide) (fun _ => ?_) (fun q9 => absurd ((m_leI (by decide) (by omega)).mpr (by omega)) q9)
    refine lv_iload hx hb dJ6_getChars_ba4f3_104 (lv_at hl 2 rfl) ?_
    refine lv_if_eq (tgt := 118) hx hb dJ6_getChars_ba4f3_106 (by decide) (fun _ => ?_) (fun q9 => absurd (rfl) q9)
    refine lv_iload hx hb dJ6_getChars_ba4f3_118 (lv_at hl 0 rfl) ?_
    have hf2 : sb_Fit (upd a (n + 0) (nI (48 + v % 10))) := by repeat (first | exact hf | refine fit_u ?_ (by omega))
    refine W.iret hx hb hr (fun t ht _ => ⟨⟨_, (upd a (n + 0) (nI (48 + v % 10))), rfl, ⟨rfl, fun i hi => ?_, fun i hi => ?_, hf2⟩, by rw [ht]; exact hP, hD⟩, hS.F ht⟩) hS.2.2 dJ6_getChars_ba4f3_120 hlocks
    · simp (disch := omega) only [pk_un]
    · rw [hdg]
      rw [hdl] at hi
      rcases (show i = 0 by omega) with rfl
      · simp (disch := omega) only [pk_un, pk_us]
        exact congrArg nI (by first | rfl | omega | (simp only [List.getD_cons_zero, List.getD_cons_succ]; done) | (simp only [List.getD_cons_zero, List.getD_cons_succ]; omega))
  · have hdg : dg v = [48 + v / 10, 48 + v % 10] := by unfold dg; rw [if_neg (by omega), if_pos h1.2]
    have hdl : (dg v).length = 2 := by rw [hdg]; rfl
    rw [hdl] at hl hne
    refine lv_iload_n hx hb dJ6_getChars_ba4f3_0 rfl (lv_at hl 1 rfl) ?_
    refine lv_istore (lv' := [(5, .int (nI (n + 2))), (0, .int (nI v)), (1, .int (nI (n + 2))), (2, .ref V)]) hx hb dJ6_getChars_ba4f3_1 hl (by decide) rfl (fun ls hl => ?_)
    refine lv_iload_n hx hb dJ6_getChars_ba4f3_3 rfl (lv_at hl 1 rfl) ?_
    refine lv_if_ge (tgt := 11) hx hb dJ6_getChars_ba4f3_4 (by decide) (fun _ => ?_) (fun q9 => absurd (nI_pos' (by omega)) q9)
    refine lv_iconst (v := 0) hx hb dJ6_getChars_ba4f3_11 (by decide) ?_
    refine lv_istore (lv' := [(6, .int 0), (5, .int (nI (n + 2))), (0, .int (nI v)), (1, .int (nI (n + 2))), (2, .ref V)]) hx hb dJ6_getChars_ba4f3_12 hl (by decide) rfl (fun ls hl => ?_)
    refine lv_iload hx hb dJ6_getChars_ba4f3_14 (lv_at hl 0 rfl) ?_
    refine lv_if_ne (tgt := 22) hx hb dJ6_getChars_ba4f3_16 (by decide) (fun q9 => absurd (rfl) q9) (fun _ => ?_)
    refine lv_iload_n hx hb dJ6_getChars_ba4f3_19 rfl (lv_at hl 2 rfl) ?_
    refine lv_ineg hx hb dJ6_getChars_ba4f3_20 ?_
    rw [show ((-(nI v)) : Int32) = (mI v) from pz_neg v]
    refine lv_istore_n (lv' := [(0, .int (mI v)), (6, .int 0), (5, .int (nI (n + 2))), (1, .int (nI (n + 2))), (2, .ref V)]) hx hb dJ6_getChars_ba4f3_21 rfl hl (by decide) rfl (fun ls hl => ?_)
    refine lv_iload_n hx hb dJ6_getChars_ba4f3_22 rfl (lv_at hl 0 rfl) ?_
    refine lv_bipush (v := (mI 100)) hx hb dJ6_getChars_ba4f3_23 (by decide) ?_
    refine lv_icmp_gt (tgt := 72) hx hb dJ6_getChars_ba4f3_25 (by decide) (fun _ => ?_) (fun q9 => absurd ((m_ltI (by decide) (by omega)).mpr (by omega)) q9)
    refine lv_aload_n hx hb dJ6_getChars_ba4f3_72 rfl (lv_at hl 4 rfl) ?_
    refine lv_iinc (v := (nI (n + 1))) (lv' := [(5, .int (nI (n + 1))), (0, .int (mI v)), (6, .int 0), (1, .int (nI (n + 2))), (2, .ref V)]) hx hb dJ6_getChars_ba4f3_73 hl (k := 2) rfl (by rw [show Int32.ofInt (-1) = -1 from by decide]; exact pk_m1 (n + 1)) (by decide) rfl (fun ls hl => ?_)
    refine lv_iload hx hb dJ6_getChars_ba4f3_76 (lv_at hl 0 rfl) ?_
    refine va_gets hx hb (C := "java/lang/Integer") (n := "DigitOnes") (d := "[B") hEn.2.2.2.1.1 hS hown w1 (fun _ h9 => h9) dJ6_getChars_ba4f3_78 ?_
    refine lv_iload_n hx hb dJ6_getChars_ba4f3_81 rfl (lv_at hl 1 rfl) ?_
    refine lv_ineg hx hb dJ6_getChars_ba4f3_82 ?_
    rw [show ((-(mI v)) : Int32) = (nI v) from m_neg _]
    refine va_tb hx hb hEn.2.2.2.1.2 hS (vp_in_nI (n := v) (by omega) (by omega)) (v := .int (dOn (v))) (by rw [nI_clamp (n := v) (by omega)]) dJ6_getChars_ba4f3_83 ?_
    refine va_bast hx hb hK hP hD hS 0 4 rfl rfl (vp_in_nI (n := n + 1) (by omega) (by omega)) dJ6_getChars_ba4f3_84 (fun H locs hP hD hS => ?_)
    rw [nI_clamp (n := n + 1) (by omega), dO_nar (v)] at hP hD
    have hP : va_P (dC, dI) vwCl [(V, .inl (cy 4, m, .inl (upd a (n + 1) (nI (48 + v % 10)))))] H := hP
    have hD : va_D (va_A [(V, .inl (cy 4, m, .inl a))] s.heap.size) [(V, .inl (cy 4, m, .inl (upd a (n + 1) (nI (48 + v % 10)))))] := hD
    refine lv_iload_n hx hb dJ6_getChars_ba4f3_85 rfl (lv_at hl 1 rfl) ?_
    refine lv_bipush (v := (mI 9)) hx hb dJ6_getChars_ba4f3_86 (by decide) ?_
    refine lv_icmp_ge (tgt := 104) hx hb dJ6_getChars_ba4f3_88 (by decide) (fun q9 => absurd q9 (fun z => by have := (m_leI (by decide) (by omega)).mp z; omega)) (fun _ => ?_)
    refine lv_aload_n hx hb dJ6_getChars_ba4f3_91 rfl (lv_at hl 4 rfl) ?_
    refine lv_iinc (v := (nI (n + 0))) (lv' := [(5, .int (nI (n + 0))), (0, .int (mI v)), (6, .int 0), (1, .int (nI (n + 2))), (2, .ref V)]) hx hb dJ6_getChars_ba4f3_92 hl (k := 0) rfl (by rw [show Int32.ofInt (-1) = -1 from by decide]; exact pk_m1 (n + 0)) (by decide) rfl (fun ls hl => ?_)
    refine lv_iload hx hb dJ6_getChars_ba4f3_95 (lv_at hl 0 rfl) ?_
    refine va_gets hx hb (C := "java/lang/Integer") (n := "DigitTens") (d := "[B") hEn.2.2.1.1 hS hown w2 (fun _ h9 => h9) dJ6_getChars_ba4f3_97 ?_
    refine lv_iload_n hx hb dJ6_getChars_ba4f3_100 rfl (lv_at hl 1 rfl) ?_
    refine lv_ineg hx hb dJ6_getChars_ba4f3_101 ?_
    rw [show ((-(mI v)) : Int32) = (nI v) from m_neg _]
    refine va_tb hx hb hEn.2.2.1.2 hS (vp_in_nI (n := v) (by omega) (by omega)) (v := .int (dTn (v))) (by rw [nI_clamp (n := v) (by omega)]) dJ6_getChars_ba4f3_102 ?_
    refine va_bast hx hb hK hP hD hS 0 4 rfl rfl (vp_in_nI (n := n + 0) (by omega) (by omega)) dJ6_getChars_ba4f3_103 (fun H locs hP hD hS => ?_)
    rw [nI_clamp (n := n + 0) (by omega), dT_nar (k := v) (by omega)] at hP hD
    have hP : va_P (dC, dI) vwCl [(V, .inl (cy 4, m, .inl (upd (upd a (n + 1) (nI (48 + v % 10))) (n + 0) (nI (48 + v / 10)))))] H := hP
    have hD : va_D (va_A [(V, .inl (cy 4, m, .inl a))] s.heap.size) [(V, .inl (cy 4, m, .inl (upd (upd a (n + 1) (nI (48 + v % 10))) (n + 0) (nI (48 + v / 10)))))] := hD
    refine lv_iload hx hb dJ6_getChars_ba4f3_104 (lv_at hl 2 rfl) ?_
    refine lv_if_eq (tgt := 118) hx hb dJ6_getChars_ba4f3_106 (by decide) (fun _ => ?_) (fun q9 => absurd (rfl) q9)
    refine lv_iload hx hb dJ6_getChars_ba4f3_118 (lv_at hl 0 rfl) ?_
    have hf2 : sb_Fit (upd (upd a (n + 1) (nI (48 + v % 10))) (n + 0) (nI (48 + v / 10))) := by repeat (first | exact hf | refine fit_u ?_ (by omega))
    refine W.iret hx hb hr (fun t ht _ => ⟨⟨_, (upd (upd a (n + 1) (nI (48 + v % 10))) (n + 0) (nI (48 + v / 10))), rfl, ⟨rfl, fun i hi => ?_, fun i hi => ?_, hf2⟩, by rw [ht]; exact hP, hD⟩, hS.F ht⟩) hS.2.2 dJ6_getChars_ba4f3_120 hlocks
    · simp (disch := omega) only [pk_un]
    · rw [hdg]
      rw [hdl] at hi
      rcases (show i = 0 ∨ i = 1 by omega) with rfl | rfl
      · simp (disch := omega) only [pk_un, pk_us]
        exact congrArg nI (by first | rfl | omega | (simp only [List.getD_cons_zero, List.getD_cons_succ]; done) | (simp only [List.getD_cons_zero, List.getD_cons_succ]; omega))
      · simp (disch := omega) only [pk_un, pk_us]
        exact congrArg nI (by first | rfl | omega | (simp only [List.getD_cons_zero, List.getD_cons_succ]; done) | (simp only [List.getD_cons_zero, List.getD_cons_succ]; omega))
  · have hdg : dg v = [48 + v / 100, 48 + v / 10 % 10, 48 + v % 10] := by unfold dg; rw [if_neg (by omega), if_neg (by omega), if_pos h1.2]
    have hdl : (dg v).length = 3 := by rw [hdg]; rfl
    rw [hdl] at hl hne
    refine lv_iload_n hx hb dJ6_getChars_ba4f3_0 rfl (lv_at hl 1 rfl) ?_
    refine lv_istore (lv' := [(5, .int (nI (n + 3))), (0, .int (nI v)), (1, .int (nI (n + 3))), (2, .ref V)]) hx hb dJ6_getChars_ba4f3_1 hl (by decide) rfl (fun ls hl => ?_)
    refine lv_iload_n hx hb dJ6_getChars_ba4f3_3 rfl (lv_at hl 1 rfl) ?_
    refine lv_if_ge (tgt := 11) hx hb dJ6_getChars_ba4f3_4 (by decide) (fun _ => ?_) (fun q9 => absurd (nI_pos' (by omega)) q9)
    refine lv_iconst (v := 0) hx hb dJ6_getChars_ba4f3_11 (by decide) ?_
    refine lv_istore (lv' := [(6, .int 0), (5, .int (nI (n + 3))), (0, .int (nI v)), (1, .int (nI (n + 3))), (2, .ref V)]) hx hb dJ6_getChars_ba4f3_12 hl (by decide) rfl (fun ls hl => ?_)
    refine lv_iload hx hb dJ6_getChars_ba4f3_14 (lv_at hl 0 rfl) ?_
    refine lv_if_ne (tgt := 22) hx hb dJ6_getChars_ba4f3_16 (by decide) (fun q9 => absurd (rfl) q9) (fun _ => ?_)
    refine lv_iload_n hx hb dJ6_getChars_ba4f3_19 rfl (lv_at hl 2 rfl) ?_
    refine lv_ineg hx hb dJ6_getChars_ba4f3_20 ?_
    rw [show ((-(nI v)) : Int32) = (mI v) from pz_neg v]
    refine lv_istore_n (lv' := [(0, .int (mI v)), (6, .int 0), (5, .int (nI (n + 3))), (1, .int (nI (n + 3))), (2, .ref V)]) hx hb dJ6_getChars_ba4f3_21 rfl hl (by decide) rfl (fun ls hl => ?_)
    refine lv_iload_n hx hb dJ6_getChars_ba4f3_22 rfl (lv_at hl 0 rfl) ?_
    refine lv_bipush (v := (mI 100)) hx hb dJ6_getChars_ba4f3_23 (by decide) ?_
    refine lv_icmp_gt (tgt := 72) hx hb dJ6_getChars_ba4f3_25 (by decide) (fun q9 => absurd q9 (fun z => by have := (m_ltI (by decide) (by omega)).mp z; omega)) (fun _ => ?_)
    refine lv_iload_n hx hb dJ6_getChars_ba4f3_28 rfl (lv_at hl 0 rfl) ?_
    refine lv_bipush (v := (nI 100)) hx hb dJ6_getChars_ba4f3_29 (by decide) ?_
    refine lv_idiv hx hb dJ6_getChars_ba4f3_31 (by decide) ?_
    rw [show (((mI v) / (nI 100)) : Int32) = (mI (v / 100)) from m_div v (by omega)]
    refine lv_istore_n (lv' := [(3, .int (mI (v / 100))), (0, .int (mI v)), (6, .int 0), (5, .int (nI (n + 3))), (1, .int (nI (n + 3))), (2, .ref V)]) hx hb dJ6_getChars_ba4f3_32 rfl hl (by decide) rfl (fun ls hl => ?_)
    refine lv_iload_n hx hb dJ6_getChars_ba4f3_33 rfl (lv_at hl 0 rfl) ?_
    refine lv_bipush (v := (nI 100)) hx hb dJ6_getChars_ba4f3_34 (by decide) ?_
    refine lv_imul hx hb dJ6_getChars_ba4f3_36 ?_
    refine lv_iload_n hx hb dJ6_getChars_ba4f3_37 rfl (lv_at hl 1 rfl) ?_
    refine lv_isub hx hb dJ6_getChars_ba4f3_38 ?_
    rw [show ((((mI (v / 100)) * (nI 100)) - (mI v)) : Int32) = (nI (v % 100)) from m_rem v (by omega)]
    refine lv_istore (lv' := [(4, .int (nI (v % 100))), (3, .int (mI (v / 100))), (0, .int (mI v)), (6, .int 0), (5, .int (nI (n + 3))), (1, .int (nI (n + 3))), (2, .ref V)]) hx hb dJ6_getChars_ba4f3_39 hl (by decide) rfl (fun ls hl => ?_)
    refine lv_iload_n hx hb dJ6_getChars_ba4f3_41 rfl (lv_at hl 1 rfl) ?_
    refine lv_istore_n (lv' := [(0, .int (mI (v / 100))), (4, .int (nI (v % 100))), (3, .int (mI (v / 100))), (6, .int 0), (5, .int (nI (n + 3))), (1, .int (nI (n + 3))), (2, .ref V)]) hx hb dJ6_getChars_ba4f3_42 rfl hl (by decide) rfl (fun ls hl => ?_)
    refine lv_aload_n hx hb dJ6_getChars_ba4f3_43 rfl (lv_at hl 6 rfl) ?_
    refine lv_iinc (v := (nI (n + 2))) (lv' := [(5, .int (nI (n + 2))), (0, .int (mI (v / 100))), (4, .int (nI (v % 100))), (3, .int (mI (v / 100))), (6, .int 0), (1, .int (nI (n + 3))), (2, .ref V)]) hx hb dJ6_getChars_ba4f3_44 hl (k := 4) rfl (by rw [show Int32.ofInt (-1) = -1 from by decide]; exact pk_m1 (n + 2)) (by decide) rfl (fun ls hl => ?_)
    refine lv_iload hx hb dJ6_getChars_ba4f3_47 (lv_at hl 0 rfl) ?_
    refine va_gets hx hb (C := "java/lang/Integer") (n := "DigitOnes") (d := "[B") hEn.2.2.2.1.1 hS hown w1 (fun _ h9 => h9) dJ6_getChars_ba4f3_49 ?_
    refine lv_iload hx hb dJ6_getChars_ba4f3_52 (lv_at hl 2 rfl) ?_
    refine va_tb hx hb hEn.2.2.2.1.2 hS (vp_in_nI (n := v % 100) (by omega) (by omega)) (v := .int (dOn (v % 100))) (by rw [nI_clamp (n := v % 100) (by omega)]) dJ6_getChars_ba4f3_54 ?_
    refine va_bast hx hb hK hP hD hS 0 4 rfl rfl (vp_in_nI (n := n + 2) (by omega) (by omega)) dJ6_getChars_ba4f3_55 (fun H locs hP hD hS => ?_)
    rw [nI_clamp (n := n + 2) (by omega), dO_nar (v % 100)] at hP hD
    have hP : va_P (dC, dI) vwCl [(V, .inl (cy 4, m, .inl (upd a (n + 2) (nI (48 + (v % 100) % 10)))))] H := hP
    have hD : va_D (va_A [(V, .inl (cy 4, m, .inl a))] s.heap.size) [(V, .inl (cy 4, m, .inl (upd a (n + 2) (nI (48 + (v % 100) % 10)))))] := hD
    refine lv_aload_n hx hb dJ6_getChars_ba4f3_56 rfl (lv_at hl 6 rfl) ?_
    refine lv_iinc (v := (nI (n + 1))) (lv' := [(5, .int (nI (n + 1))), (0, .int (mI (v / 100))), (4, .int (nI (v % 100))), (3, .int (mI (v / 100))), (6, .int 0), (1, .int (nI (n + 3))), (2, .ref V)]) hx hb dJ6_getChars_ba4f3_57 hl (k := 0) rfl (by rw [show Int32.ofInt (-1) = -1 from by decide]; exact pk_m1 (n + 1)) (by decide) rfl (fun ls hl => ?_)
    refine lv_iload hx hb dJ6_getChars_ba4f3_60 (lv_at hl 0 rfl) ?_
    refine va_gets hx hb (C := "java/lang/Integer") (n := "DigitTens") (d := "[B") hEn.2.2.1.1 hS hown w2 (fun _ h9 => h9) dJ6_getChars_ba4f3_62 ?_
    refine lv_iload hx hb dJ6_getChars_ba4f3_65 (lv_at hl 2 rfl) ?_
    refine va_tb hx hb hEn.2.2.1.2 hS (vp_in_nI (n := v % 100) (by omega) (by omega)) (v := .int (dTn (v % 100))) (by rw [nI_clamp (n := v % 100) (by omega)]) dJ6_getChars_ba4f3_67 ?_
    refine va_bast hx hb hK hP hD hS 0 4 rfl rfl (vp_in_nI (n := n + 1) (by omega) (by omega)) dJ6_getChars_ba4f3_68 (fun H locs hP hD hS => ?_)
    rw [nI_clamp (n := n + 1) (by omega), dT_nar (k := v % 100) (by omega)] at hP hD
    have hP : va_P (dC, dI) vwCl [(V, .inl (cy 4, m, .inl (upd (upd a (n + 2) (nI (48 + (v % 100) % 10))) (n + 1) (nI (48 + (v % 100) / 10)))))] H := hP
    have hD : va_D (va_A [(V, .inl (cy 4, m, .inl a))] s.heap.size) [(V, .inl (cy 4, m, .inl (upd (upd a (n + 2) (nI (48 + (v % 100) % 10))) (n + 1) (nI (48 + (v % 100) / 10)))))] := hD
    refine lv_goto (tgt := 22) hx hb dJ6_getChars_ba4f3_69 (by decide) ?_
    refine lv_iload_n hx hb dJ6_getChars_ba4f3_22 rfl (lv_at hl 1 rfl) ?_
    refine lv_bipush (v := (mI 100)) hx hb dJ6_getChars_ba4f3_23 (by decide) ?_
    refine lv_icmp_gt (tgt := 72) hx hb dJ6_getChars_ba4f3_25 (by decide) (fun _ => ?_) (fun q9 => absurd ((m_ltI (by decide) (by omega)).mpr (by omega)) q9)
    refine lv_aload_n hx hb dJ6_getChars_ba4f3_72 rfl (lv_at hl 6 rfl) ?_
    refine lv_iinc (v := (nI (n + 0))) (lv' := [(5, .int (nI (n + 0))), (0, .int (mI (v / 100))), (4, .int (nI (v % 100))), (3, .int (mI (v / 100))), (6, .int 0), (1, .int (nI (n + 3))), (2, .ref V)]) hx hb dJ6_getChars_ba4f3_73 hl (k := 0) rfl (by rw [show Int32.ofInt (-1) = -1 from by decide]; exact pk_m1 (n + 0)) (by decide) rfl (fun ls hl => ?_)
    refine lv_iload hx hb dJ6_getChars_ba4f3_76 (lv_at hl 0 rfl) ?_
    refine va_gets hx hb (C := "java/lang/Integer") (n := "DigitOnes") (d := "[B") hEn.2.2.2.1.1 hS hown w1 (fun _ h9 => h9) dJ6_getChars_ba4f3_78 ?_
    refine lv_iload_n hx hb dJ6_getChars_ba4f3_81 rfl (lv_at hl 1 rfl) ?_
    refine lv_ineg hx hb dJ6_getChars_ba4f3_82 ?_
    rw [show ((-(mI (v / 100))) : Int32) = (nI (v / 100)) from m_neg _]
    refine va_tb hx hb hEn.2.2.2.1.2 hS (vp_in_nI (n := v / 100) (by omega) (by omega)) (v := .int (dOn (v / 100))) (by rw [nI_clamp (n := v / 100) (by omega)]) dJ6_getChars_ba4f3_83 ?_
    refine va_bast hx hb hK hP hD hS 0 4 rfl rfl (vp_in_nI (n := n + 0) (by omega) (by omega)) dJ6_getChars_ba4f3_84 (fun H locs hP hD hS => ?_)
    rw [nI_clamp (n := n + 0) (by omega), dO_nar (v / 100)] at hP hD
    have hP : va_P (dC, dI) vwCl [(V, .inl (cy 4, m, .inl (upd (upd (upd a (n + 2) (nI (48 + (v % 100) % 10))) (n + 1) (nI (48 + (v % 100) / 10))) (n + 0) (nI (48 + (v / 100) % 10)))))] H := hP
    have hD : va_D (va_A [(V, .inl (cy 4, m, .inl a))] s.heap.size) [(V, .inl (cy 4, m, .inl (upd (upd (upd a (n + 2) (nI (48 + (v % 100) % 10))) (n + 1) (nI (48 + (v % 100) / 10))) (n + 0) (nI (48 + (v / 100) % 10)))))] := hD
    refine lv_iload_n hx hb dJ6_getChars_ba4f3_85 rfl (lv_at hl 1 rfl) ?_
    refine lv_bipush (v := (mI 9)) hx hb dJ6_getChars_ba4f3_86 (by decide) ?_
    refine lv_icmp_ge (tgt := 104) hx hb dJ6_getChars_ba4f3_88 (by decide) (fun _ => ?_) (fun q9 => absurd ((m_leI (by decide) (by omega)).mpr (by omega)) q9)
    refine lv_iload hx hb dJ6_getChars_ba4f3_104 (lv_at hl 4 rfl) ?_
    refine lv_if_eq (tgt := 118) hx hb dJ6_getChars_ba4f3_106 (by decide) (fun _ => ?_) (fun q9 => absurd (rfl) q9)
    refine lv_iload hx hb dJ6_getChars_ba4f3_118 (lv_at hl 0 rfl) ?_
    have hf2 : sb_Fit (upd (upd (upd a (n + 2) (nI (48 + (v % 100) % 10))) (n + 1) (nI (48 + (v % 100) / 10))) (n + 0) (nI (48 + (v / 100) % 10))) := by repeat (first | exact hf | refine fit_u ?_ (by omega))
    refine W.iret hx hb hr (fun t ht _ => ⟨⟨_, (upd (upd (upd a (n + 2) (nI (48 + (v % 100) % 10))) (n + 1) (nI (48 + (v % 100) / 10))) (n + 0) (nI (48 + (v / 100) % 10))), rfl, ⟨rfl, fun i hi => ?_, fun i hi => ?_, hf2⟩, by rw [ht]; exact hP, hD⟩, hS.F ht⟩) hS.2.2 dJ6_getChars_ba4f3_120 hlocks
    · simp (disch := omega) only [pk_un]
    · rw [hdg]
      rw [hdl] at hi
      rcases (show i = 0 ∨ i = 1 ∨ i = 2 by omega) with rfl | rfl | rfl
      · simp (disch := omega) only [pk_un, pk_us]
        exact congrArg nI (by first | rfl | omega | (simp only [List.getD_cons_zero, List.getD_cons_succ]; done) | (simp only [List.getD_cons_zero, List.getD_cons_succ]; omega))
      · simp (disch := omega) only [pk_un, pk_us]
        exact congrArg nI (by first | rfl | omega | (simp only [List.getD_cons_zero, List.getD_cons_succ]; done) | (simp only [List.getD_cons_zero, List.getD_cons_succ]; omega))
      · simp (disch := omega) only [pk_un, pk_us]
        exact congrArg nI (by first | rfl | omega | (simp only [List.getD_cons_zero, List.getD_cons_succ]; done) | (simp only [List.getD_cons_zero, List.getD_cons_succ]; omega))
  · have hdg : dg v = [48 + v / 1000, 48 + v / 100 % 10, 48 + v / 10 % 10, 48 + v % 10] := by unfold dg; rw [if_neg (by omega), if_neg (by omega), if_neg (by omega)]
    have hdl : (dg v).length = 4 := by rw [hdg]; rfl
    rw [hdl] at hl hne
    refine lv_iload_n hx hb dJ6_getChars_ba4f3_0 rfl (lv_at hl 1 rfl) ?_
    refine lv_istore (lv' := [(5, .int (nI (n + 4))), (0, .int (nI v)), (1, .int (nI (n + 4))), (2, .ref V)]) hx hb dJ6_getChars_ba4f3_1 hl (by decide) rfl (fun ls hl => ?_)
    refine lv_iload_n hx hb dJ6_getChars_ba4f3_3 rfl (lv_at hl 1 rfl) ?_
    refine lv_if_ge (tgt := 11) hx hb dJ6_getChars_ba4f3_4 (by decide) (fun _ => ?_) (fun q9 => absurd (nI_pos' (by omega)) q9)
    refine lv_iconst (v := 0) hx hb dJ6_getChars_ba4f3_11 (by decide) ?_
    refine lv_istore (lv' := [(6, .int 0), (5, .int (nI (n + 4))), (0, .int (nI v)), (1, .int (nI (n + 4))), (2, .ref V)]) hx hb dJ6_getChars_ba4f3_12 hl (by decide) rfl (fun ls hl => ?_)
    refine lv_iload hx hb dJ6_getChars_ba4f3_14 (lv_at hl 0 rfl) ?_
    refine lv_if_ne (tgt := 22) hx hb dJ6_getChars_ba4f3_16 (by decide) (fun q9 => absurd (rfl) q9) (fun _ => ?_)
    refine lv_iload_n hx hb dJ6_getChars_ba4f3_19 rfl (lv_at hl 2 rfl) ?_
    refine lv_ineg hx hb dJ6_getChars_ba4f3_20 ?_
    rw [show ((-(nI v)) : Int32) = (mI v) from pz_neg v]
    refine lv_istore_n (lv' := [(0, .int (mI v)), (6, .int 0), (5, .int (nI (n + 4))), (1, .int (nI (n + 4))), (2, .ref V)]) hx hb dJ6_getChars_ba4f3_21 rfl hl (by decide) rfl (fun ls hl => ?_)
    refine lv_iload_n hx hb dJ6_getChars_ba4f3_22 rfl (lv_at hl 0 rfl) ?_
    refine lv_bipush (v := (mI 100)) hx hb dJ6_getChars_ba4f3_23 (by decide) ?_
    refine lv_icmp_gt (tgt := 72) hx hb dJ6_getChars_ba4f3_25 (by decide) (fun q9 => absurd q9 (fun z => by have := (m_ltI (by decide) (by omega)).mp z; omega)) (fun _ => ?_)
    refine lv_iload_n hx hb dJ6_getChars_ba4f3_28 rfl (lv_at hl 0 rfl) ?_
    refine lv_bipush (v := (nI 100)) hx hb dJ6_getChars_ba4f3_29 (by decide) ?_
    refine lv_idiv hx hb dJ6_getChars_ba4f3_31 (by decide) ?_
    rw [show (((mI v) / (nI 100)) : Int32) = (mI (v / 100)) from m_div v (by omega)]
    refine lv_istore_n (lv' := [(3, .int (mI (v / 100))), (0, .int (mI v)), (6, .int 0), (5, .int (nI (n + 4))), (1, .int (nI (n + 4))), (2, .ref V)]) hx hb dJ6_getChars_ba4f3_32 rfl hl (by decide) rfl (fun ls hl => ?_)
    refine lv_iload_n hx hb dJ6_getChars_ba4f3_33 rfl (lv_at hl 0 rfl) ?_
    refine lv_bipush (v := (nI 100)) hx hb dJ6_getChars_ba4f3_34 (by decide) ?_
    refine lv_imul hx hb dJ6_getChars_ba4f3_36 ?_
    refine lv_iload_n hx hb dJ6_getChars_ba4f3_37 rfl (lv_at hl 1 rfl) ?_
    refine lv_isub hx hb dJ6_getChars_ba4f3_38 ?_
    rw [show ((((mI (v / 100)) * (nI 100)) - (mI v)) : Int32) = (nI (v % 100)) from m_rem v (by omega)]
    refine lv_istore (lv' := [(4, .int (nI (v % 100))), (3, .int (mI (v / 100))), (0, .int (mI v)), (6, .int 0), (5, .int (nI (n + 4))), (1, .int (nI (n + 4))), (2, .ref V)]) hx hb dJ6_getChars_ba4f3_39 hl (by decide) rfl (fun ls hl => ?_)
    refine lv_iload_n hx hb dJ6_getChars_ba4f3_41 rfl (lv_at hl 1 rfl) ?_
    refine lv_istore_n (lv' := [(0, .int (mI (v / 100))), (4, .int (nI (v % 100))), (3, .int (mI (v / 100))), (6, .int 0), (5, .int (nI (n + 4))), (1, .int (nI (n + 4))), (2, .ref V)]) hx hb dJ6_getChars_ba4f3_42 rfl hl (by decide) rfl (fun ls hl => ?_)
    refine lv_aload_n hx hb dJ6_getChars_ba4f3_43 rfl (lv_at hl 6 rfl) ?_
    refine lv_iinc (v := (nI (n + 3))) (lv' := [(5, .int (nI (n + 3))), (0, .int (mI (v / 100))), (4, .int (nI (v % 100))), (3, .int (mI (v / 100))), (6, .int 0), (1, .int (nI (n + 4))), (2, .ref V)]) hx hb dJ6_getChars_ba4f3_44 hl (k := 4) rfl (by rw [show Int32.ofInt (-1) = -1 from by decide]; exact pk_m1 (n + 3)) (by decide) rfl (fun ls hl => ?_)
    refine lv_iload hx hb dJ6_getChars_ba4f3_47 (lv_at hl 0 rfl) ?_
    refine va_gets hx hb (C := "java/lang/Integer") (n := "DigitOnes") (d := "[B") hEn.2.2.2.1.1 hS hown w1 (fun _ h9 => h9) dJ6_getChars_ba4f3_49 ?_
    refine lv_iload hx hb dJ6_getChars_ba4f3_52 (lv_at hl 2 rfl) ?_
    refine va_tb hx hb hEn.2.2.2.1.2 hS (vp_in_nI (n := v % 100) (by omega) (by omega)) (v := .int (dOn (v % 100))) (by rw [nI_clamp (n := v % 100) (by omega)]) dJ6_getChars_ba4f3_54 ?_
    refine va_bast hx hb hK hP hD hS 0 4 rfl rfl (vp_in_nI (n := n + 3) (by omega) (by omega)) dJ6_getChars_ba4f3_55 (fun H locs hP hD hS => ?_)
    rw [nI_clamp (n := n + 3) (by omega), dO_nar (v % 100)] at hP hD
    have hP : va_P (dC, dI) vwCl [(V, .inl (cy 4, m, .inl (upd a (n + 3) (nI (48 + (v % 100) % 10)))))] H := hP
    have hD : va_D (va_A [(V, .inl (cy 4, m, .inl a))] s.heap.size) [(V, .inl (cy 4, m, .inl (upd a (n + 3) (nI (48 + (v % 100) % 10)))))] := hD
    refine lv_aload_n hx hb dJ6_getChars_ba4f3_56 rfl (lv_at hl 6 rfl) ?_
    refine lv_iinc (v := (nI (n + 2))) (lv' := [(5, .int (nI (n + 2))), (0, .int (mI (v / 100))), (4, .int (nI (v % 100))), (3, .int (mI (v / 100))), (6, .int 0), (1, .int (nI (n + 4))), (2, .ref V)]) hx hb dJ6_getChars_ba4f3_57 hl (k := 0) rfl (by rw [show Int32.ofInt (-1) = -1 from by decide]; exact pk_m1 (n + 2)) (by decide) rfl (fun ls hl => ?_)
    refine lv_iload hx hb dJ6_getChars_ba4f3_60 (lv_at hl 0 rfl) ?_
    refine va_gets hx hb (C := "java/lang/Integer") (n := "DigitTens") (d := "[B") hEn.2.2.1.1 hS hown w2 (fun _ h9 => h9) dJ6_getChars_ba4f3_62 ?_
    refine lv_iload hx hb dJ6_getChars_ba4f3_65 (lv_at hl 2 rfl) ?_
    refine va_tb hx hb hEn.2.2.1.2 hS (vp_in_nI (n := v % 100) (by omega) (by omega)) (v := .int (dTn (v % 100))) (by rw [nI_clamp (n := v % 100) (by omega)]) dJ6_getChars_ba4f3_67 ?_
    refine va_bast hx hb hK hP hD hS 0 4 rfl rfl (vp_in_nI (n := n + 2) (by omega) (by omega)) dJ6_getChars_ba4f3_68 (fun H locs hP hD hS => ?_)
    rw [nI_clamp (n := n + 2) (by omega), dT_nar (k := v % 100) (by omega)] at hP hD
    have hP : va_P (dC, dI) vwCl [(V, .inl (cy 4, m, .inl (upd (upd a (n + 3) (nI (48 + (v % 100) % 10))) (n + 2) (nI (48 + (v % 100) / 10)))))] H := hP
    have hD : va_D (va_A [(V, .inl (cy 4, m, .inl a))] s.heap.size) [(V, .inl (cy 4, m, .inl (upd (upd a (n + 3) (nI (48 + (v % 100) % 10))) (n + 2) (nI (48 + (v % 100) / 10)))))] := hD
    refine lv_goto (tgt := 22) hx hb dJ6_getChars_ba4f3_69 (by decide) ?_
    refine lv_iload_n hx hb dJ6_getChars_ba4f3_22 rfl (lv_at hl 1 rfl) ?_
    refine lv_bipush (v := (mI 100)) hx hb dJ6_getChars_ba4f3_23 (by decide) ?_
    refine lv_icmp_gt (tgt := 72) hx hb dJ6_getChars_ba4f3_25 (by decide) (fun _ => ?_) (fun q9 => absurd ((m_ltI (by decide) (by omega)).mpr (by omega)) q9)
    refine lv_aload_n hx hb dJ6_getChars_ba4f3_72 rfl (lv_at hl 6 rfl) ?_
    refine lv_iinc (v := (nI (n + 1))) (lv' := [(5, .int (nI (n + 1))), (0, .int (mI (v / 100))), (4, .int (nI (v % 100))), (3, .int (mI (v / 100))), (6, .int 0), (1, .int (nI (n + 4))), (2, .ref V)]) hx hb dJ6_getChars_ba4f3_73 hl (k := 0) rfl (by rw [show Int32.ofInt (-1) = -1 from by decide]; exact pk_m1 (n + 1)) (by decide) rfl (fun ls hl => ?_)
    refine lv_iload hx hb dJ6_getChars_ba4f3_76 (lv_at hl 0 rfl) ?_
    refine va_gets hx hb (C := "java/lang/Integer") (n := "DigitOnes") (d := "[B") hEn.2.2.2.1.1 hS hown w1 (fun _ h9 => h9) dJ6_getChars_ba4f3_78 ?_
    refine lv_iload_n hx hb dJ6_getChars_ba4f3_81 rfl (lv_at hl 1 rfl) ?_
    refine lv_ineg hx hb dJ6_getChars_ba4f3_82 ?_
    rw [show ((-(mI (v / 100))) : Int32) = (nI (v / 100)) from m_neg _]
    refine va_tb hx hb hEn.2.2.2.1.2 hS (vp_in_nI (n := v / 100) (by omega) (by omega)) (v := .int (dOn (v / 100))) (by rw [nI_clamp (n := v / 100) (by omega)]) dJ6_getChars_ba4f3_83 ?_
    refine va_bast hx hb hK hP hD hS 0 4 rfl rfl (vp_in_nI (n := n + 1) (by omega) (by omega)) dJ6_getChars_ba4f3_84 (fun H locs hP hD hS => ?_)
    rw [nI_clamp (n := n + 1) (by omega), dO_nar (v / 100)] at hP hD
    have hP : va_P (dC, dI) vwCl [(V, .inl (cy 4, m, .inl (upd (upd (upd a (n + 3) (nI (48 + (v % 100) % 10))) (n + 2) (nI (48 + (v % 100) / 10))) (n + 1) (nI (48 + (v / 100) % 10)))))] H := hP
    have hD : va_D (va_A [(V, .inl (cy 4, m, .inl a))] s.heap.size) [(V, .inl (cy 4, m, .inl (upd (upd (upd a (n + 3) (nI (48 + (v % 100) % 10))) (n + 2) (nI (48 + (v % 100) / 10))) (n + 1) (nI (48 + (v / 100) % 10)))))] := hD
    refine lv_iload_n hx hb dJ6_getChars_ba4f3_85 rfl (lv_at hl 1 rfl) ?_
    refine lv_bipush (v := (mI 9)) hx hb dJ6_getChars_ba4f3_86 (by decide) ?_
    refine lv_icmp_ge (tgt := 104) hx hb dJ6_getChars_ba4f3_88 (by decide) (fun q9 => absurd q9 (fun z => by have := (m_leI (by decide) (by omega)).mp z; omega)) (fun _ => ?_)
    refine lv_aload_n hx hb dJ6_getChars_ba4f3_91 rfl (lv_at hl 6 rfl) ?_
    refine lv_iinc (v := (nI (n + 0))) (lv' := [(5, .int (nI (n + 0))), (0, .int (mI (v / 100))), (4, .int (nI (v % 100))), (3, .int (mI (v / 100))), (6, .int 0), (1, .int (nI (n + 4))), (2, .ref V)]) hx hb dJ6_getChars_ba4f3_92 hl (k := 0) rfl (by rw [show Int32.ofInt (-1) = -1 from by decide]; exact pk_m1 (n + 0)) (by decide) rfl (fun ls hl => ?_)
    refine lv_iload hx hb dJ6_getChars_ba4f3_95 (lv_at hl 0 rfl) ?_
    refine va_gets hx hb (C := "java/lang/Integer") (n := "DigitTens") (d := "[B") hEn.2.2.1.1 hS hown w2 (fun _ h9 => h9) dJ6_getChars_ba4f3_97 ?_
    refine lv_iload_n hx hb dJ6_getChars_ba4f3_100 rfl (lv_at hl 1 rfl) ?_
    refine lv_ineg hx hb dJ6_getChars_ba4f3_101 ?_
    rw [show ((-(mI (v / 100))) : Int32) = (nI (v / 100)) from m_neg _]
    refine va_tb hx hb hEn.2.2.1.2 hS (vp_in_nI (n := v / 100) (by omega) (by omega)) (v := .int (dTn (v / 100))) (by rw [nI_clamp (n := v / 100) (by omega)]) dJ6_getChars_ba4f3_102 ?_
    refine va_bast hx hb hK hP hD hS 0 4 rfl rfl (vp_in_nI (n := n + 0) (by omega) (by omega)) dJ6_getChars_ba4f3_103 (fun H locs hP hD hS => ?_)
    rw [nI_clamp (n := n + 0) (by omega), dT_nar (k := v / 100) (by omega)] at hP hD
    have hP : va_P (dC, dI) vwCl [(V, .inl (cy 4, m, .inl (upd (upd (upd (upd a (n + 3) (nI (48 + (v % 100) % 10))) (n + 2) (nI (48 + (v % 100) / 10))) (n + 1) (nI (48 + (v / 100) % 10))) (n + 0) (nI (48 + (v / 100) / 10)))))] H := hP
    have hD : va_D (va_A [(V, .inl (cy 4, m, .inl a))] s.heap.size) [(V, .inl (cy 4, m, .inl (upd (upd (upd (upd a (n + 3) (nI (48 + (v % 100) % 10))) (n + 2) (nI (48 + (v % 100) / 10))) (n + 1) (nI (48 + (v / 100) % 10))) (n + 0) (nI (48 + (v / 100) / 10)))))] := hD
    refine lv_iload hx hb dJ6_getChars_ba4f3_104 (lv_at hl 4 rfl) ?_
    refine lv_if_eq (tgt := 118) hx hb dJ6_getChars_ba4f3_106 (by decide) (fun _ => ?_) (fun q9 => absurd (rfl) q9)
    refine lv_iload hx hb dJ6_getChars_ba4f3_118 (lv_at hl 0 rfl) ?_
    have hf2 : sb_Fit (upd (upd (upd (upd a (n + 3) (nI (48 + (v % 100) % 10))) (n + 2) (nI (48 + (v % 100) / 10))) (n + 1) (nI (48 + (v / 100) % 10))) (n + 0) (nI (48 + (v / 100) / 10))) := by repeat (first | exact hf | refine fit_u ?_ (by omega))
    refine W.iret hx hb hr (fun t ht _ => ⟨⟨_, (upd (upd (upd (upd a (n + 3) (nI (48 + (v % 100) % 10))) (n + 2) (nI (48 + (v % 100) / 10))) (n + 1) (nI (48 + (v / 100) % 10))) (n + 0) (nI (48 + (v / 100) / 10))), rfl, ⟨rfl, fun i hi => ?_, fun i hi => ?_, hf2⟩, by rw [ht]; exact hP, hD⟩, hS.F ht⟩) hS.2.2 dJ6_getChars_ba4f3_120 hlocks
    · simp (disch := omega) only [pk_un]
    · rw [hdg]
      rw [hdl] at hi
      rcases (show i = 0 ∨ i = 1 ∨ i = 2 ∨ i = 3 by omega) with rfl | rfl | rfl | rfl
      · simp (disch := omega) only [pk_un, pk_us]
        exact congrArg nI (by first | rfl | omega | (simp only [List.getD_cons_zero, List.getD_cons_succ]; done) | (simp only [List.getD_cons_zero, List.getD_cons_succ]; omega))
      · simp (disch := omega) only [pk_un, pk_us]
        exact congrArg nI (by first | rfl | omega | (simp only [List.getD_cons_zero, List.getD_cons_succ]; done) | (simp only [List.getD_cons_zero, List.getD_cons_succ]; omega))
      · simp (disch := omega) only [pk_un, pk_us]
        exact congrArg nI (by first | rfl | omega | (simp only [List.getD_cons_zero, List.getD_cons_succ]; done) | (simp only [List.getD_cons_zero, List.getD_cons_succ]; omega))
      · simp (disch := omega) only [pk_un, pk_us]
        exact congrArg nI (by first | rfl | omega | (simp only [List.getD_cons_zero, List.getD_cons_succ]; done) | (simp only [List.getD_cons_zero, List.getD_cons_succ]; omega))
