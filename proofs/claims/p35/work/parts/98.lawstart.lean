/-! The law's start and its end. -/
theorem jx_0 : ∀ w ∈ wsX00, w ∈ wsL_law := by decide +kernel
theorem jx_1 : ∀ w ∈ wsX10, w ∈ wsL_law := by decide +kernel
theorem jx_2 : ∀ w ∈ wsX20, w ∈ wsL_law := by decide +kernel
theorem jx_3 : ∀ w ∈ wsX30, w ∈ wsL_law := by decide +kernel
theorem jx_4 : ∀ w ∈ wsX40, w ∈ wsL_law := by decide +kernel
theorem jx_5 : ∀ w ∈ wsX50, w ∈ wsL_law := by decide +kernel
theorem jx_6 : ∀ w ∈ wsX60, w ∈ wsL_law := by decide +kernel
theorem arr_i {s : State} {args : Array Value} (h : (Cond.arrayClass .int).before args s = true) : ∃ cA, ArrOfT s cA .int ∧ va_RA s cA .int := by
  obtain ⟨cA, kA, comp, h1, h2, h3⟩ := Cond.arrayClass_spec h
  exact ⟨cA, fun n z => ⟨fun k h => (by cases h), kA, h2, comp, h3⟩, h1⟩
theorem arr_z {s : State} {args : Array Value} (h : (Cond.arrayClass .boolean).before args s = true) : ∃ cA, ArrOfT s cA .boolean ∧ va_RA s cA .boolean := by
  obtain ⟨cA, kA, comp, h1, h2, h3⟩ := Cond.arrayClass_spec h
  exact ⟨cA, fun n z => ⟨fun k h => (by cases h), kA, h2, comp, h3⟩, h1⟩
theorem arr_c {s : State} {args : Array Value} (h : (Cond.arrayClass .char).before args s = true) : ∃ cA, ArrOfT s cA .char ∧ va_RA s cA .char := by
  obtain ⟨cA, kA, comp, h1, h2, h3⟩ := Cond.arrayClass_spec h
  exact ⟨cA, fun n z => ⟨fun k h => (by cases h), kA, h2, comp, h3⟩, h1⟩
theorem arr_q {s : State} {args : Array Value} {C : String} (h : (Cond.arrayOver (.object C)).before args s = true) : ∃ cA, ArrOfT s cA (.object C) ∧ va_RA s cA (.object C) := by
  obtain ⟨comp, cA, kA, h1, -, h2, h3, h4⟩ := Cond.arrayOver_spec h
  exact ⟨cA, fun n z => ⟨fun k h => (by cases h), kA, h2, comp, h3⟩, kA, comp, h2, h3, h1, h4⟩
theorem arr_b {s : State} {args : Array Value} (h : (Cond.arrayClass .byte).before args s = true) : ∃ cA, ArrOfT s cA .byte ∧ va_RA s cA .byte := by
  obtain ⟨cA, kA, comp, h1, h2, h3⟩ := Cond.arrayClass_spec h
  exact ⟨cA, fun n z => ⟨fun k h => (by cases h), kA, h2, comp, h3⟩, h1⟩
theorem at_K {s : State} {args : Array Value} (hts : ∀ w ∈ lw_tbl, w.before args s = true) (hts0 : ∀ w ∈ wsL_law, w.before args s = true) : ∃ (dC : Nat → ClassId) (dI : Nat → Nat → Nat) (cy : Nat → ClassId), va_K (dC, dI) vwCl (tysX cy) s := by
  obtain ⟨c0, i0, k0⟩ := u_known (C := RX0) (T := TX0) (N := 10) (n := 10) hts0 jx_0 (hts (.instantiable RX0 10) (by decide +kernel))
  obtain ⟨c1, i1, k1⟩ := u_known (C := RX1) (T := TX1) (N := 8) (n := 8) hts0 jx_1 (hts (.instantiable RX1 8) (by decide +kernel))
  obtain ⟨c2, i2, k2⟩ := u_known (C := RX2) (T := TX2) (N := 3) (n := 3) hts0 jx_2 (hts (.instantiable RX2 3) (by decide +kernel))
  obtain ⟨c3, i3, k3⟩ := u_known (C := RX3) (T := TX3) (N := 2) (n := 2) hts0 jx_3 (hts (.instantiable RX3 2) (by decide +kernel))
  obtain ⟨c4, i4, k4⟩ := u_known (C := RX4) (T := TX4) (N := 9) (n := 9) hts0 jx_4 (hts (.instantiable RX4 9) (by decide +kernel))
  obtain ⟨c5, i5, k5⟩ := u_known (C := RX5) (T := TX5) (N := 6) (n := 6) hts0 jx_5 (hts (.instantiable RX5 6) (by decide +kernel))
  obtain ⟨c6, i6, k6⟩ := u_known (C := RX6) (T := TX6) (N := 12) (n := 12) hts0 jx_6 (hts (.instantiable RX6 12) (by decide +kernel))
  obtain ⟨c7, i7, k7⟩ := u_known (C := RJ0) (T := TJ0) (N := 4) (n := 4) hts0 jl_J0 (hts (.instantiable RJ0 4) (by decide +kernel))
  obtain ⟨c8, i8, k8⟩ := u_known (C := RJ4) (T := TJ4) (N := 4) (n := 4) hts0 jl_J4 (hts0 (.instantiable RJ4 4) jl_2)
  obtain ⟨a0, ha0⟩ := arr_i (hts (.arrayClass .int) (by decide +kernel))
  obtain ⟨a1, ha1⟩ := arr_z (hts (.arrayClass .boolean) (by decide +kernel))
  obtain ⟨a2, ha2⟩ := arr_c (hts (.arrayClass .char) (by decide +kernel))
  obtain ⟨a3, ha3⟩ := arr_q (hts (.arrayOver (.object RX1)) (by decide +kernel))
  obtain ⟨a4, ha4⟩ := arr_b (hts (.arrayClass .byte) (by decide +kernel))
  obtain ⟨a5, ha5⟩ := arr_q (hts (.arrayOver (.object RJ0)) (by decide +kernel))
  refine ⟨fun k => [c0, c1, c2, c3, c4, c5, c6, c7, c8].getD k c0, fun k => [i0, i1, i2, i3, i4, i5, i6, i7, i8].getD k i0, fun k => [a0, a1, a2, a3, a4, a5].getD k a0, fun k q hq => ?_, fun k q hq => ?_⟩
  · match k, hq with
    | 0, hq => cases hq; exact k0
    | 1, hq => cases hq; exact k1
    | 2, hq => cases hq; exact k2
    | 3, hq => cases hq; exact k3
    | 4, hq => cases hq; exact k4
    | 5, hq => cases hq; exact k5
    | 6, hq => cases hq; exact k6
    | 7, hq => cases hq; exact k7
    | 8, hq => cases hq; exact k8
    | k + 9, hq => simp [vwCl] at hq
  · match k, hq with
    | 0, hq => cases hq; exact ha0
    | 1, hq => cases hq; exact ha1
    | 2, hq => cases hq; exact ha2
    | 3, hq => cases hq; exact ha3
    | 4, hq => cases hq; exact ha4
    | 5, hq => cases hq; exact ha5
    | k + 6, hq => simp at hq
abbrev tmK (i : Nat) : Term := .string RL (kc i)
abbrev vlK (i : Nat) : Term := .field (tmK i) "java/lang/String" "value" "[B"
abbrev dgT : Term := .static "java/lang/Integer" "DigitTens" "[B"
abbrev dgO : Term := .static "java/lang/Integer" "DigitOnes" "[B"
abbrev fc0 : List Cond := flatC (Jvm.Cond.and given_1 narrow_1)
def lenK : List Nat := [1, 0, 1, 1, 1, 1, 1, 1, 1, 1]
def bytK : List (List Int32) := [[42], [], [120], [58], [61], [64], [43], [62], [45], [44]]
set_option maxRecDepth 40000 in
theorem fk_ex : ∀ i, i < 10 → Cond.exactly (tmK i) "java/lang/String" ∈ fc0 := by decide +kernel
set_option maxRecDepth 40000 in
theorem fk_co : ∀ i, i < 10 → Cond.eq (.field (tmK i) "java/lang/String" "coder" "B") (.int 0) ∈ fc0 := by decide +kernel
set_option maxRecDepth 40000 in
theorem fk_ar : ∀ i, i < 10 → Cond.arrayOf (vlK i) .byte ∈ fc0 := by decide +kernel
set_option maxRecDepth 40000 in
theorem fk_le : ∀ i, i < 10 → Cond.eq (.length (vlK i)) (.int (Int32.ofNat (lenK.getD i 0))) ∈ fc0 := by decide +kernel
set_option maxRecDepth 40000 in
theorem fk_el : ∀ i, i < 10 → ∀ j, j < lenK.getD i 0 → Cond.eq (.elem (vlK i) (.int (Int32.ofNat j))) (.int ((bytK.getD i []).getD j 0)) ∈ fc0 := by decide +kernel
set_option maxRecDepth 40000 in
theorem fk_ne : ∀ i, i < 10 → ∀ j, j < 10 → i ≠ j → Cond.not (.eq (tmK i) (tmK j)) ∈ fc0 ∨ Cond.not (.eq (tmK j) (tmK i)) ∈ fc0 := by decide +kernel
set_option maxRecDepth 40000 in
theorem fk_d1l : (fc0.drop 115).take 100 = (List.range 100).map (fun j => Cond.eq (.elem dgT (.int (Int32.ofNat j))) (.int (dTn j))) := by decide +kernel
theorem fk_d1 : ∀ j, j < 100 → Cond.eq (.elem dgT (.int (Int32.ofNat j))) (.int (dTn j)) ∈ fc0 := fun j hj => List.mem_of_mem_drop (List.mem_of_mem_take (by rw [fk_d1l]; exact List.mem_map.mpr ⟨j, List.mem_range.mpr hj, rfl⟩))
set_option maxRecDepth 40000 in
theorem fk_d2l : (fc0.drop 12).take 100 = (List.range 100).map (fun j => Cond.eq (.elem dgO (.int (Int32.ofNat j))) (.int (dOn j))) := by decide +kernel
theorem fk_d2 : ∀ j, j < 100 → Cond.eq (.elem dgO (.int (Int32.ofNat j))) (.int (dOn j)) ∈ fc0 := fun j hj => List.mem_of_mem_drop (List.mem_of_mem_take (by rw [fk_d2l]; exact List.mem_map.mpr ⟨j, List.mem_range.mpr hj, rfl⟩))
set_option maxRecDepth 40000 in
theorem fk_ts : ∀ i, i < 10 → Cond.stringRef RL (kc i) (ktx i) ∈ lw_tbl := by decide +kernel
set_option maxRecDepth 40000 in
theorem at_E {s : State} {b : Nat} {A : Nat → Prop} (hts : ∀ w ∈ lw_tbl, w.before #[Value.ref b] s = true) (hgv : (Jvm.Cond.and given_1 narrow_1).before #[Value.ref b] s = true) (hA : ∀ a : Nat, a < s.heap.size → ¬ A a) : (∃ tb, EJ A tb s s.heap) ∧ ∃ aK aV, EC A aK aV s s.heap := by
  have hq : ∀ w ∈ fc0, w.before #[Value.ref b] s = true := flat_of_before _ hgv
  obtain ⟨adK, adV, h1, h2⟩ := vk_Sof (N := 10) (tm := tmK) (len := lenK) (byt := bytK) (A := A) (by decide) (fun i hi => hq _ (fk_ex i hi)) (fun i hi => hq _ (fk_co i hi)) (fun i hi => hq _ (fk_ar i hi)) (fun i hi => hq _ (fk_le i hi)) (fun i hi j hj => hq _ (fk_el i hi j hj)) (fun i j hi hj hij => (fk_ne i hi j hj hij).imp (hq _) (hq _)) hA
  obtain ⟨t1, e1, f1⟩ := va_Tof (tm := dgT) (ty := .byte) (N := 100) (f := fun j => .int (dTn j)) (A := A) (by decide) (hq (.arrayOf dgT .byte) (by decide +kernel)) (va_eqt (hq (.eq (.length dgT) (.int 100)) (by decide +kernel))) (fun j hj => va_eqt (hq _ (fk_d1 j hj))) hA
  obtain ⟨t2, e2, f2⟩ := va_Tof (tm := dgO) (ty := .byte) (N := 100) (f := fun j => .int (dOn j)) (A := A) (by decide) (hq (.arrayOf dgO .byte) (by decide +kernel)) (va_eqt (hq (.eq (.length dgO) (.int 100)) (by decide +kernel))) (fun j hj => va_eqt (hq _ (fk_d2 j hj))) hA
  refine ⟨⟨(t1, t2), va_Zof (hts (.laysStatic "java/lang/String" "COMPACT_STRINGS" "Z") (by decide +kernel)) (hts (.initialized "java/lang/String") (by decide +kernel)) (va_eqi (hq (.eq (.static "java/lang/String" "COMPACT_STRINGS" "Z") (.int 1)) (by decide +kernel))) hA,
    va_Zqof (hts (.laysStatic "jdk/internal/util/Preconditions" "SIOOBE_FORMATTER" "Ljava/util/function/BiFunction;") (by decide +kernel)) (hts (.initialized "jdk/internal/util/Preconditions") (by decide +kernel)) (hq (.isRef (.static "jdk/internal/util/Preconditions" "SIOOBE_FORMATTER" "Ljava/util/function/BiFunction;")) (by decide +kernel)) hA,
    ⟨va_Zref (hts (.laysStatic "java/lang/Integer" "DigitTens" "[B") (by decide +kernel)) (hts (.initialized "java/lang/Integer") (by decide +kernel)) e1 hA, f1⟩,
    ⟨va_Zref (hts (.laysStatic "java/lang/Integer" "DigitOnes" "[B") (by decide +kernel)) (hts (.initialized "java/lang/Integer") (by decide +kernel)) e2 hA, f2⟩, va_Nw.of rfl (hts (.castable "[B" "java/lang/Cloneable") (by decide +kernel))⟩, adK, adV, fun i hi => ⟨vk_R.of (hts _ (fk_ts i hi)) (h2 i hi), ?_⟩⟩
  have h3 := h1.1 i hi
  rcases (show i = 0 ∨ i = 1 ∨ i = 2 ∨ i = 3 ∨ i = 4 ∨ i = 5 ∨ i = 6 ∨ i = 7 ∨ i = 8 ∨ i = 9 by omega) with rfl | rfl | rfl | rfl | rfl | rfl | rfl | rfl | rfl | rfl
  all_goals
    refine sT.congr (t := fun j => (bytK.getD _ []).getD j 0) h3 ?_
    decide +kernel
