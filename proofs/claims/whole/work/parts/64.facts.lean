/-! What the law's start gives: classes, rows, texts. -/
theorem arr_i {s : State} {args : Array Value} (h : (Cond.arrayClass .int).before args s = true) : ∃ cA, ArrOfT s cA .int ∧ va_RA s cA .int := by
  obtain ⟨cA, kA, comp, h1, h2, h3⟩ := Cond.arrayClass_spec h
  exact ⟨cA, fun n z => ⟨fun k h => (by cases h), kA, h2, comp, h3⟩, h1⟩
theorem arr_z {s : State} {args : Array Value} (h : (Cond.arrayClass .boolean).before args s = true) : ∃ cA, ArrOfT s cA .boolean ∧ va_RA s cA .boolean := by
  obtain ⟨cA, kA, comp, h1, h2, h3⟩ := Cond.arrayClass_spec h
  exact ⟨cA, fun n z => ⟨fun k h => (by cases h), kA, h2, comp, h3⟩, h1⟩
theorem arr_c {s : State} {args : Array Value} (h : (Cond.arrayClass .char).before args s = true) : ∃ cA, ArrOfT s cA .char ∧ va_RA s cA .char := by
  obtain ⟨cA, kA, comp, h1, h2, h3⟩ := Cond.arrayClass_spec h
  exact ⟨cA, fun n z => ⟨fun k h => (by cases h), kA, h2, comp, h3⟩, h1⟩
theorem arr_q {s : State} {args : Array Value} {C : String} (h : (Cond.arrayOver (.object C)).before args s = true) : ∃ cA, ArrOfT s cA (.object C) ∧ va_RA s cA (.object C) := by
  obtain ⟨comp, cA, kA, h1, -, h2, h3, h4⟩ := Cond.arrayOver_spec h
  exact ⟨cA, fun n z => ⟨fun k h => (by cases h), kA, h2, comp, h3⟩, kA, comp, h2, h3, h1, h4⟩
theorem at_K {s : State} {args : Array Value} (hts : ∀ w ∈ lw_tbl, w.before args s = true) : ∃ (dC : Nat → ClassId) (dI : Nat → Nat → Nat) (cy : Nat → ClassId), va_K (dC, dI) vwCl (tysX cy) s := by
  obtain ⟨c0, i0, k0⟩ := u_known (C := RX0) (T := TX0) (N := 10) (n := 10) hts wsX00_in (hts (.instantiable RX0 10) (by decide +kernel))
  obtain ⟨c1, i1, k1⟩ := u_known (C := RX1) (T := TX1) (N := 8) (n := 8) hts wsX10_in (hts (.instantiable RX1 8) (by decide +kernel))
  obtain ⟨c2, i2, k2⟩ := u_known (C := RX2) (T := TX2) (N := 3) (n := 3) hts wsX20_in (hts (.instantiable RX2 3) (by decide +kernel))
  obtain ⟨c3, i3, k3⟩ := u_known (C := RX3) (T := TX3) (N := 2) (n := 2) hts wsX30_in (hts (.instantiable RX3 2) (by decide +kernel))
  obtain ⟨c4, i4, k4⟩ := u_known (C := RX4) (T := TX4) (N := 9) (n := 9) hts wsX40_in (hts (.instantiable RX4 9) (by decide +kernel))
  obtain ⟨c5, i5, k5⟩ := u_known (C := RX5) (T := TX5) (N := 6) (n := 6) hts wsX50_in (hts (.instantiable RX5 6) (by decide +kernel))
  obtain ⟨c6, i6, k6⟩ := u_known (C := RX6) (T := TX6) (N := 12) (n := 12) hts wsX60_in (hts (.instantiable RX6 12) (by decide +kernel))
  obtain ⟨c7, i7, k7⟩ := u_known (C := RX7) (T := TX7) (N := 25) (n := 25) hts wsX70_in (hts (.instantiable RX7 25) (by decide +kernel))
  obtain ⟨a0, ha0⟩ := arr_i (hts (.arrayClass .int) (by decide +kernel))
  obtain ⟨a1, ha1⟩ := arr_z (hts (.arrayClass .boolean) (by decide +kernel))
  obtain ⟨a2, ha2⟩ := arr_c (hts (.arrayClass .char) (by decide +kernel))
  obtain ⟨a3, ha3⟩ := arr_q (hts (.arrayOver (.object RX1)) (by decide +kernel))
  refine ⟨fun k => [c0, c1, c2, c3, c4, c5, c6, c7].getD k c0, fun k => [i0, i1, i2, i3, i4, i5, i6, i7].getD k i0, fun k => [a0, a1, a2, a3].getD k a0, fun k q hq => ?_, fun k q hq => ?_⟩
  · match k, hq with
    | 0, hq => cases hq; exact k0
    | 1, hq => cases hq; exact k1
    | 2, hq => cases hq; exact k2
    | 3, hq => cases hq; exact k3
    | 4, hq => cases hq; exact k4
    | 5, hq => cases hq; exact k5
    | 6, hq => cases hq; exact k6
    | 7, hq => cases hq; exact k7
    | k + 8, hq => simp [vwCl] at hq
  · match k, hq with
    | 0, hq => cases hq; exact ha0
    | 1, hq => cases hq; exact ha1
    | 2, hq => cases hq; exact ha2
    | 3, hq => cases hq; exact ha3
    | k + 4, hq => simp at hq
abbrev tmS (i : Nat) : Term := .string RX5 (kS i)
abbrev vlS (i : Nat) : Term := .field (tmS i) "java/lang/String" "value" "[B"
abbrev dg1 : Term := .static RX5 "DIGITS_OF_FIRST" "[I"
abbrev dg2 : Term := .static RX5 "DIGITS_OF_SECOND" "[I"
abbrev fc0 : List Cond := flatC (Jvm.Cond.and given_1 narrow_1)
set_option maxRecDepth 20000 in
theorem fc_ex : ∀ i, i < 8 → Cond.exactly (tmS i) "java/lang/String" ∈ fc0 := by decide +kernel
set_option maxRecDepth 20000 in
theorem fc_co : ∀ i, i < 8 → Cond.eq (.field (tmS i) "java/lang/String" "coder" "B") (.int 0) ∈ fc0 := by decide +kernel
set_option maxRecDepth 20000 in
theorem fc_ar : ∀ i, i < 8 → Cond.arrayOf (vlS i) .byte ∈ fc0 := by decide +kernel
set_option maxRecDepth 20000 in
theorem fc_le : ∀ i, i < 8 → Cond.eq (.length (vlS i)) (.int (Int32.ofNat (lenS.getD i 0))) ∈ fc0 := by decide +kernel
set_option maxRecDepth 20000 in
theorem fc_el : ∀ i, i < 8 → ∀ j, j < lenS.getD i 0 → Cond.eq (.elem (vlS i) (.int (Int32.ofNat j))) (.int ((bytS.getD i []).getD j 0)) ∈ fc0 := by decide +kernel
set_option maxRecDepth 20000 in
theorem fc_ne : ∀ i, i < 8 → ∀ j, j < 8 → i ≠ j → Cond.not (.eq (tmS i) (tmS j)) ∈ fc0 ∨ Cond.not (.eq (tmS j) (tmS i)) ∈ fc0 := by decide +kernel
set_option maxRecDepth 20000 in
theorem fc_d1 : ∀ j, j < 8 → Cond.eq (.elem dg1 (.int (Int32.ofNat j))) (.int (dgF j)) ∈ fc0 := by decide +kernel
set_option maxRecDepth 20000 in
theorem fc_d2 : ∀ j, j < 8 → Cond.eq (.elem dg2 (.int (Int32.ofNat j))) (.int (dgS j)) ∈ fc0 := by decide +kernel
set_option maxRecDepth 20000 in
theorem tb_s : ∀ i, i < 8 → Cond.stringRef RX5 (kS i) (txS i) ∈ lw_tbl := by decide +kernel
set_option maxRecDepth 20000 in
theorem at_EX {s : State} {b : Nat} {A : Nat → Prop} (hts : ∀ w ∈ lw_tbl, w.before #[Value.ref b] s = true) (hgv : (Jvm.Cond.and given_1 narrow_1).before #[Value.ref b] s = true) (hA : ∀ a : Nat, a < s.heap.size → ¬ A a) : ∃ sa : SA, EX A sa s s.heap := by
  have hq : ∀ w ∈ fc0, w.before #[Value.ref b] s = true := flat_of_before _ hgv
  obtain ⟨adK, adV, h1, h2⟩ := vk_Sof (N := 8) (tm := tmS) (len := lenS) (byt := bytS) (A := A) (by decide) (fun i hi => hq _ (fc_ex i hi)) (fun i hi => hq _ (fc_co i hi)) (fun i hi => hq _ (fc_ar i hi)) (fun i hi => hq _ (fc_le i hi)) (fun i hi j hj => hq _ (fc_el i hi j hj)) (fun i j hi hj hij => (fc_ne i hi j hj hij).imp (hq _) (hq _)) hA
  obtain ⟨t1, e1, f1⟩ := va_Tof (tm := dg1) (ty := .int) (N := 8) (f := fun j => .int (dgF j)) (A := A) (by decide) (hq (.arrayOf dg1 .int) (by decide +kernel)) (va_eqt (hq (.eq (.length dg1) (.int 8)) (by decide +kernel))) (fun j hj => va_eqt (hq _ (fc_d1 j hj))) hA
  obtain ⟨t2, e2, f2⟩ := va_Tof (tm := dg2) (ty := .int) (N := 8) (f := fun j => .int (dgS j)) (A := A) (by decide) (hq (.arrayOf dg2 .int) (by decide +kernel)) (va_eqt (hq (.eq (.length dg2) (.int 8)) (by decide +kernel))) (fun j hj => va_eqt (hq _ (fc_d2 j hj))) hA
  exact ⟨(adK, adV, t1, t2), fun i hi => vk_R.of (hts _ (tb_s i hi)) (h2 i hi), h1,
    va_Zof (hts (.laysStatic "java/lang/String" "COMPACT_STRINGS" "Z") (by decide +kernel)) (hts (.initialized "java/lang/String") (by decide +kernel)) (va_eqi (hq (.eq (.static "java/lang/String" "COMPACT_STRINGS" "Z") (.int 1)) (by decide +kernel))) hA,
    va_Zqof (hts (.laysStatic "jdk/internal/util/Preconditions" "SIOOBE_FORMATTER" "Ljava/util/function/BiFunction;") (by decide +kernel)) (hts (.initialized "jdk/internal/util/Preconditions") (by decide +kernel)) (hq (.isRef (.static "jdk/internal/util/Preconditions" "SIOOBE_FORMATTER" "Ljava/util/function/BiFunction;")) (by decide +kernel)) hA,
    ⟨va_Zref (hts (.laysStatic RX5 "DIGITS_OF_FIRST" "[I") (by decide +kernel)) (hts (.initialized RX5) (by decide +kernel)) e1 hA, f1⟩,
    ⟨va_Zref (hts (.laysStatic RX5 "DIGITS_OF_SECOND" "[I") (by decide +kernel)) (hts (.initialized RX5) (by decide +kernel)) e2 hA, f2⟩⟩
