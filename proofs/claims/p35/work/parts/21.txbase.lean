/-! Texts: strings, builders, what stands still. -/
abbrev SC : String := "java/lang/String"
abbrev ABC : String := "java/lang/AbstractStringBuilder"
def sT (q v n : Nat) (t : Nat → Int32) (A : Nat → Prop) (U : State) (H : Heap) : Prop := va_O SC q A U H ∧ va_OF SC "coder" "B" (.int 0) q A U H ∧ va_OF SC "value" "[B" (.ref v) q A U H ∧ va_T .byte v n (fun j => .int (t j)) A U H
theorem sT.moved {q v n : Nat} {t : Nat → Int32} {A : Nat → Prop} {u U : State} {H : Heap} (hvm : u.vm.Alike U.vm) (h : sT q v n t A u H) : sT q v n t A U H := ⟨va_O.moved hvm h.1, va_OF.moved hvm h.2.1, va_OF.moved hvm h.2.2.1, va_T.moved hvm h.2.2.2⟩
theorem sT.kept {q v n : Nat} {t : Nat → Int32} {A : Nat → Prop} {U : State} {H H1 : Heap} (h : sT q v n t A U H) (hq : ∀ a : Nat, a < H.size → ¬ A a → H1[a]? = H[a]?) : sT q v n t A U H1 := ⟨h.1.kept hq, h.2.1.kept hq, h.2.2.1.kept hq, h.2.2.2.kept hq⟩
theorem sT.narrow {q v n : Nat} {t : Nat → Int32} {A B : Nat → Prop} {U : State} {H : Heap} (h : sT q v n t A U H) (hAB : ∀ q, B q → A q) : sT q v n t B U H := ⟨h.1.narrow hAB, h.2.1.narrow hAB, h.2.2.1.narrow hAB, h.2.2.2.narrow hAB⟩
theorem sT.of {q v n : Nat} {t : Nat → Int32} {A B : Nat → Prop} {U : State} {H : Heap} (h : sT q v n t A U H) (hq : ¬ B q) (hv : ¬ B v) : sT q v n t B U H := by
  obtain ⟨⟨c0, a1, a2, a3, -⟩, ⟨c1, k1, i1, f1, d1, b1, b2, b3, b4, b5, -⟩, ⟨c2, k2, i2, f2, d2, e1, e2, e3, e4, e5, -⟩, ⟨d3, g1, g2, g3, g4, g5, g6, -⟩⟩ := h
  exact ⟨⟨c0, a1, a2, a3, hq⟩, ⟨c1, k1, i1, f1, d1, b1, b2, b3, b4, b5, hq⟩, ⟨c2, k2, i2, f2, d2, e1, e2, e3, e4, e5, hq⟩, ⟨d3, g1, g2, g3, g4, g5, g6, hv⟩⟩
theorem sT.lt {q v n : Nat} {t : Nat → Int32} {A : Nat → Prop} {U : State} {H : Heap} (h : sT q v n t A U H) : q < H.size ∧ v < H.size := by
  obtain ⟨⟨c0, a1, -⟩, -, -, ⟨d3, g1, -⟩⟩ := h
  exact ⟨(Array.getElem?_eq_some_iff.mp a1).1, (Array.getElem?_eq_some_iff.mp g1).1⟩
theorem sT.stay {q v n : Nat} {t : Nat → Int32} {A : Nat → Prop} {U : State} {H H1 : Heap} (h : sT q v n t A U H) (hq : H1[q]? = H[q]?) (hv : H1[v]? = H[v]?) : sT q v n t A U H1 := by
  obtain ⟨⟨c0, a1, a2⟩, ⟨c1, k1, i1, f1, d1, b1, b2, b3, b4⟩, ⟨c2, k2, i2, f2, d2, e1, e2, e3, e4⟩, ⟨d3, g1, g2⟩⟩ := h
  exact ⟨⟨c0, by rw [hq]; exact a1, a2⟩, ⟨c1, k1, i1, f1, d1, b1, b2, by rw [hq]; exact b3, b4⟩, ⟨c2, k2, i2, f2, d2, e1, e2, by rw [hq]; exact e3, e4⟩, ⟨d3, by rw [hv]; exact g1, g2⟩⟩
theorem of_OF {s : State} {args : Array Value} {D : va_G} {cl : List vw_C} {tys : List (ClassId × FieldType)} {ws : va_W} {H : Heap} {C : String} {T : u_T} {N ci a : Nat} {Ts : List Cond} {A : Nat → Prop} (hts : ∀ w ∈ Ts, w.before args s = true) (hin : ∀ w ∈ u_ws C T N, w ∈ Ts) (hK : va_K D cl tys s) (hP : va_P D cl ws H) (q0 : Nat) {fs : List Value} (he : ws[q0]? = some (a, .inr (ci, fs))) (hc : cl[ci]? = some (C, T, N)) (k : Nat) (hk : k < N) {v : Value} (hv : fs[k]? = some v) (hA : ¬ A a) : va_OF (T k).1 (T k).2.1 (T k).2.2.1 v a A s H := by
  obtain ⟨r, h1, cell, q1, q2, q3, q4⟩ := hP q0 _ he
  have hr : r = (C, T, N) := Option.some.inj (h1.symm.trans hc)
  subst hr
  obtain ⟨hS, hfc, kC, hkC, hkind⟩ := hK.1 ci _ hc
  obtain ⟨cf, kf, fi, f, hi, hsl⟩ := hS k hk
  refine ⟨cf, kf, fi, f, cell, hi, (u_facts hfc hkC (u_lays hts hin hk) hi).1, q1, by rw [q3]; exact (fun h => by cases h), ?_, hA⟩
  rw [hsl, q4 k hk]
  simp [vp_V, hv]
theorem of_O {s : State} {D : va_G} {cl : List vw_C} {tys : List (ClassId × FieldType)} {ws : va_W} {H : Heap} {ci a : Nat} {q : vw_C} {A : Nat → Prop} (hK : va_K D cl tys s) (hP : va_P D cl ws H) (q0 : Nat) {fs : List Value} (he : ws[q0]? = some (a, .inr (ci, fs))) (hc : cl[ci]? = some q) (hA : ¬ A a) : va_O q.1 a A s H := by
  obtain ⟨cell, h1, h2, h3⟩ := va_recv hK hP hc he
  exact ⟨cell, h1, h2, h3, hA⟩
theorem of_T {s : State} {D : va_G} {cl : List vw_C} {tys : List (ClassId × FieldType)} {ws : va_W} {H : Heap} {a : Nat} {A : Nat → Prop} (hK : va_K D cl tys s) (hP : va_P D cl ws H) (q0 t0 : Nat) {cA : ClassId} {n : Nat} {f : Nat → Int32} (ha : ws[q0]? = some (a, .inl (cA, n, .inl f))) {ty : FieldType} (ht : tys[t0]? = some (cA, ty)) (hA : ¬ A a) : va_T ty a n (fun j => .int (f j)) A s H := by
  have h1 : H[a]? = some (arrV cA n (fun j => .int (f j))) := hP q0 _ ha
  refine ⟨_, h1, (hK.2 t0 _ ht).1 n _, (fun q => by cases q), by rw [arrV_size]; exact Nat.le_refl _, by rw [arrV_size], fun j hj => arrV_read _ _ hj, hA⟩
/-- a string just made -/
def ST (cy : Nat → ClassId) (q v n : Nat) (b : Nat → Int32) : va_W := [(q, .inr (7, [.ref v, .int 0, .int 0, .int 0])), (v, .inl (cy 4, n, .inl b))]
theorem ST_sT {s : State} {args : Array Value} {dC : Nat → ClassId} {dI : Nat → Nat → Nat} {cy : Nat → ClassId} {q v n : Nat} {b : Nat → Int32} {H : Heap} {Ts : List Cond} (hts : ∀ w ∈ Ts, w.before args s = true) (hin : ∀ w ∈ wsJ00, w ∈ Ts) (hK : va_K (dC, dI) vwCl (tysX cy) s) (hP : va_P (dC, dI) vwCl (ST cy q v n b) H) : sT q v n b (fun _ => False) s H :=
  ⟨of_O hK hP 0 rfl (ci := 7) rfl id, of_OF hts hin hK hP 0 rfl (ci := 7) rfl 1 (by decide) rfl id, of_OF hts hin hK hP 0 rfl (ci := 7) rfl 0 (by decide) rfl id, of_T hK hP 1 4 rfl rfl id⟩
/-- a builder and its row -/
def SB (cy : Nat → ClassId) (B V m : Nat) (a : Nat → Int32) (n : Nat) : va_W := [(B, .inr (8, [.ref V, .int 0, .int 0, .int (nI n)])), (V, .inl (cy 4, m, .inl a))]
theorem D1 {A : Nat → Prop} {x : Nat} {e : va_E} (hx : A x) : va_D A [(x, e)] := by
  refine ⟨fun i j p q hi hj _ => ?_, fun i p hi => ?_⟩
  · have h1 := (List.getElem?_eq_some_iff.mp hi).1
    have h2 := (List.getElem?_eq_some_iff.mp hj).1
    simp only [List.length_cons, List.length_nil] at h1 h2
    omega
  · match i, hi with
    | 0, hi => cases hi; exact hx
    | i + 1, hi => simp at hi
theorem D2 {A : Nat → Prop} {x y : Nat} {e f : va_E} (h : x ≠ y) (hx : A x) (hy : A y) : va_D A [(x, e), (y, f)] := by
  refine ⟨fun i j p q hi hj e0 => ?_, fun i p hi => ?_⟩
  · match i, hi, j, hj with
    | 0, _, 0, _ => rfl
    | 0, hi, 1, hj => cases hi; cases hj; exact absurd e0 h
    | 1, hi, 0, hj => cases hi; cases hj; exact absurd e0.symm h
    | 1, _, 1, _ => rfl
    | i + 2, hi, _, _ => simp at hi
    | 0, _, j + 2, hj => simp at hj
    | 1, _, j + 2, hj => simp at hj
  · match i, hi with
    | 0, hi => cases hi; exact hx
    | 1, hi => cases hi; exact hy
    | i + 2, hi => simp at hi
theorem P1 {D : va_G} {cl : List vw_C} {H : Heap} {x : Nat × va_E} (h : va_at D cl x H) : va_P D cl [x] H := fun k q hk => by
  match k, hk with
  | 0, hk => cases hk; exact h
  | k + 1, hk => simp at hk
theorem P2 {D : va_G} {cl : List vw_C} {H : Heap} {x y : Nat × va_E} (h : va_at D cl x H) (h2 : va_at D cl y H) : va_P D cl [x, y] H := fun k q hk => by
  match k, hk with
  | 0, hk => cases hk; exact h
  | 1, hk => cases hk; exact h2
  | k + 2, hk => simp at hk
/-- the rows of the digits -/
def dTn (k : Nat) : Int32 := nI (48 + k / 10)
def dOn (k : Nat) : Int32 := nI (48 + k % 10)
def EJ (A : Nat → Prop) (tb : Nat × Nat) (U : State) (H : Heap) : Prop :=
  va_Z SC "COMPACT_STRINGS" "Z" (.int 1) A U H ∧ va_Zq "jdk/internal/util/Preconditions" "SIOOBE_FORMATTER" "Ljava/util/function/BiFunction;" A U H ∧
  (va_Z "java/lang/Integer" "DigitTens" "[B" (.ref tb.1) A U H ∧ va_T .byte tb.1 100 (fun j => .int (dTn j)) A U H) ∧ (va_Z "java/lang/Integer" "DigitOnes" "[B" (.ref tb.2) A U H ∧ va_T .byte tb.2 100 (fun j => .int (dOn j)) A U H) ∧ va_Nw (.castable "[B" "java/lang/Cloneable") U
theorem EJ.moved {A : Nat → Prop} {tb : Nat × Nat} {s U : State} {H : Heap} (h : EJ A tb s H) (hvm : s.vm.Alike U.vm) (hN : va_Nw (.castable "[B" "java/lang/Cloneable") U) : EJ A tb U H := by
  obtain ⟨h3, h4, h5, h6, -⟩ := h
  exact ⟨va_Z.moved hvm h3, va_Zq.moved hvm h4, ⟨va_Z.moved hvm h5.1, va_T.moved hvm h5.2⟩, ⟨va_Z.moved hvm h6.1, va_T.moved hvm h6.2⟩, hN⟩
theorem EJ.kept {A : Nat → Prop} {tb : Nat × Nat} {U : State} {H H1 : Heap} (h : EJ A tb U H) (hq : ∀ a : Nat, a < H.size → ¬ A a → H1[a]? = H[a]?) : EJ A tb U H1 := by
  obtain ⟨h3, h4, h5, h6, h7⟩ := h
  exact ⟨va_Z.kept h3 hq, va_Zq.kept h4 hq, ⟨va_Z.kept h5.1 hq, va_T.kept h5.2 hq⟩, ⟨va_Z.kept h6.1 hq, va_T.kept h6.2 hq⟩, h7⟩
theorem va_Zq.narrow2 {C n d : String} {A B : Nat → Prop} {U : State} {H : Heap} (h : va_Zq C n d A U H) (hAB : ∀ q, B q → A q) : va_Zq C n d B U H := by
  rcases h with h | ⟨t, h⟩
  · exact Or.inl (va_Z.narrow h hAB)
  · exact Or.inr ⟨t, va_Z.narrow h hAB⟩
theorem EJ.narrow {A B : Nat → Prop} {tb : Nat × Nat} {U : State} {H : Heap} (h : EJ A tb U H) (hAB : ∀ q, B q → A q) : EJ B tb U H := by
  obtain ⟨h3, h4, h5, h6, h7⟩ := h
  exact ⟨va_Z.narrow h3 hAB, va_Zq.narrow2 h4 hAB, ⟨va_Z.narrow h5.1 hAB, va_T.narrow h5.2 hAB⟩, ⟨va_Z.narrow h6.1 hAB, va_T.narrow h6.2 hAB⟩, h7⟩
/-- at a call: what stands still, from the start s to the state U in which the callee begins -/
theorem EJ.go {A A2 B : Nat → Prop} {tb : Nat × Nat} {s U : State} {H : Heap} {locs : List Loc} (h : EJ A tb s s.heap) (hS : va_S A2 s.heap H locs) (hU : U.heap = H) (hW : s.WarmedH U.vm) (hAB : ∀ q, B q → A q) (hA2 : ∀ q, A2 q → A q := by first | exact fun _ h => h | exact fun _ h => h.elim) : EJ B tb U U.heap := by
  rw [hU]
  exact ((h.kept (fun a h1 h2 => hS.2.1 a h1 (fun z => h2 (hA2 a z)))).moved hW.alike (va_Nw.warmC hW h.2.2.2.2)).narrow hAB
theorem sT.go {q v n : Nat} {t : Nat → Int32} {A A2 B : Nat → Prop} {s U : State} {H : Heap} {locs : List Loc} (h : sT q v n t A s s.heap) (hS : va_S A2 s.heap H locs) (hU : U.heap = H) (hW : s.WarmedH U.vm) (hAB : ∀ q, B q → A q) (hA2 : ∀ q, A2 q → A q := by first | exact fun _ h => h | exact fun _ h => h.elim) : sT q v n t B U U.heap := by
  rw [hU]
  exact ((h.kept (fun a h1 h2 => hS.2.1 a h1 (fun z => h2 (hA2 a z)))).moved hW.alike).narrow hAB
/-- contracts' starts -/
def PcJ (av : List Value) (sz : Nat) (D : va_G) (cy : Nat → ClassId) (w : va_W) (A : Nat → Prop) (tb : Nat × Nat) : Array Value → State → Prop := va_Pc av (fun U => U.heap.size = sz ∧ va_P D vwCl w U.heap ∧ va_K D vwCl (tysX cy) U ∧ EJ A tb U U.heap)
theorem PcJ_blind {av : List Value} {sz : Nat} {D : va_G} {cy : Nat → ClassId} {w : va_W} {A : Nat → Prop} {tb : Nat × Nat} : FrameBlind (PcJ av sz D cy w A tb) := fun a U g mk q => by
  obtain ⟨q0, qz, qP, qK, qE⟩ := q
  exact ⟨q0, qz, qP, va_K.moved (u := U) (U := U.calling g mk a) (Vm.Alike.refl U.vm) qK, EJ.moved (s := U) (U := U.calling g mk a) qE (Vm.Alike.refl U.vm) (va_Nw.same (u := U) rfl rfl qE.2.2.2.2)⟩
def PcS (av : List Value) (sz : Nat) (D : va_G) (cy : Nat → ClassId) (w : va_W) (A : Nat → Prop) (tb : Nat × Nat) (q v n : Nat) (t : Nat → Int32) : Array Value → State → Prop := va_Pc av (fun U => U.heap.size = sz ∧ va_P D vwCl w U.heap ∧ va_K D vwCl (tysX cy) U ∧ EJ A tb U U.heap ∧ sT q v n t A U U.heap)
theorem PcS_blind {av : List Value} {sz : Nat} {D : va_G} {cy : Nat → ClassId} {w : va_W} {A : Nat → Prop} {tb : Nat × Nat} {q v n : Nat} {t : Nat → Int32} : FrameBlind (PcS av sz D cy w A tb q v n t) := fun a U g mk q => by
  obtain ⟨q0, qz, qP, qK, qE, qS⟩ := q
  exact ⟨q0, qz, qP, va_K.moved (u := U) (U := U.calling g mk a) (Vm.Alike.refl U.vm) qK, EJ.moved (s := U) (U := U.calling g mk a) qE (Vm.Alike.refl U.vm) (va_Nw.same (u := U) rfl rfl qE.2.2.2.2), sT.moved (u := U) (U := U.calling g mk a) (Vm.Alike.refl U.vm) qS⟩
theorem T_blind {av : List Value} : FrameBlind (va_Pc av (fun _ => True)) := fun a U g mk q => ⟨q.1, trivial⟩
theorem nI_max2 {a b : Nat} (ha : a < 2 ^ 31) (hb : b < 2 ^ 31) : (if nI a < nI b then nI b else nI a) = nI (if a < b then b else a) := by
  by_cases h : a < b
  · rw [if_pos h, if_pos ((nI_ltI ha hb).mpr h)]
  · rw [if_neg h, if_neg (fun q => h ((nI_ltI ha hb).mp q))]
theorem sT.recv {q v n : Nat} {t : Nat → Int32} {A A2 : Nat → Prop} {s : State} {H : Heap} {locs : List Loc} (h : sT q v n t A s s.heap) (hS : va_S A2 s.heap H locs) (hA2 : ∀ q, A2 q → A q := by first | exact fun _ h => h | exact fun _ h => h.elim) : ∃ cell : Cell, H[q]? = some cell ∧ cell.vm.isStatics = false ∧ s.vm.findClass "java/lang/String" = some cell.cls := by
  obtain ⟨⟨c0, a1, a2, a3, a4⟩, -⟩ := h
  exact ⟨c0, by rw [hS.2.1 q (Array.getElem?_eq_some_iff.mp a1).1 (fun z => a4 (hA2 q z))]; exact a1, a2, a3⟩
theorem nI_min2 {a b : Nat} (h : a ≤ b) (hb : b < 2 ^ 31) : (if nI a < nI b then nI a else nI b) = nI a := by
  by_cases e : a < b
  · rw [if_pos ((nI_ltI (by omega) hb).mpr e)]
  · rw [if_neg (fun q => e ((nI_ltI (by omega) hb).mp q)), show b = a by omega]
