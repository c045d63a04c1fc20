/-! The law's context: what is fixed (LF), a turn's arrays (LT), the world at a point (LWd); rows over them. -/
def LF (p : Program) (s : State) (m : MethodId) (c : Code) (dC : Nat → ClassId) (dI : Nat → Nat → Nat) (cy : Nat → ClassId) (tb : Nat × Nat) (adX : Nat → Nat) (aK aV : Nat → Nat) (zX b bL : Nat) (xs : Nat → Int32) : Prop :=
  (CallFix p m c cL_law 31 s #[Value.ref b] wsL_law RL) ∧ (va_X b bL xs s s.heap) ∧ (b < s.heap.size) ∧ (va_K (dC, dI) vwCl (tysX cy) s) ∧ (WJ 93 adX) ∧ (∀ q, WA 93 adX q → s.heap.size ≤ q ∧ q < zX) ∧ (EJ (fun q => s.heap.size ≤ q) tb s s.heap) ∧ (EC (fun q => s.heap.size ≤ q) aK aV s s.heap) ∧ (s.heap.size ≤ zX)
theorem LF.S {p : Program} {s : State} {m : MethodId} {c : Code} {dC : Nat → ClassId} {dI : Nat → Nat → Nat} {cy : Nat → ClassId} {tb : Nat × Nat} {adX : Nat → Nat} {aK aV : Nat → Nat} {zX b bL : Nat} {xs : Nat → Int32} (h : LF p s m c dC dI cy tb adX aK aV zX b bL xs) : CallFix p m c cL_law 31 s #[Value.ref b] wsL_law RL := h.1
theorem LF.X {p : Program} {s : State} {m : MethodId} {c : Code} {dC : Nat → ClassId} {dI : Nat → Nat → Nat} {cy : Nat → ClassId} {tb : Nat × Nat} {adX : Nat → Nat} {aK aV : Nat → Nat} {zX b bL : Nat} {xs : Nat → Int32} (h : LF p s m c dC dI cy tb adX aK aV zX b bL xs) : va_X b bL xs s s.heap := h.2.1
theorem LF.bl {p : Program} {s : State} {m : MethodId} {c : Code} {dC : Nat → ClassId} {dI : Nat → Nat → Nat} {cy : Nat → ClassId} {tb : Nat × Nat} {adX : Nat → Nat} {aK aV : Nat → Nat} {zX b bL : Nat} {xs : Nat → Int32} (h : LF p s m c dC dI cy tb adX aK aV zX b bL xs) : b < s.heap.size := h.2.2.1
theorem LF.K {p : Program} {s : State} {m : MethodId} {c : Code} {dC : Nat → ClassId} {dI : Nat → Nat → Nat} {cy : Nat → ClassId} {tb : Nat × Nat} {adX : Nat → Nat} {aK aV : Nat → Nat} {zX b bL : Nat} {xs : Nat → Int32} (h : LF p s m c dC dI cy tb adX aK aV zX b bL xs) : va_K (dC, dI) vwCl (tysX cy) s := h.2.2.2.1
theorem LF.J {p : Program} {s : State} {m : MethodId} {c : Code} {dC : Nat → ClassId} {dI : Nat → Nat → Nat} {cy : Nat → ClassId} {tb : Nat × Nat} {adX : Nat → Nat} {aK aV : Nat → Nat} {zX b bL : Nat} {xs : Nat → Int32} (h : LF p s m c dC dI cy tb adX aK aV zX b bL xs) : WJ 93 adX := h.2.2.2.2.1
theorem LF.B {p : Program} {s : State} {m : MethodId} {c : Code} {dC : Nat → ClassId} {dI : Nat → Nat → Nat} {cy : Nat → ClassId} {tb : Nat × Nat} {adX : Nat → Nat} {aK aV : Nat → Nat} {zX b bL : Nat} {xs : Nat → Int32} (h : LF p s m c dC dI cy tb adX aK aV zX b bL xs) : ∀ q, WA 93 adX q → s.heap.size ≤ q ∧ q < zX := h.2.2.2.2.2.1
theorem LF.E {p : Program} {s : State} {m : MethodId} {c : Code} {dC : Nat → ClassId} {dI : Nat → Nat → Nat} {cy : Nat → ClassId} {tb : Nat × Nat} {adX : Nat → Nat} {aK aV : Nat → Nat} {zX b bL : Nat} {xs : Nat → Int32} (h : LF p s m c dC dI cy tb adX aK aV zX b bL xs) : EJ (fun q => s.heap.size ≤ q) tb s s.heap := h.2.2.2.2.2.2.1
theorem LF.C {p : Program} {s : State} {m : MethodId} {c : Code} {dC : Nat → ClassId} {dI : Nat → Nat → Nat} {cy : Nat → ClassId} {tb : Nat × Nat} {adX : Nat → Nat} {aK aV : Nat → Nat} {zX b bL : Nat} {xs : Nat → Int32} (h : LF p s m c dC dI cy tb adX aK aV zX b bL xs) : EC (fun q => s.heap.size ≤ q) aK aV s s.heap := h.2.2.2.2.2.2.2.1
theorem LF.zz {p : Program} {s : State} {m : MethodId} {c : Code} {dC : Nat → ClassId} {dI : Nat → Nat → Nat} {cy : Nat → ClassId} {tb : Nat × Nat} {adX : Nat → Nat} {aK aV : Nat → Nat} {zX b bL : Nat} {xs : Nat → Int32} (h : LF p s m c dC dI cy tb adX aK aV zX b bL xs) : s.heap.size ≤ zX := h.2.2.2.2.2.2.2.2
def LT (NT : Nat) (adT : Nat → Nat) (zX zT : Nat) : Prop :=
  (NT ≤ 8) ∧ (∀ q, WA NT adT q → zX ≤ q ∧ q < zT) ∧ (WJ NT adT) ∧ (zX ≤ zT)
theorem LT.n {NT : Nat} {adT : Nat → Nat} {zX zT : Nat} (h : LT NT adT zX zT) : NT ≤ 8 := h.1
theorem LT.B {NT : Nat} {adT : Nat → Nat} {zX zT : Nat} (h : LT NT adT zX zT) : ∀ q, WA NT adT q → zX ≤ q ∧ q < zT := h.2.1
theorem LT.J {NT : Nat} {adT : Nat → Nat} {zX zT : Nat} (h : LT NT adT zX zT) : WJ NT adT := h.2.2.1
theorem LT.zz {NT : Nat} {adT : Nat → Nat} {zX zT : Nat} (h : LT NT adT zX zT) : zX ≤ zT := h.2.2.2
def KG (zT : Nat) (G : Heap → Prop) : Prop := ∀ H H1 : Heap, zT ≤ H.size → H.size ≤ H1.size → (∀ q, zT ≤ q → q < H.size → H1[q]? = H[q]?) → G H → G H1
theorem KG.T (zT : Nat) : KG zT (fun _ => True) := fun _ _ _ _ _ _ => trivial
theorem KG.L (D : va_G) (cy : Nat → ClassId) (aL n : Nat) (qs vs : Nat → Nat) (T : Nat → List Nat) (zT : Nat) (s : State) : KG zT (fun H => LnA D cy aL n qs vs T zT H.size s H) := fun _ _ _ _ hk h => (h.keep hk).top
theorem KG.S (q v : Nat) (l : List Nat) (zT : Nat) (s : State) : KG zT (fun H => StA q v l zT H.size s H) := fun _ _ _ _ hk h => (h.keep hk).top
theorem KG.and {zT : Nat} {G G2 : Heap → Prop} (h : KG zT G) (h2 : KG zT G2) : KG zT (fun H => G H ∧ G2 H) := fun H H1 a b c d => ⟨h H H1 a b c d.1, h2 H H1 a b c d.2⟩
def LWd (s : State) (dC : Nat → ClassId) (dI : Nat → Nat → Nat) (cy : Nat → ClassId) (adX : Nat → Nat) (NT : Nat) (adT : Nat → Nat) (zT : Nat) (G : Heap → Prop) (σ τ : St) (H : Heap) (locs : List Loc) : Prop :=
  (va_P (dC, dI) vwCl (wd 93 adX (layX adX cy) σ) H) ∧ (va_P (dC, dI) vwCl (wd NT adT (layT cy) τ) H) ∧ (G H) ∧ (va_S (fun q => s.heap.size ≤ q) s.heap H locs) ∧ (zT ≤ H.size)
theorem LWd.X {s : State} {dC : Nat → ClassId} {dI : Nat → Nat → Nat} {cy : Nat → ClassId} {adX : Nat → Nat} {NT : Nat} {adT : Nat → Nat} {zT : Nat} {G : Heap → Prop} {σ τ : St} {H : Heap} {locs : List Loc} (h : LWd s dC dI cy adX NT adT zT G σ τ H locs) : va_P (dC, dI) vwCl (wd 93 adX (layX adX cy) σ) H := h.1
theorem LWd.T {s : State} {dC : Nat → ClassId} {dI : Nat → Nat → Nat} {cy : Nat → ClassId} {adX : Nat → Nat} {NT : Nat} {adT : Nat → Nat} {zT : Nat} {G : Heap → Prop} {σ τ : St} {H : Heap} {locs : List Loc} (h : LWd s dC dI cy adX NT adT zT G σ τ H locs) : va_P (dC, dI) vwCl (wd NT adT (layT cy) τ) H := h.2.1
theorem LWd.g {s : State} {dC : Nat → ClassId} {dI : Nat → Nat → Nat} {cy : Nat → ClassId} {adX : Nat → Nat} {NT : Nat} {adT : Nat → Nat} {zT : Nat} {G : Heap → Prop} {σ τ : St} {H : Heap} {locs : List Loc} (h : LWd s dC dI cy adX NT adT zT G σ τ H locs) : G H := h.2.2.1
theorem LWd.S {s : State} {dC : Nat → ClassId} {dI : Nat → Nat → Nat} {cy : Nat → ClassId} {adX : Nat → Nat} {NT : Nat} {adT : Nat → Nat} {zT : Nat} {G : Heap → Prop} {σ τ : St} {H : Heap} {locs : List Loc} (h : LWd s dC dI cy adX NT adT zT G σ τ H locs) : va_S (fun q => s.heap.size ≤ q) s.heap H locs := h.2.2.2.1
theorem LWd.z {s : State} {dC : Nat → ClassId} {dI : Nat → Nat → Nat} {cy : Nat → ClassId} {adX : Nat → Nat} {NT : Nat} {adT : Nat → Nat} {zT : Nat} {G : Heap → Prop} {σ τ : St} {H : Heap} {locs : List Loc} (h : LWd s dC dI cy adX NT adT zT G σ τ H locs) : zT ≤ H.size := h.2.2.2.2
section LX
variable {p : Program} {l : Launch} {e : Env} {R : Room} {s : State} {m : MethodId} {below : List Frame} {meth : Method} {c : Code} {H : Heap} {locs : List Loc} {cells slots : Nat} {Q : State → Prop}
variable {pc : Nat} {ls : Array Slot} {rest st : List Value} {dC : Nat → ClassId} {dI : Nat → Nat → Nat} {cy : Nat → ClassId} {tb : Nat × Nat} {aK aV : Nat → Nat} {b bL : Nat} {xs : Nat → Int32}
variable {adX adT : Nat → Nat} {σ σ' τ : St} {r : Int32} {NT zX zT : Nat} {G : Heap → Prop}
variable {ws : List Cond} {bytes : ByteArray} {maxL index n : Nat} {C : String} {y : MethodName} {ret : Option FieldType} {rm : Room} {As : List Value}
theorem LWd.still {H1 : Heap} {locs1 : List Loc} (hw : LWd s dC dI cy adX NT adT zT G σ τ H locs) (kg : KG zT G) (hz : H.size ≤ H1.size) (hk : ∀ q, q < H.size → H1[q]? = H[q]?) (hS : va_S (fun q => s.heap.size ≤ q) s.heap H1 locs1) : LWd s dC dI cy adX NT adT zT G σ τ H1 locs1 :=
  ⟨hw.X.kept (fun k x hx => hk x.1 (hw.X k x hx).lt), hw.T.kept (fun k x hx => hk x.1 (hw.T k x hx).lt), kg H H1 hw.z hz (fun q _ h => hk q h) hw.g, hS, Nat.le_trans hw.z hz⟩
theorem LWd.moved {H1 : Heap} {locs1 : List Loc} (T : LT NT adT zX zT) (hw : LWd s dC dI cy adX NT adT zT G σ τ H locs) (kg : KG zT G) (hP : va_P (dC, dI) vwCl (wd 93 adX (layX adX cy) σ') H1) (hz : H.size ≤ H1.size) (hk : ∀ q, zX ≤ q → q < H.size → H1[q]? = H[q]?) (hS : va_S (fun q => s.heap.size ≤ q) s.heap H1 locs1) : LWd s dC dI cy adX NT adT zT G σ' τ H1 locs1 :=
  ⟨hP, kW hw.T (fun q hq hlt => hk q (T.B q hq).1 hlt), kg H H1 hw.z hz (fun q h1 h2 => hk q (Nat.le_trans T.zz h1) h2) hw.g, hS, Nat.le_trans hw.z hz⟩
theorem lx_i (F : LF p s m c dC dI cy tb adX aK aV zX b bL xs) (T : LT NT adT zX zT) (kg : KG zT G) (hM : CMi l y ws rm (dC, dI) (tysX cy) 93 adX (layX adX cy) (.ref (adX 0) :: As) σ r σ') (cw : CallW R s #[Value.ref b] RL RX6 index y bytes maxL ret ws rm 0 0 n) (hw : LWd s dC dI cy adX NT adT zT G σ τ H locs)
    (hst : st = As.reverse ++ .ref (adX 0) :: rest) (hn : As.length = n) (hsize : ls.size = 31) (hW : (rest.map fun v => v.category).sum ≤ 8) (hf : cells ≤ R.cells ∧ slots ≤ R.slots) (hdg : decode cL_law pc = .ok (.invokevirtual index, 3))
    (kk : ∀ (H1 : Heap) (locs1 : List Loc), LWd s dC dI cy adX NT adT zT G σ' τ H1 locs1 → W p l e R s m #[Value.ref b] below meth c H1 locs1 cells slots Q (F0 m (pc + 3) ls (.int r :: rest))) : W p l e R s m #[Value.ref b] below meth c H locs cells slots Q (F0 m pc ls st) :=
  xw_i F.S F.B hM cw F.K hw.X hw.S hst hn hsize hW hf hdg (fun H1 locs1 hP hS hz hk => kk H1 locs1 (hw.moved T kg hP hz hk hS))
theorem lx_si (F : LF p s m c dC dI cy tb adX aK aV zX b bL xs) (T : LT NT adT zX zT) (kg : KG zT G) (hM : CMi l y ws rm (dC, dI) (tysX cy) 93 adX (layX adX cy) As σ r σ') (cw : CallB R s #[Value.ref b] RL index y bytes maxL ret ws rm 0 0 n ∧ (Cond.static y).before #[Value.ref b] s = true) (hw : LWd s dC dI cy adX NT adT zT G σ τ H locs)
    (hst : st = As.reverse ++ rest) (hn : As.length = n) (hsize : ls.size = 31) (hW : (rest.map fun v => v.category).sum ≤ 8) (hf : cells ≤ R.cells ∧ slots ≤ R.slots) (hdg : decode cL_law pc = .ok (.invokestatic index, 3))
    (kk : ∀ (H1 : Heap) (locs1 : List Loc), LWd s dC dI cy adX NT adT zT G σ' τ H1 locs1 → W p l e R s m #[Value.ref b] below meth c H1 locs1 cells slots Q (F0 m (pc + 3) ls (.int r :: rest))) : W p l e R s m #[Value.ref b] below meth c H locs cells slots Q (F0 m pc ls st) := by
  subst hst
  refine va_calli (va_runS (As := As) (rest := rest) F.S hM cw ⟨Pcw_blind, fun U hU hW => ⟨rfl, by rw [hU]; exact hw.X, va_K.moved hW.alike F.K⟩⟩ rfl hn hsize rfl (lv_room hW) hdg hf) hw.S (fun q _ h => (F.B q h).1) (fun q h => (F.B q h).1) (fun v u t H1 locs1 ht _ hq hB hz hk1 hS1 => ?_)
  obtain ⟨rfl, rfl⟩ := hq
  exact kk H1 locs1 (hw.moved T kg (by rw [← ht]; exact hB) hz (fun q h1 h2 => hk1 q h2 (fun w => absurd (F.B q w).2 (Nat.not_lt.mpr h1))) hS1)
theorem lx_x (F : LF p s m c dC dI cy tb adX aK aV zX b bL xs) (kg : KG zT G) (hM : CMX l y ws rm As b bL xs r) (cw : CallB R s #[Value.ref b] RL index y bytes maxL ret ws rm 0 0 n ∧ (Cond.static y).before #[Value.ref b] s = true) (hw : LWd s dC dI cy adX NT adT zT G σ τ H locs)
    (hst : st = As.reverse ++ rest) (hn : As.length = n) (hsize : ls.size = 31) (hW : (rest.map fun v => v.category).sum ≤ 8) (hf : cells ≤ R.cells ∧ slots ≤ R.slots) (hdg : decode cL_law pc = .ok (.invokestatic index, 3))
    (kk : ∀ (H1 : Heap) (locs1 : List Loc), LWd s dC dI cy adX NT adT zT G σ τ H1 locs1 → W p l e R s m #[Value.ref b] below meth c H1 locs1 cells slots Q (F0 m (pc + 3) ls (.int r :: rest))) : W p l e R s m #[Value.ref b] below meth c H locs cells slots Q (F0 m pc ls st) :=
  xx_call F.S F.X F.bl (Nat.not_le.mpr F.bl) hM cw hw.S hst hn hsize hW hf hdg (fun H1 locs1 hS hz hk => kk H1 locs1 (hw.still kg hz hk hS))
theorem lx_vx (F : LF p s m c dC dI cy tb adX aK aV zX b bL xs) (T : LT NT adT zX zT) (kg : KG zT G) (hM : CMvX l y ws rm (dC, dI) (tysX cy) 93 adX (layX adX cy) b bL xs As σ σ') (cw : CallB R s #[Value.ref b] RL index y bytes maxL ret ws rm 0 0 n ∧ (Cond.static y).before #[Value.ref b] s = true) (hw : LWd s dC dI cy adX NT adT zT G σ τ H locs)
    (hst : st = As.reverse ++ rest) (hn : As.length = n) (hsize : ls.size = 31) (hW : (rest.map fun v => v.category).sum ≤ 8) (hf : cells ≤ R.cells ∧ slots ≤ R.slots) (hdg : decode cL_law pc = .ok (.invokestatic index, 3))
    (kk : ∀ (H1 : Heap) (locs1 : List Loc), LWd s dC dI cy adX NT adT zT G σ' τ H1 locs1 → W p l e R s m #[Value.ref b] below meth c H1 locs1 cells slots Q (F0 m (pc + 3) ls rest)) : W p l e R s m #[Value.ref b] below meth c H locs cells slots Q (F0 m pc ls st) := by
  subst hst
  refine va_callv (va_runS (As := As) (rest := rest) F.S hM cw ⟨PcwX_blind, fun U hU hW => ⟨rfl, by rw [hU]; exact hw.X, va_K.moved hW.alike F.K, by rw [hU]; exact (F.X.kept (hw.S.2.1 b F.bl (Nat.not_le.mpr F.bl))).moved hW.alike, by rw [hU]; exact Nat.lt_of_lt_of_le F.bl hw.S.1, fun q => absurd (F.B b q).1 (Nat.not_le.mpr F.bl)⟩⟩ rfl hn hsize rfl (lv_room hW) hdg hf) hw.S (fun q _ h => (F.B q h).1) (fun q h => (F.B q h).1) (fun u t H1 locs1 ht _ hq hB hz hk1 hS1 => ?_)
  obtain rfl := hq
  exact kk H1 locs1 (hw.moved T kg (by rw [← ht]; exact hB) hz (fun q h1 h2 => hk1 q h2 (fun w => absurd (F.B q w).2 (Nat.not_lt.mpr h1))) hS1)
theorem lx_ald (F : LF p s m c dC dI cy tb adX aK aV zX b bL xs) (T : LT NT adT zX zT) (hw : LWd s dC dI cy adX NT adT zT G σ τ H locs) (k : Nat) (hk : k < NT) {i : Nat} {v : Int32} (hin : i < lenT k) (h31 : i < 2 ^ 31) (hv : τ k i = v) (hdg : decode cL_law pc = .ok (.iaload, 1))
    (kk : W p l e R s m #[Value.ref b] below meth c H locs cells slots Q (F0 m (pc + 1) ls (.int v :: rest))) : W p l e R s m #[Value.ref b] below meth c H locs cells slots Q (F0 m pc ls (.int (nI i) :: .ref (adT k) :: rest)) := by
  refine va_iald F.S.1 F.S.2.1 F.K hw.T k 0 (wd_atE hk rfl) rfl (fun q => ?_) hdg ?_
  · rw [nI_clamp h31] at q
    rcases q with q | q
    · exact nI_pos h31 q
    · omega
  · rw [nI_clamp h31, hv]
    exact kk
theorem lx_ast (F : LF p s m c dC dI cy tb adX aK aV zX b bL xs) (T : LT NT adT zX zT) (kg : KG zT G) (hw : LWd s dC dI cy adX NT adT zT G σ τ H locs) (k : Nat) (hk : k < NT) {i : Nat} {x : Int32} (hin : i < lenT k) (h31 : i < 2 ^ 31) (hdg : decode cL_law pc = .ok (.iastore, 1))
    (kk : ∀ (H1 : Heap) (locs1 : List Loc), LWd s dC dI cy adX NT adT zT G σ (su τ k i x) H1 locs1 → W p l e R s m #[Value.ref b] below meth c H1 locs1 cells slots Q (F0 m (pc + 1) ls rest)) : W p l e R s m #[Value.ref b] below meth c H locs cells slots Q (F0 m pc ls (.int x :: .int (nI i) :: .ref (adT k) :: rest)) := by
  refine va_forget hw.S.2.2 ?_
  refine va_iast (A := WA NT adT) (H0 := H) F.S.1 F.S.2.1 F.K hw.T (wd_D τ T.J) va_S.rf k 0 (wd_atE hk rfl) rfl (fun q => ?_) hdg (fun H1 locs1 q1 _ q3 => ?_)
  · rw [nI_clamp h31] at q
    rcases q with q | q
    · exact nI_pos h31 q
    · omega
  rw [nI_clamp h31] at q1
  have q1 : va_P (dC, dI) vwCl ((wd NT adT (layT cy) τ).set k (adT k, layT cy k (upd (τ k) i x))) H1 := q1
  rw [wd_set hk] at q1
  have hz := q3.1
  have hkk : ∀ q, ¬ WA NT adT q → q < H.size → H1[q]? = H[q]? := fun q h1 h2 => q3.2.1 q h2 h1
  refine kk H1 locs1 ⟨kW hw.X (fun q hq hlt => hkk q (fun w => absurd (T.B q w).1 (Nat.not_le.mpr (F.B q hq).2)) hlt), q1, kg H H1 hw.z hz (fun q h1 h2 => hkk q (fun w => absurd (T.B q w).2 (Nat.not_lt.mpr h1)) h2) hw.g, S_trans hw.S q3 rfl (fun q w => Nat.le_trans F.zz (T.B q w).1), Nat.le_trans hw.z hz⟩
theorem lx_mono {k n' : Nat} (h1 : cells ≤ k) (h2 : slots ≤ n') (kk : W p l e R s m #[Value.ref b] below meth c H locs k n' Q (F0 m pc ls st)) : W p l e R s m #[Value.ref b] below meth c H locs cells slots Q (F0 m pc ls st) := W.widen h1 h2 kk
end LX
