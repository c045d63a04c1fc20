/-! The law's rows on texts, over the world at a point. -/
/-- a builder on top of what stood at Hs -/
def GB (dC : Nat → ClassId) (dI : Nat → Nat → Nat) (cy : Nat → ClassId) (zT : Nat) (Hs : Heap) (B V mb : Nat) (a : Nat → Int32) (t : List Nat) (H : Heap) : Prop := (Hs.size ≤ H.size ∧ ∀ q, zT ≤ q → q < Hs.size → H[q]? = Hs[q]?) ∧ BdA (dC, dI) cy B V mb a t Hs.size H
theorem KG.B {dC : Nat → ClassId} {dI : Nat → Nat → Nat} {cy : Nat → ClassId} {zT : Nat} {Hs : Heap} {B V mb : Nat} {a : Nat → Int32} {t : List Nat} (hz : zT ≤ Hs.size) : KG zT (GB dC dI cy zT Hs B V mb a t) := fun _ _ _ h2 h3 h => ⟨⟨Nat.le_trans h.1.1 h2, fun q q1 q2 => (h3 q q1 (Nat.lt_of_lt_of_le q2 h.1.1)).trans (h.1.2 q q1 q2)⟩, h.2.keep (fun x x1 x2 => h3 x (Nat.le_trans hz x1) x2)⟩
abbrev GL (dC : Nat → ClassId) (dI : Nat → Nat → Nat) (cy : Nat → ClassId) (s : State) (zT aL n : Nat) (qs vs : Nat → Nat) (Tx : Nat → List Nat) : Heap → Prop := fun H => LnA (dC, dI) cy aL n qs vs Tx zT H.size s H
abbrev GS (s : State) (zT q v : Nat) (t : List Nat) : Heap → Prop := fun H => StA q v t zT H.size s H
section LY
variable {p : Program} {l : Launch} {e : Env} {R : Room} {s : State} {m : MethodId} {below : List Frame} {meth : Method} {c : Code} {H Hs : Heap} {locs : List Loc} {cells slots : Nat} {Q : State → Prop}
variable {pc : Nat} {ls : Array Slot} {rest st : List Value} {dC : Nat → ClassId} {dI : Nat → Nat → Nat} {cy : Nat → ClassId} {tb : Nat × Nat} {aK aV : Nat → Nat} {b bL : Nat} {xs : Nat → Int32}
variable {adX adT : Nat → Nat} {σ τ : St} {NT zX zT index : Nat} {G : Heap → Prop} {B V mb : Nat} {a : Nat → Int32} {t : List Nat}
/-- the world where only cells from lo on were changed, lo on top of the arrays -/
theorem LWd.above {G2 : Heap → Prop} {lo : Nat} {H1 : Heap} {locs1 : List Loc} (F : LF p s m c dC dI cy tb adX aK aV zX b bL xs) (T : LT NT adT zX zT) (hw : LWd s dC dI cy adX NT adT zT G σ τ H locs) (hlo : zT ≤ lo) (hz : H.size ≤ H1.size) (hk : ∀ q, q < lo → q < H.size → H1[q]? = H[q]?) (hS : va_S (fun q => s.heap.size ≤ q) s.heap H1 locs1) (hg : G2 H1) : LWd s dC dI cy adX NT adT zT G2 σ τ H1 locs1 :=
  ⟨kW hw.X (fun q hq hlt => hk q (Nat.lt_of_lt_of_le (F.B q hq).2 (Nat.le_trans T.zz hlo)) hlt), kW hw.T (fun q hq hlt => hk q (Nat.lt_of_lt_of_le (T.B q hq).2 hlo) hlt), hg, hS, Nat.le_trans hw.z hz⟩
theorem lb_new {i2 : Nat} (F : LF p s m c dC dI cy tb adX aK aV zX b bL xs) (T : LT NT adT zX zT) (hin : ∀ w ∈ wsJ40, w ∈ wsL_law) (hg : GoodIn wsL_law wsJ4_init_da8c8) (w1 : (Cond.classLink RL index RJ4).before #[Value.ref b] s = true) (w2 : (Cond.instantiable RJ4 4).before #[Value.ref b] s = true) (w3 : (Cond.initialized RJ4).before #[Value.ref b] s = true) (w4 : (Cond.methodLink RL i2 yJ4_init_da8c8).before #[Value.ref b] s = true) (w5 : (Cond.instanceMethod yJ4_init_da8c8).before #[Value.ref b] s = true)
    (hw : LWd s dC dI cy adX NT adT zT G σ τ H locs) (hsize : ls.size = 31) (hW : (rest.map fun v => v.category).sum ≤ 7) (hR : 3 ≤ R.frames ∧ 120 ≤ R.locals) (hf : cells + 2 ≤ R.cells ∧ slots + 20 ≤ R.slots) (hd0 : decode cL_law pc = .ok (.new index, 3)) (hd1 : decode cL_law (pc + 3) = .ok (.dup, 1)) (hd2 : decode cL_law (pc + 4) = .ok (.invokespecial i2, 3))
    (kk : ∀ (B V : Nat) (H1 : Heap) (locs1 : List Loc), LWd s dC dI cy adX NT adT zT (GB dC dI cy zT H B V 16 (fun _ => 0) []) σ τ H1 locs1 → W p l e R s m #[Value.ref b] below meth c H1 locs1 (cells + 2) (slots + 20) Q (F0 m (pc + 7) ls (.ref B :: rest))) : W p l e R s m #[Value.ref b] below meth c H locs cells slots Q (F0 m pc ls rest) := by
  refine xb_new F.S hin hg w1 w2 w3 w4 w5 F.K F.E hw.S hsize hW hR hf hd0 hd1 hd2 (fun B V H1 locs1 hB hS hz hk => kk B V H1 locs1 ?_)
  exact hw.above F T hw.z hz (fun q h _ => hk q h) hS ⟨⟨hz, fun q _ h => hk q h⟩, hB⟩
theorem lb_int {v : Nat} (F : LF p s m c dC dI cy tb adX aK aV zX b bL xs) (T : LT NT adT zX zT) (hzs : zT ≤ Hs.size) (hw : LWd s dC dI cy adX NT adT zT (GB dC dI cy zT Hs B V mb a t) σ τ H locs) (ht9 : t.length ≤ 96) (hv : v ≤ 9999) (cw : CallW R s #[Value.ref b] RL RJ4 index yJ4_append_bf812 cJ4_append_bf812 2 (some (.object "java/lang/StringBuilder")) wsJ4_append_bf812 rmJ4_append_bf812 1 200 1)
    (hsize : ls.size = 31) (hW : (rest.map fun v => v.category).sum ≤ 8) (hf : cells + 1 ≤ R.cells ∧ slots + 200 ≤ R.slots) (hdg : decode cL_law pc = .ok (.invokevirtual index, 3))
    (kk : ∀ (V1 m1 : Nat) (a1 : Nat → Int32) (H1 : Heap) (locs1 : List Loc), LWd s dC dI cy adX NT adT zT (GB dC dI cy zT Hs B V1 m1 a1 (t ++ dg v)) σ τ H1 locs1 → W p l e R s m #[Value.ref b] below meth c H1 locs1 (cells + 1) (slots + 200) Q (F0 m (pc + 3) ls (.ref B :: rest))) : W p l e R s m #[Value.ref b] below meth c H locs cells slots Q (F0 m pc ls (.int (nI v) :: .ref B :: rest)) := by
  obtain ⟨⟨g1, g2⟩, g3⟩ := hw.g
  refine xb_int F.S g3 g1 (Nat.le_trans F.zz (Nat.le_trans T.zz hzs)) ht9 hv cw F.K F.E hw.S hsize hW hf hdg (fun V1 m1 a1 H1 locs1 hB hS hz hk => kk V1 m1 a1 H1 locs1 ?_)
  exact hw.above F T hzs hz (fun q h _ => hk q h) hS ⟨⟨Nat.le_trans g1 hz, fun q q1 q2 => (hk q q2).trans (g2 q q1 q2)⟩, hB⟩
theorem lb_const (i : Nat) (hi : i < 10) (F : LF p s m c dC dI cy tb adX aK aV zX b bL xs) (T : LT NT adT zX zT) (hzs : zT ≤ Hs.size) (hw : LWd s dC dI cy adX NT adT zT (GB dC dI cy zT Hs B V mb a t) σ τ H locs) (ht9 : t.length ≤ 96) (cw : CallW R s #[Value.ref b] RL RJ4 index yJ4_append_15ec4 cJ4_append_15ec4 2 (some (.object "java/lang/StringBuilder")) wsJ4_append_15ec4 rmJ4_append_15ec4 1 200 1)
    (hsize : ls.size = 31) (hW : (rest.map fun v => v.category).sum ≤ 8) (hf : cells + 1 ≤ R.cells ∧ slots + 200 ≤ R.slots) (hdg : decode cL_law pc = .ok (.invokevirtual index, 3))
    (kk : ∀ (V1 m1 : Nat) (a1 : Nat → Int32) (H1 : Heap) (locs1 : List Loc), LWd s dC dI cy adX NT adT zT (GB dC dI cy zT Hs B V1 m1 a1 (t ++ kch i)) σ τ H1 locs1 → W p l e R s m #[Value.ref b] below meth c H1 locs1 (cells + 1) (slots + 200) Q (F0 m (pc + 3) ls (.ref B :: rest))) : W p l e R s m #[Value.ref b] below meth c H locs cells slots Q (F0 m pc ls (.ref (aK i) :: .ref B :: rest)) := by
  obtain ⟨⟨g1, g2⟩, g3⟩ := hw.g
  have hlo := Nat.le_trans F.zz (Nat.le_trans T.zz hzs)
  have hk1 : (kch i).length ≤ 1 ∧ ∀ c ∈ kch i, c < 128 := by
    rcases (show i = 0 ∨ i = 1 ∨ i = 2 ∨ i = 3 ∨ i = 4 ∨ i = 5 ∨ i = 6 ∨ i = 7 ∨ i = 8 ∨ i = 9 by omega) with rfl | rfl | rfl | rfl | rfl | rfl | rfl | rfl | rfl | rfl <;> decide
  refine xb_str F.S g3 g1 hlo (by omega) (fun i _ => rfl) hk1.2 (tc_const g3 g1 hlo F.C hw.S i hi) cw F.K F.E hw.S hsize hW hf hdg (fun V1 m1 a1 H1 locs1 hB hS hz hk => kk V1 m1 a1 H1 locs1 ?_)
  exact hw.above F T hzs hz (fun q h _ => hk q h) hS ⟨⟨Nat.le_trans g1 hz, fun q q1 q2 => (hk q q2).trans (g2 q q1 q2)⟩, hB⟩
theorem lb_made {q v lo2 hi : Nat} {w : List Nat} (F : LF p s m c dC dI cy tb adX aK aV zX b bL xs) (T : LT NT adT zX zT) (hzs : zT ≤ Hs.size) (hw : LWd s dC dI cy adX NT adT zT (GB dC dI cy zT Hs B V mb a t) σ τ H locs) (hA : StA q v w lo2 hi s Hs) (h2 : zT ≤ lo2) (h3 : hi ≤ Hs.size) (ht9 : t.length + w.length ≤ 100) (cw : CallW R s #[Value.ref b] RL RJ4 index yJ4_append_15ec4 cJ4_append_15ec4 2 (some (.object "java/lang/StringBuilder")) wsJ4_append_15ec4 rmJ4_append_15ec4 1 200 1)
    (hsize : ls.size = 31) (hW : (rest.map fun v => v.category).sum ≤ 8) (hf : cells + 1 ≤ R.cells ∧ slots + 200 ≤ R.slots) (hdg : decode cL_law pc = .ok (.invokevirtual index, 3))
    (kk : ∀ (V1 m1 : Nat) (a1 : Nat → Int32) (H1 : Heap) (locs1 : List Loc), LWd s dC dI cy adX NT adT zT (GB dC dI cy zT Hs B V1 m1 a1 (t ++ w)) σ τ H1 locs1 → W p l e R s m #[Value.ref b] below meth c H1 locs1 (cells + 1) (slots + 200) Q (F0 m (pc + 3) ls (.ref B :: rest))) : W p l e R s m #[Value.ref b] below meth c H locs cells slots Q (F0 m pc ls (.ref q :: .ref B :: rest)) := by
  obtain ⟨⟨g1, g2⟩, g3⟩ := hw.g
  have hlo := Nat.le_trans F.zz (Nat.le_trans T.zz hzs)
  have hA1 : StA q v w lo2 Hs.size s H := by
    have := hA.keep (H1 := H) (fun x x1 x2 => g2 x (Nat.le_trans h2 x1) (Nat.lt_of_lt_of_le x2 h3))
    exact ⟨⟨this.1.1, Nat.lt_of_lt_of_le this.1.2 h3⟩, ⟨this.2.1.1, Nat.lt_of_lt_of_le this.2.1.2 h3⟩, this.2.2⟩
  refine xb_str F.S g3 g1 hlo ht9 (fun i _ => rfl) hA.2.2.2 (tc_made g3 g1 hA1) cw F.K F.E hw.S hsize hW hf hdg (fun V1 m1 a1 H1 locs1 hB hS hz hk => kk V1 m1 a1 H1 locs1 ?_)
  exact hw.above F T hzs hz (fun q h _ => hk q h) hS ⟨⟨Nat.le_trans g1 hz, fun q q1 q2 => (hk q q2).trans (g2 q q1 q2)⟩, hB⟩
theorem lb_toS (F : LF p s m c dC dI cy tb adX aK aV zX b bL xs) (T : LT NT adT zX zT) (hinJ0 : ∀ w ∈ wsJ00, w ∈ wsL_law) (hzs : zT ≤ Hs.size) (kg : KG zT G) (hG : G Hs) (hw : LWd s dC dI cy adX NT adT zT (GB dC dI cy zT Hs B V mb a t) σ τ H locs) (cw : CallW R s #[Value.ref b] RL RJ4 index yJ4_toString_0e30d cJ4_toString_0e30d 1 (some (.object "java/lang/String")) wsJ4_toString_0e30d rmJ4_toString_0e30d 2 204 0)
    (hsize : ls.size = 31) (hW : (rest.map fun v => v.category).sum ≤ 8) (hf : cells + 2 ≤ R.cells ∧ slots + 204 ≤ R.slots) (hdg : decode cL_law pc = .ok (.invokevirtual index, 3))
    (kk : ∀ (q v : Nat) (H1 : Heap) (locs1 : List Loc), LWd s dC dI cy adX NT adT zT G σ τ H1 locs1 → StA q v t Hs.size H1.size s H1 → va_P (dC, dI) vwCl [(q, .inr (7, [.ref v, .int 0, .int 0, .int 0]))] H1 → Hs.size ≤ H1.size → (∀ x, zT ≤ x → x < Hs.size → H1[x]? = Hs[x]?) → W p l e R s m #[Value.ref b] below meth c H1 locs1 (cells + 2) (slots + 204) Q (F0 m (pc + 3) ls (.ref q :: rest))) : W p l e R s m #[Value.ref b] below meth c H locs cells slots Q (F0 m pc ls (.ref B :: rest)) := by
  obtain ⟨⟨g1, g2⟩, g3⟩ := hw.g
  have hlo := Nat.le_trans F.zz (Nat.le_trans T.zz hzs)
  refine xb_toS F.S hinJ0 g3 g1 hlo cw F.K F.E hw.S hsize hW hf hdg (fun q v H1 locs1 hA h1 h2 hP hS hz hk => ?_)
  have hk2 : ∀ x, zT ≤ x → x < Hs.size → H1[x]? = Hs[x]? := fun x x1 x2 => (hk x x2).trans (g2 x x1 x2)
  exact kk q v H1 locs1 (hw.above F T hzs hz (fun q h _ => hk q h) hS (kg Hs H1 hzs (Nat.le_trans g1 hz) hk2 hG)) hA hP (Nat.le_trans g1 hz) hk2
/-- a made text goes into the row of the lines -/
theorem lb_put {aL n i q v : Nat} {qs vs : Nat → Nat} {Tx : Nat → List Nat} (F : LF p s m c dC dI cy tb adX aK aV zX b bL xs) (T : LT NT adT zX zT) (hzs : zT ≤ Hs.size) (hL : GL dC dI cy s zT aL n qs vs Tx Hs) (hi3 : i ≤ n) (hn : i < 8) (hw : LWd s dC dI cy adX NT adT zT G σ τ H locs) (hA : StA q v t Hs.size H.size s H) (hP : va_P (dC, dI) vwCl [(q, .inr (7, [.ref v, .int 0, .int 0, .int 0]))] H) (hk : ∀ x, zT ≤ x → x < Hs.size → H[x]? = Hs[x]?) (hdg : decode cL_law pc = .ok (.aastore, 1))
    (kk : ∀ (qs vs : Nat → Nat) (H1 : Heap) (locs1 : List Loc), LWd s dC dI cy adX NT adT zT (GL dC dI cy s zT aL (if i = n then n + 1 else n) qs vs (fun j => if j = i then t else Tx j)) σ τ H1 locs1 → W p l e R s m #[Value.ref b] below meth c H1 locs1 cells slots Q (F0 m (pc + 1) ls rest)) : W p l e R s m #[Value.ref b] below meth c H locs cells slots Q (F0 m pc ls (.ref q :: .int (nI i) :: .ref aL :: rest)) := by
  have hL2 : LnA (dC, dI) cy aL n qs vs Tx zT Hs.size s H := hL.keep hk
  have hA2 : StA q v t zT H.size s H := hA.low hzs
  refine xs_ast F.S.1 F.S.2.1 F.K hL2 hi3 hn (Nat.le_trans F.zz T.zz) (Nat.le_refl _) hA.1.1 hA.2.1.1 hA2 hP hw.S hdg (fun H1 locs1 h1 hS hz hk2 => kk (fun j => if j = i then q else qs j) (fun j => if j = i then v else vs j) H1 locs1 ?_)
  exact hw.above F T (Nat.le_refl _) hz (fun q h1 h2 => hk2 q h1 h2) hS h1
theorem ls_len {q v : Nat} (F : LF p s m c dC dI cy tb adX aK aV zX b bL xs) (kg : KG zT G) (hw : LWd s dC dI cy adX NT adT zT G σ τ H locs) (hA : ∀ H, G H → StA q v t zT H.size s H) (cw : CallW R s #[Value.ref b] RL RJ0 index yJ0_length_8abf5 cJ0_length_8abf5 1 (some .int) wsJ0_length_8abf5 rmJ0_length_8abf5 0 0 0)
    (hsize : ls.size = 31) (hW : (rest.map fun v => v.category).sum ≤ 8) (hf : cells ≤ R.cells ∧ slots ≤ R.slots) (hdg : decode cL_law pc = .ok (.invokevirtual index, 3))
    (kk : ∀ (H1 : Heap) (locs1 : List Loc), LWd s dC dI cy adX NT adT zT G σ τ H1 locs1 → W p l e R s m #[Value.ref b] below meth c H1 locs1 cells slots Q (F0 m (pc + 3) ls (.int (nI t.length) :: rest))) : W p l e R s m #[Value.ref b] below meth c H locs cells slots Q (F0 m pc ls (.ref q :: rest)) :=
  xs_len F.S (hA H hw.g) cw F.K F.E hw.S hsize hW hf hdg (fun H1 locs1 hS hz hk => kk H1 locs1 (hw.still kg hz hk hS))
theorem ls_char {q v i : Nat} (F : LF p s m c dC dI cy tb adX aK aV zX b bL xs) (kg : KG zT G) (hw : LWd s dC dI cy adX NT adT zT G σ τ H locs) (hA : ∀ H, G H → StA q v t zT H.size s H) (hi2 : i < t.length) (h31 : t.length < 2 ^ 31) (cw : CallW R s #[Value.ref b] RL RJ0 index yJ0_charAt_5068e cJ0_charAt_5068e 2 (some .char) wsJ0_charAt_5068e rmJ0_charAt_5068e 0 0 1)
    (hsize : ls.size = 31) (hW : (rest.map fun v => v.category).sum ≤ 8) (hf : cells ≤ R.cells ∧ slots ≤ R.slots) (hdg : decode cL_law pc = .ok (.invokevirtual index, 3))
    (kk : ∀ (H1 : Heap) (locs1 : List Loc), LWd s dC dI cy adX NT adT zT G σ τ H1 locs1 → W p l e R s m #[Value.ref b] below meth c H1 locs1 cells slots Q (F0 m (pc + 3) ls (.int (nI (t.getD i 0)) :: rest))) : W p l e R s m #[Value.ref b] below meth c H locs cells slots Q (F0 m pc ls (.int (nI i) :: .ref q :: rest)) :=
  xs_char F.S (hA H hw.g) hi2 h31 cw F.K F.E hw.S hsize hW hf hdg (fun H1 locs1 hS hz hk => kk H1 locs1 (hw.still kg hz hk hS))
theorem ls_ald {aL n i : Nat} {qs vs : Nat → Nat} {Tx : Nat → List Nat} (F : LF p s m c dC dI cy tb adX aK aV zX b bL xs) (hw : LWd s dC dI cy adX NT adT zT G σ τ H locs) (hL : GL dC dI cy s zT aL n qs vs Tx H) (hi2 : i < n) (hn : n ≤ 8) (hdg : decode cL_law pc = .ok (.aaload, 1))
    (kk : W p l e R s m #[Value.ref b] below meth c H locs cells slots Q (F0 m (pc + 1) ls (.ref (qs i) :: rest))) : W p l e R s m #[Value.ref b] below meth c H locs cells slots Q (F0 m pc ls (.int (nI i) :: .ref aL :: rest)) :=
  xs_ald F.S.1 F.S.2.1 F.K hL hi2 hn hdg kk
theorem lk_ldc (i : Nat) (hi : i < 10) (F : LF p s m c dC dI cy tb adX aK aV zX b bL xs) (hdg : decode cL_law pc = .ok (.ldc (kc i), 2))
    (kk : W p l e R s m #[Value.ref b] below meth c H locs cells slots Q (F0 m (pc + 2) ls (.ref (aK i) :: rest))) : W p l e R s m #[Value.ref b] below meth c H locs cells slots Q (F0 m pc ls rest) := by
  exact va_ldcS F.S.1 F.S.2.1 F.S.2.2.2.1 (F.C i hi).1 hdg kk
end LY
