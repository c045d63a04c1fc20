/-! The law: what stands all through it, and its rows. -/
def lenT (k : Nat) : Nat := [360, 8, 8, 8, 8, 8, 3, 24].getD k 0
def layT (cy : Nat → ClassId) (k : Nat) (r : Nat → Int32) : va_E := .inl (cy 0, lenT k, .inl r)
def kc (i : Nat) : Nat := [118, 123, 125, 127, 133, 135, 137, 139, 141, 154].getD i 0
def ktx (i : Nat) : String := ["*", "", "x", ":", "=", "@", "+", ">", "-", ","].getD i ""
def kch (i : Nat) : List Nat := [[42], [], [120], [58], [61], [64], [43], [62], [45], [44]].getD i []
def EC (A : Nat → Prop) (aK aV : Nat → Nat) (U : State) (H : Heap) : Prop := ∀ i, i < 10 → vk_R RL (kc i) (ktx i) (aK i) U ∧ sT (aK i) (aV i) (kch i).length (fun j => nI ((kch i).getD j 0)) A U H
theorem sT.congr {q v n : Nat} {t t' : Nat → Int32} {A : Nat → Prop} {U : State} {H : Heap} (h : sT q v n t A U H) (e : ∀ j, j < n → t j = t' j) : sT q v n t' A U H := by
  obtain ⟨h1, h2, h3, ⟨c, g1, g2, g3, g4, g5, g6, g7⟩⟩ := h
  exact ⟨h1, h2, h3, ⟨c, g1, g2, g3, g4, g5, fun j hj => by have h9 := g6 j hj; show _ = some (Value.int (t' j)); rw [← e j hj]; exact h9, g7⟩⟩
/-- a made string, its cells from lo to hi -/
def StA (q v : Nat) (l : List Nat) (lo hi : Nat) (s : State) (H : Heap) : Prop := (lo ≤ q ∧ q < hi) ∧ (lo ≤ v ∧ v < hi) ∧ sT q v l.length (fun j => nI (l.getD j 0)) (fun _ => False) s H ∧ ∀ c ∈ l, c < 128
theorem StA.keep {q v lo hi : Nat} {l : List Nat} {s : State} {H H1 : Heap} (h : StA q v l lo hi s H) (hk : ∀ x, lo ≤ x → x < hi → H1[x]? = H[x]?) : StA q v l lo hi s H1 := ⟨h.1, h.2.1, h.2.2.1.stay (hk q h.1.1 h.1.2) (hk v h.2.1.1 h.2.1.2), h.2.2.2⟩
theorem StA.top {q v lo hi : Nat} {l : List Nat} {s : State} {H : Heap} (h : StA q v l lo hi s H) : StA q v l lo H.size s H := ⟨⟨h.1.1, h.2.2.1.lt.1⟩, ⟨h.2.1.1, h.2.2.1.lt.2⟩, h.2.2⟩
theorem StA.low {q v lo lo2 hi : Nat} {l : List Nat} {s : State} {H : Heap} (h : StA q v l lo hi s H) (hl : lo2 ≤ lo) : StA q v l lo2 hi s H := ⟨⟨Nat.le_trans hl h.1.1, h.1.2⟩, ⟨Nat.le_trans hl h.2.1.1, h.2.1.2⟩, h.2.2⟩
def LnE (aL n : Nat) (qs : Nat → Nat) (cy : Nat → ClassId) : va_W := [(aL, .inl (cy 5, 8, .inr (.inr (.inr (.inr (fun j => if j < n then some (qs j) else none))))))]
/-- the row of the lines: the first n of them are T 0, T 1 .. -/
def LnA (D : va_G) (cy : Nat → ClassId) (aL n : Nat) (qs vs : Nat → Nat) (T : Nat → List Nat) (lo hi : Nat) (s : State) (H : Heap) : Prop := (lo ≤ aL ∧ aL < hi) ∧ va_P D vwCl (LnE aL n qs cy) H ∧ ∀ j, j < n → qs j ≠ aL ∧ vs j ≠ aL ∧ StA (qs j) (vs j) (T j) lo hi s H
theorem LnA.keep {D : va_G} {cy : Nat → ClassId} {aL n lo hi : Nat} {qs vs : Nat → Nat} {T : Nat → List Nat} {s : State} {H H1 : Heap} (h : LnA D cy aL n qs vs T lo hi s H) (hk : ∀ x, lo ≤ x → x < hi → H1[x]? = H[x]?) : LnA D cy aL n qs vs T lo hi s H1 :=
  ⟨h.1, h.2.1.kept (fun k x hx => by
    match k, hx with
    | 0, hx => cases hx; exact hk aL h.1.1 h.1.2
    | k + 1, hx => simp [LnE] at hx), fun j hj => ⟨(h.2.2 j hj).1, (h.2.2 j hj).2.1, (h.2.2 j hj).2.2.keep hk⟩⟩
theorem LnA.top {D : va_G} {cy : Nat → ClassId} {aL n lo hi : Nat} {qs vs : Nat → Nat} {T : Nat → List Nat} {s : State} {H : Heap} (h : LnA D cy aL n qs vs T lo hi s H) : LnA D cy aL n qs vs T lo H.size s H :=
  ⟨⟨h.1.1, (h.2.1 0 _ rfl).lt⟩, h.2.1, fun j hj => ⟨(h.2.2 j hj).1, (h.2.2 j hj).2.1, (h.2.2 j hj).2.2.top⟩⟩
/-- a builder -/
def BdA (D : va_G) (cy : Nat → ClassId) (B V m : Nat) (a : Nat → Int32) (l : List Nat) (lo : Nat) (H : Heap) : Prop := B ≠ V ∧ lo ≤ B ∧ lo ≤ V ∧ sbOk l m a ∧ va_P D vwCl (SB cy B V m a l.length) H
theorem BdA.keep {D : va_G} {cy : Nat → ClassId} {B V m lo : Nat} {a : Nat → Int32} {l : List Nat} {H H1 : Heap} (h : BdA D cy B V m a l lo H) (hk : ∀ x, lo ≤ x → x < H.size → H1[x]? = H[x]?) : BdA D cy B V m a l lo H1 :=
  ⟨h.1, h.2.1, h.2.2.1, h.2.2.2.1, h.2.2.2.2.kept (fun k x hx => by
    match k, hx with
    | 0, hx => cases hx; exact hk B h.2.1 (h.2.2.2.2 0 _ rfl).lt
    | 1, hx => cases hx; exact hk V h.2.2.1 (h.2.2.2.2 1 _ rfl).lt
    | k + 2, hx => simp [SB] at hx)⟩
theorem BdA.sub {D : va_G} {cy : Nat → ClassId} {B V m lo sz : Nat} {a : Nat → Int32} {l : List Nat} {H : Heap} (h : BdA D cy B V m a l lo H) (hs : lo ≤ sz) {x : Nat} (q : va_A (SB cy B V m a l.length) sz x) : lo ≤ x := by
  rcases q with ⟨k, e, h1⟩ | q
  · match k, h1 with
    | 0, h1 => cases h1; exact h.2.1
    | 1, h1 => cases h1; exact h.2.2.1
    | k + 2, h1 => simp [SB] at h1
  · exact Nat.le_trans hs q
theorem S_trans {A : Nat → Prop} {sz : Nat} {H0 H H1 : Heap} {locs locs1 : List Loc} (hS : va_S (fun q => sz ≤ q) H0 H locs) (h1 : va_S A H H1 locs1) (hz : H0.size = sz) (hA : ∀ q, A q → sz ≤ q) : va_S (fun q => sz ≤ q) H0 H1 locs1 :=
  ⟨Nat.le_trans hS.1 h1.1, fun q a1 a2 => (h1.2.1 q (Nat.lt_of_lt_of_le a1 hS.1) (fun z => a2 (hA q z))).trans (hS.2.1 q a1 a2), fun l hl => hA _ (h1.2.2 l hl)⟩
theorem kW {N : Nat} {ad : Nat → Nat} {L : Nat → (Nat → Int32) → va_E} {σ : St} {D : va_G} {H H1 : Heap} (h : va_P D vwCl (wd N ad L σ) H) (hk : ∀ q, WA N ad q → q < H.size → H1[q]? = H[q]?) : va_P D vwCl (wd N ad L σ) H1 := h.kept (fun k x hx => by
  have hl := (List.getElem?_eq_some_iff.mp hx).1
  have hl2 : k < N := by simpa [wd] using hl
  have hlt := (h k x hx).lt
  rw [wd_at hl2] at hx
  cases hx
  exact hk _ ⟨k, hl2, rfl⟩ hlt)
section LW
variable {p : Program} {l : Launch} {e : Env} {R : Room} {s : State} {m : MethodId} {args : Array Value} {below : List Frame} {meth : Method} {c : Code} {H : Heap} {locs : List Loc} {cells slots : Nat} {Q : State → Prop}
variable {cc : ByteArray} {pc : Nat} {ls : Array Slot} {rest st : List Value} {dC : Nat → ClassId} {dI : Nat → Nat → Nat} {cy : Nat → ClassId}
variable {adX adT : Nat → Nat} {σ σ' τ : St} {r : Int32} {zX zT : Nat} {tb : Nat × Nat}
variable {Ts ws : List Cond} {bytes : ByteArray} {nL maxL index n : Nat} {own C : String} {y : MethodName} {ret : Option FieldType} {rm : Room} {As : List Value}
/-- a call of the class, which answers an int; no cell from zX on is changed -/
theorem xw_i (S : CallFix p m c cc nL s args Ts own) (bX : ∀ q, WA 93 adX q → s.heap.size ≤ q ∧ q < zX) (hM : CMi l y ws rm (dC, dI) (tysX cy) 93 adX (layX adX cy) (.ref (adX 0) :: As) σ r σ') (cw : CallW R s args own RX6 index y bytes maxL ret ws rm 0 0 n) (hK : va_K (dC, dI) vwCl (tysX cy) s) (hP : va_P (dC, dI) vwCl (wd 93 adX (layX adX cy) σ) H) (hS : va_S (fun q => s.heap.size ≤ q) s.heap H locs)
    (hst : st = As.reverse ++ .ref (adX 0) :: rest) (hn : As.length = n) (hsize : ls.size = nL) (hW : (rest.map fun v => v.category).sum ≤ 8) (hf : cells ≤ R.cells ∧ slots ≤ R.slots) (hdg : decode cc pc = .ok (.invokevirtual index, 3))
    (kk : ∀ (H1 : Heap) (locs1 : List Loc), va_P (dC, dI) vwCl (wd 93 adX (layX adX cy) σ') H1 → va_S (fun q => s.heap.size ≤ q) s.heap H1 locs1 → H.size ≤ H1.size → (∀ q, zX ≤ q → q < H.size → H1[q]? = H[q]?) → W p l e R s m args below meth c H1 locs1 cells slots Q (F0 m (pc + 3) ls (.int r :: rest))) : W p l e R s m args below meth c H locs cells slots Q (F0 m pc ls st) := by
  subst hst
  refine va_calli (va_runV (As := As) (rest := rest) S hM cw ⟨Pcw_blind, va_recv hK hP (ci := 6) rfl (wd_atE (k := 0) (by decide) (LX6_obj adX cy _)), fun U hU hW => ⟨rfl, by rw [hU]; exact hP, va_K.moved hW.alike hK⟩⟩ rfl hn hsize rfl (lv_room hW) hdg hf) hS (fun q _ h => (bX q h).1) (fun q h => (bX q h).1) (fun v u t H1 locs1 ht _ hw hB hz hk1 hS1 => ?_)
  obtain ⟨rfl, rfl⟩ := hw
  exact kk H1 locs1 (by rw [← ht]; exact hB) hS1 hz (fun q h1 h2 => hk1 q h2 (fun w => absurd (bX q w).2 (Nat.not_lt.mpr h1)))
theorem xw_dd {z : Int32 × Int32} {d0 : Drawn} (hd0 : s.drawn.sameBut d0 lw_cs) (S : CallFix p m c cc nL (s.setDrawn d0) args Ts own) (bX : ∀ q, WA 93 adX q → s.heap.size ≤ q ∧ q < zX) (hM : CMd l y ws rm (dC, dI) (tysX cy) 93 adX (layX adX cy) (.ref (adX 0) :: As) σ z σ') (cw : CallW R (s.setDrawn d0) args own RX6 index y bytes maxL ret ws rm 0 0 n) (hK : va_K (dC, dI) vwCl (tysX cy) (s.setDrawn d0)) (hP : va_P (dC, dI) vwCl (wd 93 adX (layX adX cy) σ) H) (hS : va_S (fun q => s.heap.size ≤ q) s.heap H locs)
    (hst : st = As.reverse ++ .ref (adX 0) :: rest) (hn : As.length = n) (hsize : ls.size = nL) (hW : (rest.map fun v => v.category).sum ≤ 8) (hf : cells ≤ R.cells ∧ slots ≤ R.slots) (hdg : decode cc pc = .ok (.invokevirtual index, 3))
    (kk : ∀ (v : UInt64) (d1 : Drawn), s.drawn.sameBut d1 lw_cs → postD v z → ∀ (H1 : Heap) (locs1 : List Loc), va_P (dC, dI) vwCl (wd 93 adX (layX adX cy) σ') H1 → va_S (fun q => s.heap.size ≤ q) s.heap H1 locs1 → H.size ≤ H1.size → (∀ q, zX ≤ q → q < H.size → H1[q]? = H[q]?) → W p l e R (s.setDrawn d1) m args below meth c H1 locs1 cells slots Q (F0 m (pc + 3) ls (.double v :: rest))) : W p l e R (s.setDrawn d0) m args below meth c H locs cells slots Q (F0 m pc ls st) := by
  subst hst
  refine va_calldD hd0 (va_runV_D (As := As) (rest := rest) S hM cw ⟨Pcw_blind, va_recv hK hP (ci := 6) rfl (wd_atE (k := 0) (by decide) (LX6_obj adX cy _)), fun U hU hW => ⟨rfl, by rw [hU]; exact hP, va_K.moved hW.alike hK⟩⟩ rfl hn hsize rfl (lv_room hW) hdg hf) hS (fun q _ h => (bX q h).1) (fun q h => (bX q h).1) (fun v u t H1 locs1 ht _ hw hB hz hk1 hS1 d1 hd1 => ?_)
  obtain ⟨hw, rfl⟩ := hw
  exact kk v d1 hd1 hw H1 locs1 (by rw [← ht]; exact hB) hS1 hz (fun q h1 h2 => hk1 q h2 (fun w => absurd (bX q w).2 (Nat.not_lt.mpr h1)))
theorem xw_ff {z : Int32 × Int32} {d0 : Drawn} (hd0 : s.drawn.sameBut d0 lw_cs) (S : CallFix p m c cc nL (s.setDrawn d0) args Ts own) (bX : ∀ q, WA 93 adX q → s.heap.size ≤ q ∧ q < zX) (hM : CMf l y ws rm (dC, dI) (tysX cy) 93 adX (layX adX cy) (.ref (adX 0) :: As) σ z σ') (cw : CallW R (s.setDrawn d0) args own RX6 index y bytes maxL ret ws rm 0 0 n) (hK : va_K (dC, dI) vwCl (tysX cy) (s.setDrawn d0)) (hP : va_P (dC, dI) vwCl (wd 93 adX (layX adX cy) σ) H) (hS : va_S (fun q => s.heap.size ≤ q) s.heap H locs)
    (hst : st = As.reverse ++ .ref (adX 0) :: rest) (hn : As.length = n) (hsize : ls.size = nL) (hW : (rest.map fun v => v.category).sum ≤ 8) (hf : cells ≤ R.cells ∧ slots ≤ R.slots) (hdg : decode cc pc = .ok (.invokevirtual index, 3))
    (kk : ∀ (v : UInt32) (d1 : Drawn), s.drawn.sameBut d1 lw_cs → postF v z → ∀ (H1 : Heap) (locs1 : List Loc), va_P (dC, dI) vwCl (wd 93 adX (layX adX cy) σ') H1 → va_S (fun q => s.heap.size ≤ q) s.heap H1 locs1 → H.size ≤ H1.size → (∀ q, zX ≤ q → q < H.size → H1[q]? = H[q]?) → W p l e R (s.setDrawn d1) m args below meth c H1 locs1 cells slots Q (F0 m (pc + 3) ls (.float v :: rest))) : W p l e R (s.setDrawn d0) m args below meth c H locs cells slots Q (F0 m pc ls st) := by
  subst hst
  refine va_callfD hd0 (va_runV_D (As := As) (rest := rest) S hM cw ⟨Pcw_blind, va_recv hK hP (ci := 6) rfl (wd_atE (k := 0) (by decide) (LX6_obj adX cy _)), fun U hU hW => ⟨rfl, by rw [hU]; exact hP, va_K.moved hW.alike hK⟩⟩ rfl hn hsize rfl (lv_room hW) hdg hf) hS (fun q _ h => (bX q h).1) (fun q h => (bX q h).1) (fun v u t H1 locs1 ht _ hw hB hz hk1 hS1 d1 hd1 => ?_)
  obtain ⟨hw, rfl⟩ := hw
  exact kk v d1 hd1 hw H1 locs1 (by rw [← ht]; exact hB) hS1 hz (fun q h1 h2 => hk1 q h2 (fun w => absurd (bX q w).2 (Nat.not_lt.mpr h1)))
/-- the law's own rows: read, write -/
theorem xw_ald (hexec : p.tables.exec = Jvm.exec) (hb : c.code = cc) (hK : va_K (dC, dI) vwCl (tysX cy) s) (hT : va_P (dC, dI) vwCl (wd 8 adT (layT cy) τ) H) (k : Nat) (hk : k < 8) {i : Int32} (hin : vp_in i (lenT k)) (hdg : decode cc pc = .ok (.iaload, 1))
    (kk : W p l e R s m args below meth c H locs cells slots Q (F0 m (pc + 1) ls (.int (τ k i.toNatClampNeg) :: rest))) : W p l e R s m args below meth c H locs cells slots Q (F0 m pc ls (.int i :: .ref (adT k) :: rest)) :=
  va_iald hexec hb hK hT k 0 (wd_atE hk rfl) rfl hin hdg kk
theorem xw_ast (hexec : p.tables.exec = Jvm.exec) (hb : c.code = cc) (hK : va_K (dC, dI) vwCl (tysX cy) s) (bT : ∀ q, WA 8 adT q → zX ≤ q ∧ q < zT) (hJT : WJ 8 adT) (hz : s.heap.size ≤ zX) (hT : va_P (dC, dI) vwCl (wd 8 adT (layT cy) τ) H) (hS : va_S (fun q => s.heap.size ≤ q) s.heap H locs) (k : Nat) (hk : k < 8) {i x : Int32} (hin : vp_in i (lenT k)) (hdg : decode cc pc = .ok (.iastore, 1))
    (kk : ∀ (H1 : Heap) (locs1 : List Loc), va_P (dC, dI) vwCl (wd 8 adT (layT cy) (su τ k i.toNatClampNeg x)) H1 → va_S (fun q => s.heap.size ≤ q) s.heap H1 locs1 → H.size ≤ H1.size → (∀ q, q < zX ∨ zT ≤ q → q < H.size → H1[q]? = H[q]?) → W p l e R s m args below meth c H1 locs1 cells slots Q (F0 m (pc + 1) ls rest)) : W p l e R s m args below meth c H locs cells slots Q (F0 m pc ls (.int x :: .int i :: .ref (adT k) :: rest)) := by
  refine va_forget hS.2.2 ?_
  refine va_iast (A := WA 8 adT) (H0 := H) hexec hb hK hT (wd_D τ hJT) va_S.rf k 0 (wd_atE hk rfl) rfl hin hdg (fun H1 locs1 q1 _ q3 => ?_)
  refine kk H1 locs1 (by
    have q1 : va_P (dC, dI) vwCl ((wd 8 adT (layT cy) τ).set k (adT k, layT cy k (upd (τ k) i.toNatClampNeg x))) H1 := q1
    rw [wd_set hk] at q1
    exact q1) (S_trans hS q3 rfl (fun q w => Nat.le_trans hz (bT q w).1)) q3.1 (fun q h1 h2 => q3.2.1 q h2 (fun w => by have := bT q w; omega))
end LW
