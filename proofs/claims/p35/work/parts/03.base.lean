/-! The pure state of a system whose objects never move: cell k, slot j holds an int; references are fixed by a layout L. -/
abbrev St : Type := Nat → Nat → Int32
def sr (σ : St) (k : Nat) (row : Nat → Int32) : St := fun a => if a = k then row else σ a
def su (σ : St) (k j : Nat) (v : Int32) : St := sr σ k (upd (σ k) j v)
theorem sr_self (σ : St) (k : Nat) (row : Nat → Int32) : sr σ k row k = row := if_pos rfl
theorem sr_ne (σ : St) {k a : Nat} (row : Nat → Int32) (h : ¬ a = k) : sr σ k row a = σ a := if_neg h
def wd (N : Nat) (ad : Nat → Nat) (L : Nat → (Nat → Int32) → va_E) (σ : St) : va_W := (List.range N).map (fun k => (ad k, L k (σ k)))
theorem wd_at {N : Nat} {ad : Nat → Nat} {L : Nat → (Nat → Int32) → va_E} {σ : St} {k : Nat} (hk : k < N) : (wd N ad L σ)[k]? = some (ad k, L k (σ k)) := by
  simp [wd, hk]
theorem wd_atE {N : Nat} {ad : Nat → Nat} {L : Nat → (Nat → Int32) → va_E} {σ : St} {k : Nat} {x : va_E} (hk : k < N) (hL : L k (σ k) = x) : (wd N ad L σ)[k]? = some (ad k, x) := by
  rw [wd_at hk, hL]
theorem wd_set {N : Nat} {ad : Nat → Nat} {L : Nat → (Nat → Int32) → va_E} {σ : St} {k : Nat} {row : Nat → Int32} (hk : k < N) : (wd N ad L σ).set k (ad k, L k row) = wd N ad L (sr σ k row) := by
  apply List.ext_getElem?
  intro i
  by_cases hi : i = k
  · subst hi
    rw [List.getElem?_set_self (by simp [wd, hk]), wd_at hk, sr_self]
  · rw [List.getElem?_set_ne (Ne.symm hi)]
    by_cases hN : i < N
    · rw [wd_at hN, wd_at hN, sr_ne _ _ hi]
    · simp [wd, hN]
def WA (N : Nat) (ad : Nat → Nat) : Nat → Prop := fun q => ∃ k, k < N ∧ q = ad k
def WJ (N : Nat) (ad : Nat → Nat) : Prop := ∀ i j, i < N → j < N → ad i = ad j → i = j
theorem wd_D {N : Nat} {ad : Nat → Nat} {L : Nat → (Nat → Int32) → va_E} (σ : St) (hJ : WJ N ad) : va_D (WA N ad) (wd N ad L σ) := by
  have hlt : ∀ (i : Nat) (p : Nat × va_E), (wd N ad L σ)[i]? = some p → i < N ∧ p.1 = ad i := by
    intro i p h
    by_cases hN : i < N
    · rw [wd_at hN] at h
      cases h
      exact ⟨hN, rfl⟩
    · simp [wd, hN] at h
  refine ⟨fun i j p q hi hj e => ?_, fun k q hk => ?_⟩
  · obtain ⟨h1, e1⟩ := hlt i p hi
    obtain ⟨h2, e2⟩ := hlt j q hj
    exact hJ i j h1 h2 (by rw [← e1, ← e2]; exact e)
  · obtain ⟨h1, e1⟩ := hlt k q hk
    exact ⟨k, h1, e1⟩
/-- guards, names and steps of the pure functions -/
def gd {α : Type} (b : Bool) (x : Option α) : Option α := if b = true then x else none
theorem gd_some {α : Type} {b : Bool} {x : Option α} {y : α} (h : gd b x = some y) : b = true ∧ x = some y := by
  unfold gd at h
  split at h
  · exact ⟨by assumption, h⟩
  · cases h
def okI (i : Int32) (n : Nat) : Bool := !(decide (i < 0)) && decide (i.toNatClampNeg < n)
theorem okI_in {i : Int32} {n : Nat} (h : okI i n = true) : vp_in i n := by
  unfold okI at h
  simp only [Bool.and_eq_true, Bool.not_eq_true', decide_eq_false_iff_not, decide_eq_true_eq] at h
  intro q
  rcases q with q | q
  · exact h.1 q
  · omega
theorem okI_lt {i : Int32} {n : Nat} (h : okI i n = true) : i.toNatClampNeg < n := by
  unfold okI at h
  simp only [Bool.and_eq_true, Bool.not_eq_true', decide_eq_false_iff_not, decide_eq_true_eq] at h
  exact h.2
def okZ (y : Int32) : Bool := !(decide (y = 0))
theorem okZ_ne {y : Int32} (h : okZ y = true) : ¬ y = 0 := by
  unfold okZ at h
  simpa using h
def okB (y : Int32) : Bool := decide (y &&& 1 = y)
theorem okB_nar {y : Int32} (h : okB y = true) : narrow .boolean (.int y) = .int y := by
  unfold okB at h
  show Value.int (y &&& 1) = _
  rw [of_decide_eq_true h]
def nm {α β : Type} (a : α) (f : α → β) : β := f a
theorem nm_some {α β : Type} {a : α} {f : α → β} {y : β} (h : nm a f = y) : f a = y := h
def bd {α β : Type} (x : Option α) (f : α → Option β) : Option β := x.bind f
theorem bd_some {α β : Type} {x : Option α} {f : α → Option β} {y : β} (h : bd x f = some y) : ∃ z, x = some z ∧ f z = some y := by
  unfold bd at h
  cases x with
  | none => cases h
  | some z => exact ⟨z, rfl, h⟩
def jrem (x y : Int32) : Int32 := x - x / y * y
section T
variable {p : Program} {l : Launch} {e : Env} {R : Room} {s : State} {m : MethodId} {args : Array Value} {below : List Frame} {meth : Method} {c : Code} {H : Heap} {locs : List Loc} {cells slots : Nat} {Q : State → Prop}
variable {cc : ByteArray} {pc : Nat} {ls : Array Slot} {rest : List Value} {D : va_G} {cl : List vw_C} {tys : List (ClassId × FieldType)} {H0 : Heap}
variable {N : Nat} {ad : Nat → Nat} {L : Nat → (Nat → Int32) → va_E} {σ : St}
theorem xt_get (hexec : p.tables.exec = Jvm.exec) (hb : c.code = cc) {own C : String} {T : u_T} {n ci index : Nat} {Ts : List Cond} (hts : ∀ w ∈ Ts, w.before args s = true) (hin : ∀ w ∈ u_ws C T n, w ∈ Ts) (hown : s.vm.findClass own = some m.cls) (hK : va_K D cl tys s) (hP : va_P D cl (wd N ad L σ) H) (k : Nat) (hk : k < N) {fs : List Value} (he : L k (σ k) = .inr (ci, fs)) (hc : cl[ci]? = some (C, T, n)) (j : Nat) (hj : j < n) (hlink : (Cond.fieldLink own index (T j).1 (T j).2.1 (T j).2.2.1).before args s = true) {v : Value} (hv : fs[j]? = some v) (hdg : decode cc pc = .ok (.getfield index, 3))
    (kk : W p l e R s m args below meth c H locs cells slots Q (F0 m (pc + 3) ls (v :: rest))) : W p l e R s m args below meth c H locs cells slots Q (F0 m pc ls (.ref (ad k) :: rest)) :=
  va_get hexec hb hts hin hown hK hP k (wd_atE hk he) hc j hj hlink (fun _ h => h) hv hdg kk
theorem xt_put (hexec : p.tables.exec = Jvm.exec) (hb : c.code = cc) {own C : String} {T : u_T} {n ci index : Nat} {Ts : List Cond} (hts : ∀ w ∈ Ts, w.before args s = true) (hin : ∀ w ∈ u_ws C T n, w ∈ Ts) (ty0 : Nat → FieldType) (hty : ∀ k, k < n → parseFieldDescriptor (T k).2.2.1 = some (ty0 k)) (hnm : ∀ a, a < n → ∀ b, b < n → a ≠ b → (T a).2.1 ≠ (T b).2.1) (hown : s.vm.findClass own = some m.cls) (hK : va_K D cl tys s) (hP : va_P D cl (wd N ad L σ) H) (hJ : WJ N ad) (hS : va_S (WA N ad) H0 H locs) (k : Nat) (hk : k < N) {fs : List Value} (he : L k (σ k) = .inr (ci, fs)) (hc : cl[ci]? = some (C, T, n)) (j : Nat) (hj : j < n) (hlink : (Cond.fieldLink own index (T j).1 (T j).2.1 (T j).2.2.1).before args s = true) (hfin : (T j).2.2.2 = false) {v : Int32} (hn : narrow (ty0 j) (.int v) = .int v) (hfit : fits (ty0 j) (.int v) = true) (hl : j < fs.length) (hset : L k (upd (σ k) j v) = .inr (ci, fs.set j (.int v)))
    (hdg : decode cc pc = .ok (.putfield index, 3)) (kk : ∀ (H1 : Heap) (locs1 : List Loc), va_P D cl (wd N ad L (su σ k j v)) H1 → va_S (WA N ad) H0 H1 locs1 → W p l e R s m args below meth c H1 locs1 cells slots Q (F0 m (pc + 3) ls rest)) : W p l e R s m args below meth c H locs cells slots Q (F0 m pc ls (.int v :: .ref (ad k) :: rest)) :=
  va_put hexec hb hts hin ty0 hty hnm hown hK hP (wd_D σ hJ) hS k (wd_atE hk he) hc j hj hlink (fun _ h => h) hfin (hty j hj) hn hfit hl hdg (fun H1 locs1 h1 _ h3 => kk H1 locs1 (by rw [← hset, wd_set hk] at h1; exact h1) h3)
theorem xt_iald (hexec : p.tables.exec = Jvm.exec) (hb : c.code = cc) (hK : va_K D cl tys s) (hP : va_P D cl (wd N ad L σ) H) (k : Nat) (hk : k < N) (t0 : Nat) {cA : ClassId} {n : Nat} (ha : L k (σ k) = .inl (cA, n, .inl (σ k))) (ht : tys[t0]? = some (cA, .int)) {i : Int32} (hin : okI i n = true) (hdg : decode cc pc = .ok (.iaload, 1))
    (kk : W p l e R s m args below meth c H locs cells slots Q (F0 m (pc + 1) ls (.int (σ k i.toNatClampNeg) :: rest))) : W p l e R s m args below meth c H locs cells slots Q (F0 m pc ls (.int i :: .ref (ad k) :: rest)) :=
  va_iald hexec hb hK hP k t0 (wd_atE hk ha) ht (okI_in hin) hdg kk
theorem xt_zald (hexec : p.tables.exec = Jvm.exec) (hb : c.code = cc) (hK : va_K D cl tys s) (hP : va_P D cl (wd N ad L σ) H) (k : Nat) (hk : k < N) (t0 : Nat) {cA : ClassId} {n : Nat} (ha : L k (σ k) = .inl (cA, n, .inl (σ k))) (ht : tys[t0]? = some (cA, .boolean)) {i : Int32} (hin : okI i n = true) (hdg : decode cc pc = .ok (.baload, 1))
    (kk : W p l e R s m args below meth c H locs cells slots Q (F0 m (pc + 1) ls (.int (σ k i.toNatClampNeg) :: rest))) : W p l e R s m args below meth c H locs cells slots Q (F0 m pc ls (.int i :: .ref (ad k) :: rest)) :=
  va_zald hexec hb hK hP k t0 (wd_atE hk ha) ht (okI_in hin) hdg kk
theorem xt_cald (hexec : p.tables.exec = Jvm.exec) (hb : c.code = cc) (hK : va_K D cl tys s) (hP : va_P D cl (wd N ad L σ) H) (k : Nat) (hk : k < N) (t0 : Nat) {cA : ClassId} {n : Nat} (ha : L k (σ k) = .inl (cA, n, .inl (σ k))) (ht : tys[t0]? = some (cA, .char)) {i : Int32} (hin : okI i n = true) (hdg : decode cc pc = .ok (.caload, 1))
    (kk : W p l e R s m args below meth c H locs cells slots Q (F0 m (pc + 1) ls (.int (σ k i.toNatClampNeg) :: rest))) : W p l e R s m args below meth c H locs cells slots Q (F0 m pc ls (.int i :: .ref (ad k) :: rest)) :=
  va_cald hexec hb hK hP k t0 (wd_atE hk ha) ht (okI_in hin) hdg kk
theorem xt_iast (hexec : p.tables.exec = Jvm.exec) (hb : c.code = cc) (hK : va_K D cl tys s) (hP : va_P D cl (wd N ad L σ) H) (hJ : WJ N ad) (hS : va_S (WA N ad) H0 H locs) (k : Nat) (hk : k < N) (t0 : Nat) {cA : ClassId} {n : Nat} (ha : ∀ row, L k row = .inl (cA, n, .inl row)) (ht : tys[t0]? = some (cA, .int)) {i x : Int32} (hin : okI i n = true) (hdg : decode cc pc = .ok (.iastore, 1))
    (kk : ∀ (H1 : Heap) (locs1 : List Loc), va_P D cl (wd N ad L (su σ k i.toNatClampNeg x)) H1 → va_S (WA N ad) H0 H1 locs1 → W p l e R s m args below meth c H1 locs1 cells slots Q (F0 m (pc + 1) ls rest)) : W p l e R s m args below meth c H locs cells slots Q (F0 m pc ls (.int x :: .int i :: .ref (ad k) :: rest)) :=
  va_iast hexec hb hK hP (wd_D σ hJ) hS k t0 (wd_atE hk (ha _)) ht (okI_in hin) hdg (fun H1 locs1 h1 _ h3 => kk H1 locs1 (by rw [← ha, wd_set hk] at h1; exact h1) h3)
theorem xt_zast (hexec : p.tables.exec = Jvm.exec) (hb : c.code = cc) (hK : va_K D cl tys s) (hP : va_P D cl (wd N ad L σ) H) (hJ : WJ N ad) (hS : va_S (WA N ad) H0 H locs) (k : Nat) (hk : k < N) (t0 : Nat) {cA : ClassId} {n : Nat} (ha : ∀ row, L k row = .inl (cA, n, .inl row)) (ht : tys[t0]? = some (cA, .boolean)) {i x : Int32} (hin : okI i n = true) (hdg : decode cc pc = .ok (.bastore, 1))
    (kk : ∀ (H1 : Heap) (locs1 : List Loc), va_P D cl (wd N ad L (su σ k i.toNatClampNeg (vp_nar .boolean x))) H1 → va_S (WA N ad) H0 H1 locs1 → W p l e R s m args below meth c H1 locs1 cells slots Q (F0 m (pc + 1) ls rest)) : W p l e R s m args below meth c H locs cells slots Q (F0 m pc ls (.int x :: .int i :: .ref (ad k) :: rest)) :=
  va_zast hexec hb hK hP (wd_D σ hJ) hS k t0 (wd_atE hk (ha _)) ht (okI_in hin) hdg (fun H1 locs1 h1 _ h3 => kk H1 locs1 (by rw [← ha, wd_set hk] at h1; exact h1) h3)
theorem xt_cast (hexec : p.tables.exec = Jvm.exec) (hb : c.code = cc) (hK : va_K D cl tys s) (hP : va_P D cl (wd N ad L σ) H) (hJ : WJ N ad) (hS : va_S (WA N ad) H0 H locs) (k : Nat) (hk : k < N) (t0 : Nat) {cA : ClassId} {n : Nat} (ha : ∀ row, L k row = .inl (cA, n, .inl row)) (ht : tys[t0]? = some (cA, .char)) {i x : Int32} (hin : okI i n = true) (hdg : decode cc pc = .ok (.castore, 1))
    (kk : ∀ (H1 : Heap) (locs1 : List Loc), va_P D cl (wd N ad L (su σ k i.toNatClampNeg (vp_nar .char x))) H1 → va_S (WA N ad) H0 H1 locs1 → W p l e R s m args below meth c H1 locs1 cells slots Q (F0 m (pc + 1) ls rest)) : W p l e R s m args below meth c H locs cells slots Q (F0 m pc ls (.int x :: .int i :: .ref (ad k) :: rest)) :=
  va_cast hexec hb hK hP (wd_D σ hJ) hS k t0 (wd_atE hk (ha _)) ht (okI_in hin) hdg (fun H1 locs1 h1 _ h3 => kk H1 locs1 (by rw [← ha, wd_set hk] at h1; exact h1) h3)
theorem xt_irem (hexec : p.tables.exec = Jvm.exec) (hb : c.code = cc) {x y : Int32} (hdg : decode cc pc = .ok (.irem, 1)) (hne : ¬ y = 0)
    (k : W p l e R s m args below meth c H locs cells slots Q (F0 m (pc + 1) ls (.int (jrem x y) :: rest))) : W p l e R s m args below meth c H locs cells slots Q (F0 m pc ls (.int y :: .int x :: rest)) := lv_irem hexec hb hdg hne k
end T
/-- contracts of methods over a world that stays: the answer r, the state behind σ' -/
def Pcw (av : List Value) (D : va_G) (tys : List (ClassId × FieldType)) (N : Nat) (ad : Nat → Nat) (L : Nat → (Nat → Int32) → va_E) (σ : St) : Array Value → State → Prop := va_Pc av (fun U => va_P D vwCl (wd N ad L σ) U.heap ∧ va_K D vwCl tys U)
def Bw (D : va_G) (N : Nat) (ad : Nat → Nat) (L : Nat → (Nat → Int32) → va_E) : St → State → Prop := fun u t => va_P D vwCl (wd N ad L u) t.heap
def Qiw (D : va_G) (N : Nat) (ad : Nat → Nat) (L : Nat → (Nat → Int32) → va_E) (r : Int32) (σ' : St) : Array Value → State → Outcome → State → Prop := va_Qi (fun (v : Int32) (u : St) => v = r ∧ u = σ') (Bw D N ad L) (WA N ad)
def Qvw (D : va_G) (N : Nat) (ad : Nat → Nat) (L : Nat → (Nat → Int32) → va_E) (σ' : St) : Array Value → State → Outcome → State → Prop := va_Qv (fun (u : St) => u = σ') (Bw D N ad L) (WA N ad)
def Qrw (D : va_G) (N : Nat) (ad : Nat → Nat) (L : Nat → (Nat → Int32) → va_E) (r : Nat) (σ' : St) : Array Value → State → Outcome → State → Prop := va_Qr (fun (u : St) => u = σ') (fun u a t => Bw D N ad L u t ∧ a = ad r) (WA N ad)
def CMi (l : Launch) (y : MethodName) (ws : List Cond) (rm : Room) (D : va_G) (tys : List (ClassId × FieldType)) (N : Nat) (ad : Nat → Nat) (L : Nat → (Nat → Int32) → va_E) (av : List Value) (σ : St) (r : Int32) (σ' : St) : Prop := Met l y ws rm (Pcw av D tys N ad L σ) (Qiw D N ad L r σ') 0 0 (WA N ad)
def CMv (l : Launch) (y : MethodName) (ws : List Cond) (rm : Room) (D : va_G) (tys : List (ClassId × FieldType)) (N : Nat) (ad : Nat → Nat) (L : Nat → (Nat → Int32) → va_E) (av : List Value) (σ : St) (σ' : St) : Prop := Met l y ws rm (Pcw av D tys N ad L σ) (Qvw D N ad L σ') 0 0 (WA N ad)
def CMr (l : Launch) (y : MethodName) (ws : List Cond) (rm : Room) (D : va_G) (tys : List (ClassId × FieldType)) (N : Nat) (ad : Nat → Nat) (L : Nat → (Nat → Int32) → va_E) (av : List Value) (σ : St) (r : Nat) (σ' : St) : Prop := Met l y ws rm (Pcw av D tys N ad L σ) (Qrw D N ad L r σ') 0 0 (WA N ad)
theorem Pcw_blind {av : List Value} {D : va_G} {tys : List (ClassId × FieldType)} {N : Nat} {ad : Nat → Nat} {L : Nat → (Nat → Int32) → va_E} {σ : St} : FrameBlind (Pcw av D tys N ad L σ) := fun a U g mk q => by
  obtain ⟨q0, qP, qK⟩ := q
  exact ⟨q0, qP, va_K.moved (u := U) (U := U.calling g mk a) (Vm.Alike.refl U.vm) qK⟩
section TC
variable {p : Program} {l : Launch} {e : Env} {R : Room} {s : State} {m : MethodId} {args : Array Value} {below : List Frame} {meth : Method} {c : Code} {H : Heap} {locs : List Loc} {cells slots : Nat} {Q : State → Prop}
variable {cc : ByteArray} {pc : Nat} {ls : Array Slot} {rest st : List Value} {D : va_G} {tys : List (ClassId × FieldType)} {H0 : Heap}
variable {N : Nat} {ad : Nat → Nat} {L : Nat → (Nat → Int32) → va_E} {σ σ' : St} {r : Int32}
variable {Ts ws : List Cond} {bytes : ByteArray} {nL maxL index n : Nat} {own C : String} {y : MethodName} {ret : Option FieldType} {rm : Room} {As : List Value}
theorem xt_callVi (S : CallFix p m c cc nL s args Ts own) (k : Nat) (hM : CMi l y ws rm D tys N ad L (.ref (ad k) :: As) σ r σ') (cw : CallW R s args own C index y bytes maxL ret ws rm 0 0 n) (hK : va_K D vwCl tys s) (hP : va_P D vwCl (wd N ad L σ) H) (hS : va_S (WA N ad) H0 H locs) (hk : k < N) {ci : Nat} {fs : List Value} (he : L k (σ k) = .inr (ci, fs)) {T : u_T} {nf : Nat} (hc : vwCl[ci]? = some (C, T, nf))
    (hst : st = As.reverse ++ .ref (ad k) :: rest) (hn : As.length = n) (hsize : ls.size = nL) (hW : (rest.map fun v => v.category).sum ≤ 8) (hf : cells ≤ R.cells ∧ slots ≤ R.slots) (hdg : decode cc pc = .ok (.invokevirtual index, 3))
    (kk : ∀ (H1 : Heap) (locs1 : List Loc), va_P D vwCl (wd N ad L σ') H1 → va_S (WA N ad) H0 H1 locs1 → W p l e R s m args below meth c H1 locs1 cells slots Q (F0 m (pc + 3) ls (.int r :: rest))) : W p l e R s m args below meth c H locs cells slots Q (F0 m pc ls st) := by
  subst hst
  refine va_calli (va_runV (As := As) (rest := rest) S hM cw ⟨Pcw_blind, va_recv hK hP hc (wd_atE hk he), fun U hU hW => ⟨rfl, by rw [hU]; exact hP, va_K.moved hW.alike hK⟩⟩ rfl hn hsize rfl (lv_room hW) hdg hf) hS (fun _ _ h => h) (fun _ h => h) (fun v u t H1 locs1 ht _ hw hB _ _ hS1 => ?_)
  obtain ⟨rfl, rfl⟩ := hw
  exact kk H1 locs1 (by rw [← ht]; exact hB) hS1
theorem xt_callVv (S : CallFix p m c cc nL s args Ts own) (k : Nat) (hM : CMv l y ws rm D tys N ad L (.ref (ad k) :: As) σ σ') (cw : CallW R s args own C index y bytes maxL ret ws rm 0 0 n) (hK : va_K D vwCl tys s) (hP : va_P D vwCl (wd N ad L σ) H) (hS : va_S (WA N ad) H0 H locs) (hk : k < N) {ci : Nat} {fs : List Value} (he : L k (σ k) = .inr (ci, fs)) {T : u_T} {nf : Nat} (hc : vwCl[ci]? = some (C, T, nf))
    (hst : st = As.reverse ++ .ref (ad k) :: rest) (hn : As.length = n) (hsize : ls.size = nL) (hW : (rest.map fun v => v.category).sum ≤ 8) (hf : cells ≤ R.cells ∧ slots ≤ R.slots) (hdg : decode cc pc = .ok (.invokevirtual index, 3))
    (kk : ∀ (H1 : Heap) (locs1 : List Loc), va_P D vwCl (wd N ad L σ') H1 → va_S (WA N ad) H0 H1 locs1 → W p l e R s m args below meth c H1 locs1 cells slots Q (F0 m (pc + 3) ls rest)) : W p l e R s m args below meth c H locs cells slots Q (F0 m pc ls st) := by
  subst hst
  refine va_callv (va_runV (As := As) (rest := rest) S hM cw ⟨Pcw_blind, va_recv hK hP hc (wd_atE hk he), fun U hU hW => ⟨rfl, by rw [hU]; exact hP, va_K.moved hW.alike hK⟩⟩ rfl hn hsize rfl (lv_room hW) hdg hf) hS (fun _ _ h => h) (fun _ h => h) (fun u t H1 locs1 ht _ hw hB _ _ hS1 => ?_)
  obtain rfl := hw
  exact kk H1 locs1 (by rw [← ht]; exact hB) hS1
theorem xt_callVr {q : Nat} (S : CallFix p m c cc nL s args Ts own) (k : Nat) (hM : CMr l y ws rm D tys N ad L (.ref (ad k) :: As) σ q σ') (cw : CallW R s args own C index y bytes maxL ret ws rm 0 0 n) (hK : va_K D vwCl tys s) (hP : va_P D vwCl (wd N ad L σ) H) (hS : va_S (WA N ad) H0 H locs) (hk : k < N) {ci : Nat} {fs : List Value} (he : L k (σ k) = .inr (ci, fs)) {T : u_T} {nf : Nat} (hc : vwCl[ci]? = some (C, T, nf))
    (hst : st = As.reverse ++ .ref (ad k) :: rest) (hn : As.length = n) (hsize : ls.size = nL) (hW : (rest.map fun v => v.category).sum ≤ 8) (hf : cells ≤ R.cells ∧ slots ≤ R.slots) (hdg : decode cc pc = .ok (.invokevirtual index, 3))
    (kk : ∀ (H1 : Heap) (locs1 : List Loc), va_P D vwCl (wd N ad L σ') H1 → va_S (WA N ad) H0 H1 locs1 → W p l e R s m args below meth c H1 locs1 cells slots Q (F0 m (pc + 3) ls (.ref (ad q) :: rest))) : W p l e R s m args below meth c H locs cells slots Q (F0 m pc ls st) := by
  subst hst
  refine va_callr (va_runV (As := As) (rest := rest) S hM cw ⟨Pcw_blind, va_recv hK hP hc (wd_atE hk he), fun U hU hW => ⟨rfl, by rw [hU]; exact hP, va_K.moved hW.alike hK⟩⟩ rfl hn hsize rfl (lv_room hW) hdg hf) hS (fun _ _ h => h) (fun _ h => h) (fun u ra t H1 locs1 ht _ hw hB _ _ hS1 => ?_)
  obtain rfl := hw
  obtain ⟨hB, rfl⟩ := hB
  exact kk H1 locs1 (by rw [← ht]; exact hB) hS1
theorem xt_callSi (S : CallFix p m c cc nL s args Ts own) (hM : CMi l y ws rm D tys N ad L As σ r σ') (cw : CallB R s args own index y bytes maxL ret ws rm 0 0 n ∧ (Cond.static y).before args s = true) (hK : va_K D vwCl tys s) (hP : va_P D vwCl (wd N ad L σ) H) (hS : va_S (WA N ad) H0 H locs)
    (hst : st = As.reverse ++ rest) (hn : As.length = n) (hsize : ls.size = nL) (hW : (rest.map fun v => v.category).sum ≤ 8) (hf : cells ≤ R.cells ∧ slots ≤ R.slots) (hdg : decode cc pc = .ok (.invokestatic index, 3))
    (kk : ∀ (H1 : Heap) (locs1 : List Loc), va_P D vwCl (wd N ad L σ') H1 → va_S (WA N ad) H0 H1 locs1 → W p l e R s m args below meth c H1 locs1 cells slots Q (F0 m (pc + 3) ls (.int r :: rest))) : W p l e R s m args below meth c H locs cells slots Q (F0 m pc ls st) := by
  subst hst
  refine va_calli (va_runS (As := As) (rest := rest) S hM cw ⟨Pcw_blind, fun U hU hW => ⟨rfl, by rw [hU]; exact hP, va_K.moved hW.alike hK⟩⟩ rfl hn hsize rfl (lv_room hW) hdg hf) hS (fun _ _ h => h) (fun _ h => h) (fun v u t H1 locs1 ht _ hw hB _ _ hS1 => ?_)
  obtain ⟨rfl, rfl⟩ := hw
  exact kk H1 locs1 (by rw [← ht]; exact hB) hS1
theorem xt_callSv (S : CallFix p m c cc nL s args Ts own) (hM : CMv l y ws rm D tys N ad L As σ σ') (cw : CallB R s args own index y bytes maxL ret ws rm 0 0 n ∧ (Cond.static y).before args s = true) (hK : va_K D vwCl tys s) (hP : va_P D vwCl (wd N ad L σ) H) (hS : va_S (WA N ad) H0 H locs)
    (hst : st = As.reverse ++ rest) (hn : As.length = n) (hsize : ls.size = nL) (hW : (rest.map fun v => v.category).sum ≤ 8) (hf : cells ≤ R.cells ∧ slots ≤ R.slots) (hdg : decode cc pc = .ok (.invokestatic index, 3))
    (kk : ∀ (H1 : Heap) (locs1 : List Loc), va_P D vwCl (wd N ad L σ') H1 → va_S (WA N ad) H0 H1 locs1 → W p l e R s m args below meth c H1 locs1 cells slots Q (F0 m (pc + 3) ls rest)) : W p l e R s m args below meth c H locs cells slots Q (F0 m pc ls st) := by
  subst hst
  refine va_callv (va_runS (As := As) (rest := rest) S hM cw ⟨Pcw_blind, fun U hU hW => ⟨rfl, by rw [hU]; exact hP, va_K.moved hW.alike hK⟩⟩ rfl hn hsize rfl (lv_room hW) hdg hf) hS (fun _ _ h => h) (fun _ h => h) (fun u t H1 locs1 ht _ hw hB _ _ hS1 => ?_)
  obtain rfl := hw
  exact kk H1 locs1 (by rw [← ht]; exact hB) hS1
theorem xt_iret {v : Int32} {ls : Array Slot} (hx : p.tables.exec = Jvm.exec) (hb : c.code = cc) (hr : meth.sig.returnType = some .int) (hP : va_P D vwCl (wd N ad L σ) H) (hS : va_S (WA N ad) s.heap H locs) (hv : v = r) (hσ : σ = σ') (hdg : decode cc pc = .ok (.ireturn, 1)) (hlocks : meth.locks = false) : W p l e R s m args below meth c H locs cells slots (MQ below (Qiw D N ad L r σ') args s cells slots (WA N ad)) (F0 m pc ls [.int v]) := by
  subst hv
  subst hσ
  exact W.iret hx hb hr (fun t ht _ => ⟨⟨_, _, rfl, ⟨rfl, rfl⟩, by show va_P D vwCl (wd N ad L σ) t.heap; rw [ht]; exact hP⟩, hS.F ht⟩) hS.2.2 hdg hlocks
theorem xt_zret {v : Int32} {ls : Array Slot} {ty : FieldType} (hx : p.tables.exec = Jvm.exec) (hb : c.code = cc) (hr : meth.sig.returnType = some ty) (hn : narrow ty (.int v) = .int v) (hP : va_P D vwCl (wd N ad L σ) H) (hS : va_S (WA N ad) s.heap H locs) (hv : v = r) (hσ : σ = σ') (hdg : decode cc pc = .ok (.ireturn, 1)) (hlocks : meth.locks = false) : W p l e R s m args below meth c H locs cells slots (MQ below (Qiw D N ad L r σ') args s cells slots (WA N ad)) (F0 m pc ls [.int v]) := by
  subst hv
  subst hσ
  exact W.zret hx hb hr hn (fun t ht _ => ⟨⟨_, _, rfl, ⟨rfl, rfl⟩, by show va_P D vwCl (wd N ad L σ) t.heap; rw [ht]; exact hP⟩, hS.F ht⟩) hS.2.2 hdg hlocks
theorem xt_vret {ls : Array Slot} (hx : p.tables.exec = Jvm.exec) (hb : c.code = cc) (hr : meth.sig.returnType = none) (hP : va_P D vwCl (wd N ad L σ) H) (hS : va_S (WA N ad) s.heap H locs) (hσ : σ = σ') (hdg : decode cc pc = .ok (.return_, 1)) (hlocks : meth.locks = false) : W p l e R s m args below meth c H locs cells slots (MQ below (Qvw D N ad L σ') args s cells slots (WA N ad)) (F0 m pc ls []) := by
  subst hσ
  exact W.vret hx hb hr (fun t ht _ => ⟨⟨_, rfl, rfl, by show va_P D vwCl (wd N ad L σ) t.heap; rw [ht]; exact hP⟩, hS.F ht⟩) hS.2.2 hdg hlocks
theorem xt_aret {ls : Array Slot} {k q : Nat} {nm0 : String} (hx : p.tables.exec = Jvm.exec) (hb : c.code = cc) (hr : meth.sig.returnType = some (.object nm0)) (hP : va_P D vwCl (wd N ad L σ) H) (hS : va_S (WA N ad) s.heap H locs) (hv : k = q) (hσ : σ = σ') (hdg : decode cc pc = .ok (.areturn, 1)) (hlocks : meth.locks = false) : W p l e R s m args below meth c H locs cells slots (MQ below (Qrw D N ad L q σ') args s cells slots (WA N ad)) (F0 m pc ls [.ref (ad k)]) := by
  subst hv
  subst hσ
  exact W.aret hx hb hr (Or.inl ⟨_, rfl⟩) (Or.inr ⟨_, rfl⟩) (fun t ht _ => ⟨⟨_, _, rfl, rfl, by show va_P D vwCl (wd N ad L σ) t.heap; rw [ht]; exact hP, rfl⟩, hS.F ht⟩) hS.2.2 hdg hlocks
end TC
def okC (sp dp n : Int32) (n0 n1 : Nat) : Bool := !(decide (sp < 0)) && !(decide (dp < 0)) && !(decide (n < 0)) && decide (sp.toNatClampNeg + n.toNatClampNeg ≤ n0) && decide (dp.toNatClampNeg + n.toNatClampNeg ≤ n1)
theorem okC_all {sp dp n : Int32} {n0 n1 : Nat} (h : okC sp dp n n0 n1 = true) : ¬ sp < 0 ∧ ¬ dp < 0 ∧ ¬ n < 0 ∧ sp.toNatClampNeg + n.toNatClampNeg ≤ n0 ∧ dp.toNatClampNeg + n.toNatClampNeg ≤ n1 := by
  unfold okC at h
  simp only [Bool.and_eq_true, Bool.not_eq_true', decide_eq_false_iff_not, decide_eq_true_eq] at h
  exact ⟨h.1.1.1.1, h.1.1.1.2, h.1.1.2, h.1.2, h.2⟩
def okBs (f : Nat → Int32) (sp n : Nat) : Bool := (List.range n).all (fun i => f (sp + i) == 0 || f (sp + i) == 1)
theorem okBs_fit {f : Nat → Int32} {sp n : Nat} (h : okBs f sp n = true) : ∀ i, i < n → fits .boolean (.int (f (sp + i))) = true := by
  intro i hi
  unfold okBs at h
  exact List.all_eq_true.mp h i (List.mem_range.mpr hi)
def fl (n : Nat) (v : Int32) (row : Nat → Int32) : Nat → Int32 := fun j => if j < n then v else row j
theorem nm_to {α β : Type} {a x : α} {f : α → β} {y : β} (h : nm a f = y) (e : x = a) : f x = y := by
  subst e
  exact h
section TD
variable {p : Program} {l : Launch} {e : Env} {R : Room} {s : State} {m : MethodId} {args : Array Value} {below : List Frame} {meth : Method} {c : Code} {H : Heap} {locs : List Loc} {cells slots : Nat} {Q : State → Prop}
variable {cc : ByteArray} {pc : Nat} {ls : Array Slot} {rest : List Value} {D : va_G} {cl : List vw_C} {tys : List (ClassId × FieldType)} {H0 : Heap}
variable {N : Nat} {ad : Nat → Nat} {L : Nat → (Nat → Int32) → va_E} {σ : St}
theorem xt_copy (hexec : p.tables.exec = Jvm.exec) (hb : c.code = cc) (hml : c.maxLocals = ls.size) {own : String} {index : Nat} (hown : s.vm.findClass own = some m.cls) (hlink : (Cond.methodLink own index arraycopyName).before args s = true) (hnat : (Cond.native arraycopyName).before args s = true) (hstat : (Cond.static arraycopyName).before args s = true) (hini : (Cond.initialized "java/lang/System").before args s = true)
    (hK : va_K D cl tys s) (hP : va_P D cl (wd N ad L σ) H) (hJ : WJ N ad) (hS : va_S (WA N ad) H0 H locs) (k0 k1 t0 : Nat) (hk0 : k0 < N) (hk1 : k1 < N) {cA : ClassId} {n0 n1 : Nat} {ty : FieldType} (ha0 : ∀ row, L k0 row = .inl (cA, n0, .inl row)) (ha1 : ∀ row, L k1 row = .inl (cA, n1, .inl row)) (ht : tys[t0]? = some (cA, ty)) (hprim : refKind ty = false)
    {sp dp n : Int32} (hg : okC sp dp n n0 n1 = true) (hfit : ∀ i, i < n.toNatClampNeg → fits ty (.int (σ k0 (sp.toNatClampNeg + i))) = true)
    (hframes : 1 ≤ R.frames) (hlocals : (rest.map fun v => v.category).sum + (nativeFrameWords "java/lang/System" "arraycopy" 5 + 11) ≤ R.locals) (hdg : decode cc pc = .ok (.invokestatic index, 3))
    (kk : ∀ (H1 : Heap) (locs1 : List Loc), va_P D cl (wd N ad L (sr σ k1 (va_cpy (σ k0) (σ k1) sp.toNatClampNeg dp.toNatClampNeg n.toNatClampNeg))) H1 → va_S (WA N ad) H0 H1 locs1 → W p l e R s m args below meth c H1 locs1 cells slots Q (F0 m (pc + 3) ls rest)) : W p l e R s m args below meth c H locs cells slots Q (F0 m pc ls (.int n :: .int dp :: .ref (ad k1) :: .int sp :: .ref (ad k0) :: rest)) := by
  obtain ⟨h1, h2, h3, h4, h5⟩ := okC_all hg
  exact va_copyi hexec hb hml hown hlink hnat hstat hini hK hP (wd_D σ hJ) hS k0 k1 t0 t0 (wd_atE hk0 (ha0 _)) (wd_atE hk1 (ha1 _)) ht ht hprim h1 h2 h3 h4 h5 hfit hframes hlocals hdg (fun H1 locs1 q1 _ q3 => kk H1 locs1 (by rw [← ha1, wd_set hk1] at q1; exact q1) q3)
theorem xt_aaldq (hexec : p.tables.exec = Jvm.exec) (hb : c.code = cc) (hK : va_K D cl tys s) (hP : va_P D cl (wd N ad L σ) H) (k : Nat) (hk : k < N) (t0 : Nat) {cA : ClassId} {C : String} {n : Nat} {f : Nat → Nat} (ha : L k (σ k) = .inl (cA, n, .inr (.inr (.inr (.inr (fun j => some (ad (f j)))))))) (ht : tys[t0]? = some (cA, .object C)) {i : Int32} (hin : okI i n = true) (hdg : decode cc pc = .ok (.aaload, 1))
    (kk : W p l e R s m args below meth c H locs cells slots Q (F0 m (pc + 1) ls (.ref (ad (f i.toNatClampNeg)) :: rest))) : W p l e R s m args below meth c H locs cells slots Q (F0 m pc ls (.int i :: .ref (ad k) :: rest)) :=
  va_aldq hexec hb hK hP k t0 (wd_atE hk ha) ht (okI_in hin) hdg kk
end TD
