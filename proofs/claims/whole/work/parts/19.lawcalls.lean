/-! The law: two systems side by side; every call's answers are the same (Sim), so the law goes on to its end. -/
def Sim (R : St → St → Prop) : Prop := ∀ σX σM, R σX σM →
  (∀ a : Int32, ∃ r σX' σM', fX6_pier σX a = some (r, σX') ∧ fX7_pier σM a = some (r, σM') ∧ R σX' σM') ∧
  (∀ a : Int32, ∃ r σX' σM', fX6_close σX a = some (r, σX') ∧ fX7_close σM a = some (r, σM') ∧ R σX' σM') ∧
  (∀ a : Int32, ∃ r σX' σM', fX6_open σX a = some (r, σX') ∧ fX7_open σM a = some (r, σM') ∧ R σX' σM') ∧
  (∀ a b : Int32, ∃ r σX' σM', fX6_weigh σX a b = some (r, σX') ∧ fX7_weigh σM a b = some (r, σM') ∧ R σX' σM') ∧
  (∀ a : Int32, ∃ r σX' σM', fX6_berth σX a = some (r, σX') ∧ fX7_berth σM a = some (r, σM') ∧ R σX' σM') ∧
  (∀ a b : Int32, ∃ r σM', fX6_pierOf σX a b = some r ∧ fX7_pierOf σM a b = some (r, σM') ∧ R σX σM') ∧
  (∀ a : Int32, ∃ r σM', fX6_neighbours σX a = some r ∧ fX7_neighbours σM a = some (r, σM') ∧ R σX σM') ∧
  (∀ a b : Int32, ∃ r σX' σM', fX6_barge σX a b = some (r, σX') ∧ fX7_barge σM a b = some (r, σM') ∧ R σX' σM') ∧
  (∀ a : Int32, ∃ r σX' σM', fX6_leave σX a = some (r, σX') ∧ fX7_leave σM a = some (r, σM') ∧ R σX' σM') ∧
  (∀ a b : Int32, ∃ r σX' σM', fX6_load σX a b = some (r, σX') ∧ fX7_load σM a b = some (r, σM') ∧ R σX' σM') ∧
  (∀ a b : Int32, ∃ r σM', fX6_bargeOf σX a b = some r ∧ fX7_bargeOf σM a b = some (r, σM') ∧ R σX σM') ∧
  (∀ a : Int32, ∃ r σM', fX6_home σX a = some r ∧ fX7_home σM a = some (r, σM') ∧ R σX σM') ∧
  (∀ a : Int32, ∃ r σM', fX6_homeAgain σX a = some r ∧ fX7_homeAgain σM a = some (r, σM') ∧ R σX σM') ∧
  (∀ a : Int32, ∃ r σM', fX6_homeOf σX a = some r ∧ fX7_homeOf σM a = some (r, σM') ∧ R σX σM') ∧
  (∀ a b : Int32, ∃ r σM', fX6_ring σX a b = some r ∧ fX7_ring σM a b = some (r, σM') ∧ R σX σM') ∧
  (∃ r σM', fX6_deep σX = some r ∧ fX7_deep σM = some (r, σM') ∧ R σX σM') ∧
  (∀ a : Int32, ∃ r σX' σM', fX6_wouldMove σX a = some (r, σX') ∧ fX7_wouldMove σM a = some (r, σM') ∧ R σX' σM') ∧
  (∀ a : Int32, ∃ r σX' σM', fX6_wouldClose σX a = some (r, σX') ∧ fX7_wouldClose σM a = some (r, σM') ∧ R σX' σM') ∧
  (∀ a : Int32, ∃ r σM', fX6_hottest σX a = some r ∧ fX7_hottest σM a = some (r, σM') ∧ R σX σM') ∧
  (∀ a : Int32, ∃ r σX' σM', fX6_append σX a = some (r, σX') ∧ fX7_append σM a = some (r, σM') ∧ R σX' σM') ∧
  (∃ r σX' σM', fX6_run σX = some (r, σX') ∧ fX7_run σM = some (r, σM') ∧ R σX' σM') ∧
  (∀ a : Int32, ∃ r σX' σM', fX6_tell σX a = some (r, σX') ∧ fX7_tell σM a = some (r, σM') ∧ R σX' σM') ∧
  (∀ a : Int32, ∃ r σX' σM', fX6_tellBarge σX a = some (r, σX') ∧ fX7_tellBarge σM a = some (r, σM') ∧ R σX' σM') ∧
  (∀ a : Int32, ∃ r, fX6_character σX a = some r ∧ fX7_character σM a = some r) ∧
  (∀ a : Int32, a = 0 ∨ a = 1 → ∃ r, fX6_reason σX a = some r ∧ fX7_reason σM a = some r) ∧
  (∀ a : Int32, ∃ r σM', fX6_account σX a = some r ∧ fX7_account σM a = some (r, σM') ∧ R σX σM') ∧
  (∃ r σX', fX6_isBalanced σX = some (r, σX') ∧ fX7_isBalanced σM = some r ∧ R σX' σM) ∧
  (∃ z, fX6_meanStretch σX = some z ∧ fX7_meanStretch σM = some z) ∧
  (∃ z σM', fX6_takenShare σX = some z ∧ fX7_takenShare σM = some (z, σM') ∧ R σX σM') ∧
  (∃ r σX' σM', fX6_undo σX = some (r, σX') ∧ fX7_undo σM = some (r, σM') ∧ R σX' σM') ∧
  (∃ r σX' σM', fX6_save σX = some (r, σX') ∧ fX7_save σM = some (r, σM') ∧ R σX' σM') ∧
  (∃ r σX' σM', fX6_restore σX = some (r, σX') ∧ fX7_restore σM = some (r, σM') ∧ R σX' σM')
theorem sim_pier {R : St → St → Prop} (h : Sim R) {σX σM : St} (hr : R σX σM) : (∀ a : Int32, ∃ r σX' σM', fX6_pier σX a = some (r, σX') ∧ fX7_pier σM a = some (r, σM') ∧ R σX' σM') := (h σX σM hr).1
theorem sim_close {R : St → St → Prop} (h : Sim R) {σX σM : St} (hr : R σX σM) : (∀ a : Int32, ∃ r σX' σM', fX6_close σX a = some (r, σX') ∧ fX7_close σM a = some (r, σM') ∧ R σX' σM') := (h σX σM hr).2.1
theorem sim_open {R : St → St → Prop} (h : Sim R) {σX σM : St} (hr : R σX σM) : (∀ a : Int32, ∃ r σX' σM', fX6_open σX a = some (r, σX') ∧ fX7_open σM a = some (r, σM') ∧ R σX' σM') := (h σX σM hr).2.2.1
theorem sim_weigh {R : St → St → Prop} (h : Sim R) {σX σM : St} (hr : R σX σM) : (∀ a b : Int32, ∃ r σX' σM', fX6_weigh σX a b = some (r, σX') ∧ fX7_weigh σM a b = some (r, σM') ∧ R σX' σM') := (h σX σM hr).2.2.2.1
theorem sim_berth {R : St → St → Prop} (h : Sim R) {σX σM : St} (hr : R σX σM) : (∀ a : Int32, ∃ r σX' σM', fX6_berth σX a = some (r, σX') ∧ fX7_berth σM a = some (r, σM') ∧ R σX' σM') := (h σX σM hr).2.2.2.2.1
theorem sim_pierOf {R : St → St → Prop} (h : Sim R) {σX σM : St} (hr : R σX σM) : (∀ a b : Int32, ∃ r σM', fX6_pierOf σX a b = some r ∧ fX7_pierOf σM a b = some (r, σM') ∧ R σX σM') := (h σX σM hr).2.2.2.2.2.1
theorem sim_neighbours {R : St → St → Prop} (h : Sim R) {σX σM : St} (hr : R σX σM) : (∀ a : Int32, ∃ r σM', fX6_neighbours σX a = some r ∧ fX7_neighbours σM a = some (r, σM') ∧ R σX σM') := (h σX σM hr).2.2.2.2.2.2.1
theorem sim_barge {R : St → St → Prop} (h : Sim R) {σX σM : St} (hr : R σX σM) : (∀ a b : Int32, ∃ r σX' σM', fX6_barge σX a b = some (r, σX') ∧ fX7_barge σM a b = some (r, σM') ∧ R σX' σM') := (h σX σM hr).2.2.2.2.2.2.2.1
theorem sim_leave {R : St → St → Prop} (h : Sim R) {σX σM : St} (hr : R σX σM) : (∀ a : Int32, ∃ r σX' σM', fX6_leave σX a = some (r, σX') ∧ fX7_leave σM a = some (r, σM') ∧ R σX' σM') := (h σX σM hr).2.2.2.2.2.2.2.2.1
theorem sim_load {R : St → St → Prop} (h : Sim R) {σX σM : St} (hr : R σX σM) : (∀ a b : Int32, ∃ r σX' σM', fX6_load σX a b = some (r, σX') ∧ fX7_load σM a b = some (r, σM') ∧ R σX' σM') := (h σX σM hr).2.2.2.2.2.2.2.2.2.1
theorem sim_bargeOf {R : St → St → Prop} (h : Sim R) {σX σM : St} (hr : R σX σM) : (∀ a b : Int32, ∃ r σM', fX6_bargeOf σX a b = some r ∧ fX7_bargeOf σM a b = some (r, σM') ∧ R σX σM') := (h σX σM hr).2.2.2.2.2.2.2.2.2.2.1
theorem sim_home {R : St → St → Prop} (h : Sim R) {σX σM : St} (hr : R σX σM) : (∀ a : Int32, ∃ r σM', fX6_home σX a = some r ∧ fX7_home σM a = some (r, σM') ∧ R σX σM') := (h σX σM hr).2.2.2.2.2.2.2.2.2.2.2.1
theorem sim_homeAgain {R : St → St → Prop} (h : Sim R) {σX σM : St} (hr : R σX σM) : (∀ a : Int32, ∃ r σM', fX6_homeAgain σX a = some r ∧ fX7_homeAgain σM a = some (r, σM') ∧ R σX σM') := (h σX σM hr).2.2.2.2.2.2.2.2.2.2.2.2.1
theorem sim_homeOf {R : St → St → Prop} (h : Sim R) {σX σM : St} (hr : R σX σM) : (∀ a : Int32, ∃ r σM', fX6_homeOf σX a = some r ∧ fX7_homeOf σM a = some (r, σM') ∧ R σX σM') := (h σX σM hr).2.2.2.2.2.2.2.2.2.2.2.2.2.1
theorem sim_ring {R : St → St → Prop} (h : Sim R) {σX σM : St} (hr : R σX σM) : (∀ a b : Int32, ∃ r σM', fX6_ring σX a b = some r ∧ fX7_ring σM a b = some (r, σM') ∧ R σX σM') := (h σX σM hr).2.2.2.2.2.2.2.2.2.2.2.2.2.2.1
theorem sim_deep {R : St → St → Prop} (h : Sim R) {σX σM : St} (hr : R σX σM) : (∃ r σM', fX6_deep σX = some r ∧ fX7_deep σM = some (r, σM') ∧ R σX σM') := (h σX σM hr).2.2.2.2.2.2.2.2.2.2.2.2.2.2.2.1
theorem sim_wouldMove {R : St → St → Prop} (h : Sim R) {σX σM : St} (hr : R σX σM) : (∀ a : Int32, ∃ r σX' σM', fX6_wouldMove σX a = some (r, σX') ∧ fX7_wouldMove σM a = some (r, σM') ∧ R σX' σM') := (h σX σM hr).2.2.2.2.2.2.2.2.2.2.2.2.2.2.2.2.1
theorem sim_wouldClose {R : St → St → Prop} (h : Sim R) {σX σM : St} (hr : R σX σM) : (∀ a : Int32, ∃ r σX' σM', fX6_wouldClose σX a = some (r, σX') ∧ fX7_wouldClose σM a = some (r, σM') ∧ R σX' σM') := (h σX σM hr).2.2.2.2.2.2.2.2.2.2.2.2.2.2.2.2.2.1
theorem sim_hottest {R : St → St → Prop} (h : Sim R) {σX σM : St} (hr : R σX σM) : (∀ a : Int32, ∃ r σM', fX6_hottest σX a = some r ∧ fX7_hottest σM a = some (r, σM') ∧ R σX σM') := (h σX σM hr).2.2.2.2.2.2.2.2.2.2.2.2.2.2.2.2.2.2.1
theorem sim_append {R : St → St → Prop} (h : Sim R) {σX σM : St} (hr : R σX σM) : (∀ a : Int32, ∃ r σX' σM', fX6_append σX a = some (r, σX') ∧ fX7_append σM a = some (r, σM') ∧ R σX' σM') := (h σX σM hr).2.2.2.2.2.2.2.2.2.2.2.2.2.2.2.2.2.2.2.1
theorem sim_run {R : St → St → Prop} (h : Sim R) {σX σM : St} (hr : R σX σM) : (∃ r σX' σM', fX6_run σX = some (r, σX') ∧ fX7_run σM = some (r, σM') ∧ R σX' σM') := (h σX σM hr).2.2.2.2.2.2.2.2.2.2.2.2.2.2.2.2.2.2.2.2.1
theorem sim_tell {R : St → St → Prop} (h : Sim R) {σX σM : St} (hr : R σX σM) : (∀ a : Int32, ∃ r σX' σM', fX6_tell σX a = some (r, σX') ∧ fX7_tell σM a = some (r, σM') ∧ R σX' σM') := (h σX σM hr).2.2.2.2.2.2.2.2.2.2.2.2.2.2.2.2.2.2.2.2.2.1
theorem sim_tellBarge {R : St → St → Prop} (h : Sim R) {σX σM : St} (hr : R σX σM) : (∀ a : Int32, ∃ r σX' σM', fX6_tellBarge σX a = some (r, σX') ∧ fX7_tellBarge σM a = some (r, σM') ∧ R σX' σM') := (h σX σM hr).2.2.2.2.2.2.2.2.2.2.2.2.2.2.2.2.2.2.2.2.2.2.1
theorem sim_character {R : St → St → Prop} (h : Sim R) {σX σM : St} (hr : R σX σM) : (∀ a : Int32, ∃ r, fX6_character σX a = some r ∧ fX7_character σM a = some r) := (h σX σM hr).2.2.2.2.2.2.2.2.2.2.2.2.2.2.2.2.2.2.2.2.2.2.2.1
theorem sim_reason {R : St → St → Prop} (h : Sim R) {σX σM : St} (hr : R σX σM) : (∀ a : Int32, a = 0 ∨ a = 1 → ∃ r, fX6_reason σX a = some r ∧ fX7_reason σM a = some r) := (h σX σM hr).2.2.2.2.2.2.2.2.2.2.2.2.2.2.2.2.2.2.2.2.2.2.2.2.1
theorem sim_account {R : St → St → Prop} (h : Sim R) {σX σM : St} (hr : R σX σM) : (∀ a : Int32, ∃ r σM', fX6_account σX a = some r ∧ fX7_account σM a = some (r, σM') ∧ R σX σM') := (h σX σM hr).2.2.2.2.2.2.2.2.2.2.2.2.2.2.2.2.2.2.2.2.2.2.2.2.2.1
theorem sim_isBalanced {R : St → St → Prop} (h : Sim R) {σX σM : St} (hr : R σX σM) : (∃ r σX', fX6_isBalanced σX = some (r, σX') ∧ fX7_isBalanced σM = some r ∧ R σX' σM) := (h σX σM hr).2.2.2.2.2.2.2.2.2.2.2.2.2.2.2.2.2.2.2.2.2.2.2.2.2.2.1
theorem sim_meanStretch {R : St → St → Prop} (h : Sim R) {σX σM : St} (hr : R σX σM) : (∃ z, fX6_meanStretch σX = some z ∧ fX7_meanStretch σM = some z) := (h σX σM hr).2.2.2.2.2.2.2.2.2.2.2.2.2.2.2.2.2.2.2.2.2.2.2.2.2.2.2.1
theorem sim_takenShare {R : St → St → Prop} (h : Sim R) {σX σM : St} (hr : R σX σM) : (∃ z σM', fX6_takenShare σX = some z ∧ fX7_takenShare σM = some (z, σM') ∧ R σX σM') := (h σX σM hr).2.2.2.2.2.2.2.2.2.2.2.2.2.2.2.2.2.2.2.2.2.2.2.2.2.2.2.2.1
theorem sim_undo {R : St → St → Prop} (h : Sim R) {σX σM : St} (hr : R σX σM) : (∃ r σX' σM', fX6_undo σX = some (r, σX') ∧ fX7_undo σM = some (r, σM') ∧ R σX' σM') := (h σX σM hr).2.2.2.2.2.2.2.2.2.2.2.2.2.2.2.2.2.2.2.2.2.2.2.2.2.2.2.2.2.1
theorem sim_save {R : St → St → Prop} (h : Sim R) {σX σM : St} (hr : R σX σM) : (∃ r σX' σM', fX6_save σX = some (r, σX') ∧ fX7_save σM = some (r, σM') ∧ R σX' σM') := (h σX σM hr).2.2.2.2.2.2.2.2.2.2.2.2.2.2.2.2.2.2.2.2.2.2.2.2.2.2.2.2.2.2.1
theorem sim_restore {R : St → St → Prop} (h : Sim R) {σX σM : St} (hr : R σX σM) : (∃ r σX' σM', fX6_restore σX = some (r, σX') ∧ fX7_restore σM = some (r, σM') ∧ R σX' σM') := (h σX σM hr).2.2.2.2.2.2.2.2.2.2.2.2.2.2.2.2.2.2.2.2.2.2.2.2.2.2.2.2.2.2.2
section LWC
variable {p : Program} {l : Launch} {e : Env} {R : Room} {s : State} {m : MethodId} {args : Array Value} {below : List Frame} {meth : Method} {c : Code} {H : Heap} {locs : List Loc} {cells slots : Nat} {Q : State → Prop}
variable {cc : ByteArray} {pc : Nat} {ls : Array Slot} {rest st : List Value} {D : va_G} {tys : List (ClassId × FieldType)} {H0 : Heap} {A0 : Nat → Prop} {wo : va_W}
variable {N : Nat} {ad : Nat → Nat} {L : Nat → (Nat → Int32) → va_E} {σ σ' : St} {r : Int32} {sa : SA} {z : Int32 × Int32}
variable {Ts ws : List Cond} {bytes : ByteArray} {nL maxL index n : Nat} {own C : String} {y : MethodName} {ret : Option FieldType} {rm : Room} {As : List Value}
theorem wo_kept {H1 : Heap} (hO : va_P D vwCl wo H) (hdis : ∀ (i : Nat) (x : Nat × va_E), wo[i]? = some x → ¬ WA N ad x.1) (hk : ∀ q : Nat, q < H.size → ¬ WA N ad q → H1[q]? = H[q]?) : va_P D vwCl wo H1 := hO.kept (fun i x hx => hk x.1 ((hO i x hx).lt) (hdis i x hx))
theorem xl_callVi (S : CallFix p m c cc nL s args Ts own) (k : Nat) (hM : CMi l y ws rm D tys N ad L (.ref (ad k) :: As) σ r σ') (cw : CallW R s args own C index y bytes maxL ret ws rm 0 0 n) (hK : va_K D vwCl tys s) (hP : va_P D vwCl (wd N ad L σ) H) (hO : va_P D vwCl wo H) (hdis : ∀ (i : Nat) (x : Nat × va_E), wo[i]? = some x → ¬ WA N ad x.1) (hA : ∀ q, WA N ad q → A0 q) (hS : va_S A0 H0 H locs) (hk : k < N) {ci : Nat} {fs : List Value} (he : L k (σ k) = .inr (ci, fs)) {T : u_T} {nf : Nat} (hc : vwCl[ci]? = some (C, T, nf))
    (hst : st = As.reverse ++ .ref (ad k) :: rest) (hn : As.length = n) (hsize : ls.size = nL) (hW : (rest.map fun v => v.category).sum ≤ 8) (hf : cells ≤ R.cells ∧ slots ≤ R.slots) (hdg : decode cc pc = .ok (.invokevirtual index, 3))
    (kk : ∀ (H1 : Heap) (locs1 : List Loc), va_P D vwCl (wd N ad L σ') H1 → va_P D vwCl wo H1 → va_S A0 H0 H1 locs1 → W p l e R s m args below meth c H1 locs1 cells slots Q (F0 m (pc + 3) ls (.int r :: rest))) : W p l e R s m args below meth c H locs cells slots Q (F0 m pc ls st) := by
  subst hst
  refine va_calli (va_runV (As := As) (rest := rest) S hM cw ⟨Pcw_blind, va_recv hK hP hc (wd_atE hk he), fun U hU hW => ⟨rfl, by rw [hU]; exact hP, va_K.moved hW.alike hK⟩⟩ rfl hn hsize rfl (lv_room hW) hdg hf) hS (fun q _ h => hA q h) (fun q h => hA q h) (fun v u t H1 locs1 ht _ hw hB _ hk1 hS1 => ?_)
  obtain ⟨rfl, rfl⟩ := hw
  exact kk H1 locs1 (by rw [← ht]; exact hB) (wo_kept hO hdis hk1) hS1
theorem xl_callViE (S : CallFix p m c cc nL s args Ts own) (k : Nat) (hM : CMiE l y ws rm D tys N ad L sa (.ref (ad k) :: As) σ r σ') (cw : CallW R s args own C index y bytes maxL ret ws rm 0 0 n) (hK : va_K D vwCl tys s) (hE : EX A0 sa s s.heap) (hP : va_P D vwCl (wd N ad L σ) H) (hO : va_P D vwCl wo H) (hdis : ∀ (i : Nat) (x : Nat × va_E), wo[i]? = some x → ¬ WA N ad x.1) (hA : ∀ q, WA N ad q → A0 q) (hS : va_S A0 s.heap H locs) (hk : k < N) {ci : Nat} {fs : List Value} (he : L k (σ k) = .inr (ci, fs)) {T : u_T} {nf : Nat} (hc : vwCl[ci]? = some (C, T, nf))
    (hst : st = As.reverse ++ .ref (ad k) :: rest) (hn : As.length = n) (hsize : ls.size = nL) (hW : (rest.map fun v => v.category).sum ≤ 8) (hf : cells ≤ R.cells ∧ slots ≤ R.slots) (hdg : decode cc pc = .ok (.invokevirtual index, 3))
    (kk : ∀ (H1 : Heap) (locs1 : List Loc), va_P D vwCl (wd N ad L σ') H1 → va_P D vwCl wo H1 → va_S A0 s.heap H1 locs1 → W p l e R s m args below meth c H1 locs1 cells slots Q (F0 m (pc + 3) ls (.int r :: rest))) : W p l e R s m args below meth c H locs cells slots Q (F0 m pc ls st) := by
  subst hst
  have hN : ∀ (U : State), U.heap = H → s.WarmedH U.vm → EX (WA N ad) sa U U.heap := fun U hU hW => by
    obtain ⟨h1, h2, h3, h4, h5, h6⟩ := hE.go hS hU hW
    exact ⟨h1, h2.narrow hA, va_Z.narrow h3 hA, by rcases h4 with h4 | ⟨t, h4⟩; exact Or.inl (va_Z.narrow h4 hA); exact Or.inr ⟨t, va_Z.narrow h4 hA⟩, ⟨va_Z.narrow h5.1 hA, va_T.narrow h5.2 hA⟩, ⟨va_Z.narrow h6.1 hA, va_T.narrow h6.2 hA⟩⟩
  refine va_calli (va_runV (As := As) (rest := rest) S hM cw ⟨PcwE_blind, va_recv hK hP hc (wd_atE hk he), fun U hU hW => ⟨rfl, by rw [hU]; exact hP, va_K.moved hW.alike hK, hN U hU hW⟩⟩ rfl hn hsize rfl (lv_room hW) hdg hf) hS (fun q _ h => hA q h) (fun q h => hA q h) (fun v u t H1 locs1 ht _ hw hB _ hk1 hS1 => ?_)
  obtain ⟨rfl, rfl⟩ := hw
  exact kk H1 locs1 (by rw [← ht]; exact hB) (wo_kept hO hdis hk1) hS1
theorem xl_callVd {d0 : Drawn} (hd0 : s.drawn.sameBut d0 lw_cs) (S : CallFix p m c cc nL (s.setDrawn d0) args Ts own) (k : Nat) (hM : CMd l y ws rm D tys N ad L (.ref (ad k) :: As) σ z σ') (cw : CallW R (s.setDrawn d0) args own C index y bytes maxL ret ws rm 0 0 n) (hK : va_K D vwCl tys (s.setDrawn d0)) (hP : va_P D vwCl (wd N ad L σ) H) (hO : va_P D vwCl wo H) (hdis : ∀ (i : Nat) (x : Nat × va_E), wo[i]? = some x → ¬ WA N ad x.1) (hA : ∀ q, WA N ad q → A0 q) (hS : va_S A0 H0 H locs) (hk : k < N) {ci : Nat} {fs : List Value} (he : L k (σ k) = .inr (ci, fs)) {T : u_T} {nf : Nat} (hc : vwCl[ci]? = some (C, T, nf))
    (hst : st = As.reverse ++ .ref (ad k) :: rest) (hn : As.length = n) (hsize : ls.size = nL) (hW : (rest.map fun v => v.category).sum ≤ 8) (hf : cells ≤ R.cells ∧ slots ≤ R.slots) (hdg : decode cc pc = .ok (.invokevirtual index, 3))
    (kk : ∀ (v : UInt64) (d1 : Drawn), s.drawn.sameBut d1 lw_cs → postD v z → ∀ (H1 : Heap) (locs1 : List Loc), va_P D vwCl (wd N ad L σ') H1 → va_P D vwCl wo H1 → va_S A0 H0 H1 locs1 → W p l e R (s.setDrawn d1) m args below meth c H1 locs1 cells slots Q (F0 m (pc + 3) ls (.double v :: rest))) : W p l e R (s.setDrawn d0) m args below meth c H locs cells slots Q (F0 m pc ls st) := by
  subst hst
  refine va_calldD hd0 (va_runV_D (As := As) (rest := rest) S hM cw ⟨Pcw_blind, va_recv hK hP hc (wd_atE hk he), fun U hU hW => ⟨rfl, by rw [hU]; exact hP, va_K.moved hW.alike hK⟩⟩ rfl hn hsize rfl (lv_room hW) hdg hf) hS (fun q _ h => hA q h) (fun q h => hA q h) (fun v u t H1 locs1 ht _ hw hB _ hk1 hS1 d1 hd1 => ?_)
  obtain ⟨hw, rfl⟩ := hw
  exact kk v d1 hd1 hw H1 locs1 (by rw [← ht]; exact hB) (wo_kept hO hdis hk1) hS1
theorem xl_callVf {d0 : Drawn} (hd0 : s.drawn.sameBut d0 lw_cs) (S : CallFix p m c cc nL (s.setDrawn d0) args Ts own) (k : Nat) (hM : CMf l y ws rm D tys N ad L (.ref (ad k) :: As) σ z σ') (cw : CallW R (s.setDrawn d0) args own C index y bytes maxL ret ws rm 0 0 n) (hK : va_K D vwCl tys (s.setDrawn d0)) (hP : va_P D vwCl (wd N ad L σ) H) (hO : va_P D vwCl wo H) (hdis : ∀ (i : Nat) (x : Nat × va_E), wo[i]? = some x → ¬ WA N ad x.1) (hA : ∀ q, WA N ad q → A0 q) (hS : va_S A0 H0 H locs) (hk : k < N) {ci : Nat} {fs : List Value} (he : L k (σ k) = .inr (ci, fs)) {T : u_T} {nf : Nat} (hc : vwCl[ci]? = some (C, T, nf))
    (hst : st = As.reverse ++ .ref (ad k) :: rest) (hn : As.length = n) (hsize : ls.size = nL) (hW : (rest.map fun v => v.category).sum ≤ 8) (hf : cells ≤ R.cells ∧ slots ≤ R.slots) (hdg : decode cc pc = .ok (.invokevirtual index, 3))
    (kk : ∀ (v : UInt32) (d1 : Drawn), s.drawn.sameBut d1 lw_cs → postF v z → ∀ (H1 : Heap) (locs1 : List Loc), va_P D vwCl (wd N ad L σ') H1 → va_P D vwCl wo H1 → va_S A0 H0 H1 locs1 → W p l e R (s.setDrawn d1) m args below meth c H1 locs1 cells slots Q (F0 m (pc + 3) ls (.float v :: rest))) : W p l e R (s.setDrawn d0) m args below meth c H locs cells slots Q (F0 m pc ls st) := by
  subst hst
  refine va_callfD hd0 (va_runV_D (As := As) (rest := rest) S hM cw ⟨Pcw_blind, va_recv hK hP hc (wd_atE hk he), fun U hU hW => ⟨rfl, by rw [hU]; exact hP, va_K.moved hW.alike hK⟩⟩ rfl hn hsize rfl (lv_room hW) hdg hf) hS (fun q _ h => hA q h) (fun q h => hA q h) (fun v u t H1 locs1 ht _ hw hB _ hk1 hS1 d1 hd1 => ?_)
  obtain ⟨hw, rfl⟩ := hw
  exact kk v d1 hd1 hw H1 locs1 (by rw [← ht]; exact hB) (wo_kept hO hdis hk1) hS1
end LWC
