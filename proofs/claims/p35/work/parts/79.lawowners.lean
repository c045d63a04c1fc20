/-! The law: owners. -/
section XO
variable {p : Program} {l : Launch} {e : Env} {R : Room} {s : State} {m : MethodId} {args : Array Value} {below : List Frame} {meth : Method} {c : Code} {H : Heap} {locs : List Loc} {cells slots : Nat} {Q : State → Prop}
variable {cc : ByteArray} {pc : Nat} {ls : Array Slot} {rest st : List Value} {dC : Nat → ClassId} {dI : Nat → Nat → Nat} {cy : Nat → ClassId} {A0 : Nat → Prop} {H0 : Heap} {wo : va_W}
variable {adX : Nat → Nat} {σ σ' : St} {r : Int32}
variable {Ts ws : List Cond} {bytes : ByteArray} {nL maxL index n : Nat} {own : String} {y : MethodName} {ret : Option FieldType} {rm : Room} {As : List Value}
theorem xo_i (S : CallFix p m c cc nL s args Ts own) (hA : ∀ q, WA 93 adX q → A0 q) (hM : CMi l y ws rm (dC, dI) (tysX cy) 93 adX (layX adX cy) (.ref (adX 0) :: As) σ r σ') (cw : CallW R s args own RX6 index y bytes maxL ret ws rm 0 0 n) (hK : va_K (dC, dI) vwCl (tysX cy) s) (hP : va_P (dC, dI) vwCl (wd 93 adX (layX adX cy) σ) H) (hO : va_P (dC, dI) vwCl wo H) (hdis : ∀ (k : Nat) (x : Nat × va_E), wo[k]? = some x → ¬ WA 93 adX x.1) (hS : va_S A0 H0 H locs)
    (hst : st = As.reverse ++ .ref (adX 0) :: rest) (hn : As.length = n) (hsize : ls.size = nL) (hW : (rest.map fun v => v.category).sum ≤ 8) (hf : cells ≤ R.cells ∧ slots ≤ R.slots) (hdg : decode cc pc = .ok (.invokevirtual index, 3))
    (kk : ∀ (H1 : Heap) (locs1 : List Loc), va_P (dC, dI) vwCl (wd 93 adX (layX adX cy) σ') H1 → va_P (dC, dI) vwCl wo H1 → va_S A0 H0 H1 locs1 → W p l e R s m args below meth c H1 locs1 cells slots Q (F0 m (pc + 3) ls (.int r :: rest))) : W p l e R s m args below meth c H locs cells slots Q (F0 m pc ls st) := by
  subst hst
  refine va_calli (va_runV (As := As) (rest := rest) S hM cw ⟨Pcw_blind, va_recv hK hP (ci := 6) rfl (wd_atE (k := 0) (by decide) (LX6_obj adX cy _)), fun U hU hW => ⟨rfl, by rw [hU]; exact hP, va_K.moved hW.alike hK⟩⟩ rfl hn hsize rfl (lv_room hW) hdg hf) hS (fun q _ h => hA q h) (fun q h => hA q h) (fun v u t H1 locs1 ht _ hw hB hz hk1 hS1 => ?_)
  obtain ⟨rfl, rfl⟩ := hw
  exact kk H1 locs1 (by rw [← ht]; exact hB) (hO.kept (fun k x hx => hk1 x.1 (hO k x hx).lt (hdis k x hx))) hS1
/-- a write to an own row -/
theorem xo_ast {a n i : Nat} {f : Nat → Int32} {x : Int32} (hx : p.tables.exec = Jvm.exec) (hb : c.code = cc) (hK : va_K (dC, dI) vwCl (tysX cy) s) (hP : va_P (dC, dI) vwCl (wd 93 adX (layX adX cy) σ) H) (hO : va_P (dC, dI) vwCl [(a, .inl (cy 0, n, .inl f))] H) (ha : ¬ WA 93 adX a) (hA : A0 a) (hS : va_S A0 H0 H locs) (hin : i < n) (h31 : i < 2 ^ 31) (hdg : decode cc pc = .ok (.iastore, 1))
    (kk : ∀ (H1 : Heap) (locs1 : List Loc), va_P (dC, dI) vwCl (wd 93 adX (layX adX cy) σ) H1 → va_P (dC, dI) vwCl [(a, .inl (cy 0, n, .inl (upd f i x)))] H1 → va_S A0 H0 H1 locs1 → W p l e R s m args below meth c H1 locs1 cells slots Q (F0 m (pc + 1) ls rest)) : W p l e R s m args below meth c H locs cells slots Q (F0 m pc ls (.int x :: .int (nI i) :: .ref a :: rest)) := by
  refine W.iast hx hb (hO 0 _ rfl) ((hK.2 0 _ rfl).1 n (fun j => .int (f j))) (fun q => by cases q) (by show ¬ (nI i < 0 ∨ (arrV _ _ _).slots.size ≤ _); rw [arrV_size, nI_clamp h31]; rintro (q | q); exact nI_pos h31 q; exact absurd hin (Nat.not_lt.mpr q)) rfl rfl hdg fun H1 e z oq => ?_
  rw [nI_clamp h31] at e
  refine kk H1 _ (hP.kept (fun k y hy => oq y.1 (fun e0 => ?_))) ?_ (hS.put z oq hA)
  · obtain ⟨h1, h2⟩ := (show k < 93 ∧ y.1 = adX k by
      have hl := (List.getElem?_eq_some_iff.mp hy).1
      have hl2 : k < 93 := by simpa [wd] using hl
      rw [wd_at hl2] at hy
      cases hy
      exact ⟨hl2, rfl⟩)
    have e0 : y.1 = a := e0
    exact ha ⟨k, h1, by rw [← e0, h2]⟩
  · have hD : va_D (fun q => q = a) [(a, (.inl (cy 0, n, .inl f) : va_E))] := D1 rfl
    refine hO.set hD (show ([(a, (.inl (cy 0, n, .inl f) : va_E))] : va_W)[0]? = some (a, .inl (cy 0, n, .inl f)) from rfl) ?_ oq
    show H1[a]? = some (vp_cell _ _)
    rw [e]
    rw [vp_cell_i, vp_cell_i, arrV_store]
    congr 2
    funext q
    by_cases hq : q = i
    · subst hq
      simp [updV, upd]
    · simp [updV, upd, hq]
end XO
/-- who owns a point, as far as it is told -/
def ownA (d : HD) (p j i : Nat) : Int32 := if isD d i = true ∧ (i % 8 < p ∨ (i % 8 = p ∧ jqD i < j)) then nI (i % 8) else mI 1
theorem ownA_0 {d : HD} (i : Nat) : ownA d 0 0 i = mI 1 := if_neg (fun h => by omega)
theorem ownA_all {d : HD} {p i : Nat} (hp : dP d ≤ p) : ownA d p 0 i = oA d i := by
  unfold ownA oA
  by_cases h : isD d i = true
  · have := (isD_iff.mp h).1
    rw [if_pos ⟨h, Or.inl (by omega)⟩, if_pos h]
  · rw [if_neg (fun q => h q.1), if_neg h]
theorem ownA_next {d : HD} {p j i : Nat} (h : nptD d p ≤ j) : ownA d p j i = ownA d (p + 1) 0 i := by
  unfold ownA
  by_cases hD : isD d i = true
  · have h2 := (isD_iff.mp hD).2
    by_cases hi : i % 8 = p
    · rw [hi] at h2
      rw [if_pos ⟨hD, Or.inr ⟨hi, by omega⟩⟩, if_pos ⟨hD, Or.inl (by omega)⟩]
    · by_cases hl : i % 8 < p
      · rw [if_pos ⟨hD, Or.inl hl⟩, if_pos ⟨hD, Or.inl (by omega)⟩]
      · rw [if_neg (fun q => by omega), if_neg (fun q => by omega)]
  · rw [if_neg (fun q => hD q.1), if_neg (fun q => hD q.1)]
theorem ownA_put {d : HD} {p j i : Nat} (hp8 : p < 8) (hp : p < dP d) (hj : j < nptD d p) (hj45 : j < 45) (hi : i < 360) : upd (ownA d p j) (ptD p j) (nI p) i = ownA d p (j + 1) i := by
  unfold upd ownA
  have m1 := ptD_mod (p := p) (j := j) hp8
  have m2 := jqD_pt (p := p) (j := j) hp8 hj45
  by_cases e : i = ptD p j
  · rw [if_pos e, e, m1, m2, if_pos ⟨isD_iff.mpr ⟨by rw [m1]; exact hp, by rw [m1, m2]; exact hj⟩, Or.inr ⟨rfl, by omega⟩⟩]
  · rw [if_neg e]
    have hne : ¬ (i % 8 = p ∧ jqD i = j) := fun h => e (by rw [← ptD_jq hi, h.1, h.2])
    by_cases hD : isD d i = true
    · by_cases h2 : i % 8 < p ∨ (i % 8 = p ∧ jqD i < j)
      · rw [if_pos ⟨hD, h2⟩, if_pos ⟨hD, by omega⟩]
      · rw [if_neg (fun q => h2 q.2), if_neg (fun q => h2 (by have := q.2; omega))]
    · rw [if_neg (fun q => hD q.1), if_neg (fun q => hD q.1)]
abbrev rmL_owners : Room := { frames := 5, cells := 1, slots := 360, locals := 107 }
theorem dmL_owners : yL_owners.cls ≠ "java/lang/invoke/MethodHandle" ∧ yL_owners.cls ≠ "java/lang/invoke/VarHandle" ∧ (parseMethodDescriptor yL_owners.desc).map (fun d => d.parameters.length) = some 2 := by decide +kernel
def PcO (dC : Nat → ClassId) (dI : Nat → Nat → Nat) (cy : Nat → ClassId) (adX : Nat → Nat) (σ : St) (sz : Nat) : Array Value → State → Prop := va_Pc [.ref (adX 0), .int (-1)] (fun U => U.heap.size = sz ∧ va_P (dC, dI) vwCl (wd 93 adX (layX adX cy) σ) U.heap ∧ va_K (dC, dI) vwCl (tysX cy) U)
theorem PcO_blind {dC : Nat → ClassId} {dI : Nat → Nat → Nat} {cy : Nat → ClassId} {adX : Nat → Nat} {σ : St} {sz : Nat} : FrameBlind (PcO dC dI cy adX σ sz) := fun v U g mk h => by
  obtain ⟨q0, qz, qP, qK⟩ := h
  exact ⟨q0, qz, qP, va_K.moved (u := U) (U := U.calling g mk v) (Vm.Alike.refl U.vm) qK⟩
abbrev AO (adX : Nat → Nat) (sz : Nat) : Nat → Prop := fun q => WA 93 adX q ∨ sz ≤ q
abbrev QO (dC : Nat → ClassId) (dI : Nat → Nat → Nat) (cy : Nat → ClassId) (adX : Nat → Nat) (σ : St) (d : HD) (sz : Nat) : Array Value → State → Outcome → State → Prop := va_Qr (fun (r : Nat → Int32) => ∀ i, i < 360 → r i = oA d i) (fun r a t => sz ≤ a ∧ va_P (dC, dI) vwCl (wd 93 adX (layX adX cy) σ) t.heap ∧ va_P (dC, dI) vwCl [(a, .inl (cy 0, 360, .inl r))] t.heap) (AO adX sz)
set_option maxHeartbeats 8000000 in
set_option maxRecDepth 100000 in
theorem mL_owners (l : Launch) (dC : Nat → ClassId) (dI : Nat → Nat → Nat) (cy : Nat → ClassId) (adX : Nat → Nat) (hJ : WJ 93 adX) (σ : St) (d : HD) (hC : CX σ d) (sz : Nat) : Met l yL_owners wsL_owners rmL_owners (PcO dC dI cy adX σ sz) (QO dC dI cy adX σ d sz) 1 360 (AO adX sz) := by
  refine Met.ofW (cc := cL_owners) (maxL := 5) (ret := (some (.array .int))) (by decide) rfl ?_
  intro p e s m args below meth c s₁ B hml hv
  obtain ⟨hargs, hsz, hP, hK⟩ := hv
  have hx := B.exec
  have hb := B.bytes
  have hr := B.returns
  have hts := atoms_spec (ws := wsL_owners) B.pre
  have hown : s.vm.findClass RL = some m.cls := findClass_of_methodNamed B.named
  have hlocks := B.notSynchronized
  have h8 := hC.1.1
  have hS : va_S (AO adX sz) s.heap s.heap [] := va_S.rf
  have hJA : ∀ q, WA 93 adX q → AO adX sz q := fun q h => Or.inl h
  have hlt : ∀ q, WA 93 adX q → q < sz := fun q h => by
    obtain ⟨k, hk, rfl⟩ := h
    have := (hP k _ (wd_at hk)).lt
    omega
  have hfr : entryFrame m args 5 = F0 m 0 ((lg_sl [.ref (adX 0), .int (-1)] ++ List.replicate (5 - (lg_sl [.ref (adX 0), .int (-1)]).length) Slot.unset).toArray) [] := by rw [hargs]; exact lg_entry_eq _ _ _
  rw [hfr]
  have hl := lv_entry ([.ref (adX 0), .int (-1)]) (n := 5) (Nat.le_of_ble_eq_true rfl)
  generalize (lg_sl [.ref (adX 0), .int (-1)] ++ List.replicate (5 - (lg_sl [.ref (adX 0), .int (-1)]).length) Slot.unset).toArray = ls at hl ⊢
  have hl : lv_has ls 5 [(0, .ref (adX 0)), (1, .int (-1))] := hl
  clear hfr hargs B
  show W p l e rmL_owners s m args below meth c s.heap [] 0 0 (MQ below (QO dC dI cy adX σ d sz) args s 1 360 (AO adX sz)) (F0 m 0 ls [])
  have body : ∀ a, sz ≤ a → ∀ (r : Nat → Int32), (∀ i, i < 360 → r i = mI 1) → ∀ (H : Heap) (locs : List Loc), va_P (dC, dI) vwCl (wd 93 adX (layX adX cy) σ) H → va_P (dC, dI) vwCl [(a, .inl (cy 0, 360, .inl r))] H → va_S (AO adX sz) s.heap H locs → ∀ ls : Array Slot, lv_has ls 5 [(0, .ref (adX 0)), (1, .int (-1)), (2, .ref a)] → W p l e rmL_owners s m args below meth c H locs 1 360 (MQ below (QO dC dI cy adX σ d sz) args s 1 360 (AO adX sz)) (F0 m 25 ls []) := by
    intro a ha
    have haN : ¬ WA 93 adX a := fun h => by have := hlt a h; omega
    have hdis : ∀ (r : Nat → Int32) (k : Nat) (x : Nat × va_E), ([(a, (.inl (cy 0, 360, .inl r) : va_E))] : va_W)[k]? = some x → ¬ WA 93 adX x.1 := fun r k x hx => by
      match k, hx with
      | 0, hx => cases hx; exact haN
      | k + 1, hx => simp at hx
    have loop27 : ∀ n p1, p1 + n = dP d → ∀ (r : Nat → Int32), (∀ i, i < 360 → r i = ownA d p1 0 i) → ∀ (H : Heap) (locs : List Loc), va_P (dC, dI) vwCl (wd 93 adX (layX adX cy) σ) H → va_P (dC, dI) vwCl [(a, .inl (cy 0, 360, .inl r))] H → va_S (AO adX sz) s.heap H locs → ∀ ls : Array Slot, lv_has ls 5 [(0, .ref (adX 0)), (1, .int (-1)), (2, .ref a), (3, .int (nI p1))] → W p l e rmL_owners s m args below meth c H locs 1 360 (MQ below (QO dC dI cy adX σ d sz) args s 1 360 (AO adX sz)) (F0 m 27 ls []) := by
      intro n
      induction n with
      | zero =>
        intro p1 hpn r hr0 H locs hP hO hS ls hl
        have hdis := hdis r
        refine lv_iload_n hx hb dL_owners_27 rfl (lv_at hl 3 rfl) ?_
        refine lv_aload_n hx hb dL_owners_28 rfl (lv_at hl 0 rfl) ?_
        refine lv_iconst (v := 0) hx hb dL_owners_29 (by decide) ?_
        refine xo_i (As := [.int 0]) (rest := [.int (nI p1)]) ⟨hx, hb, hml, hown, hts⟩ hJA (mX6_account l dC dI adX cy hJ σ 0 _ (cq_a0 hC)) (cwV 1 hts gL_owners_X6_account rfl rfl rfl dmX6_account ⟨Nat.le_of_ble_eq_true rfl, Nat.le_of_ble_eq_true rfl⟩) hK hP hO hdis hS rfl rfl hl.1 (Nat.le_of_ble_eq_true rfl) ⟨Nat.le_of_ble_eq_true rfl, Nat.le_of_ble_eq_true rfl⟩ dL_owners_30 (fun H locs hP hO hS => ?_)
        refine lv_icmp_ge (tgt := 100) hx hb dL_owners_33 (by decide) (fun _ => ?_) (fun q9 => absurd (nI_le (by omega) (by omega)) q9)
        refine lv_aload_n hx hb dL_owners_100 rfl (lv_at hl 2 rfl) ?_
        exact W.aret hx hb hr (Or.inr ⟨_, rfl⟩) (Or.inr ⟨_, rfl⟩) (fun t ht _ => ⟨⟨r, a, rfl, fun i hi => (hr0 i hi).trans (ownA_all (by omega)), ha, by rw [ht]; exact hP, by rw [ht]; exact hO⟩, hS.F ht⟩) hS.2.2 dL_owners_101 hlocks
      | succ n ih =>
        intro p1 hpn r hr0 H locs hP hO hS ls hl
        have hp : p1 < dP d := by omega
        have hbe := hC.1.2.2.2.1 p1 hp
        have next : ∀ (x4 : Int32) (r : Nat → Int32), (∀ i, i < 360 → r i = ownA d (p1 + 1) 0 i) → ∀ (H : Heap) (locs : List Loc), va_P (dC, dI) vwCl (wd 93 adX (layX adX cy) σ) H → va_P (dC, dI) vwCl [(a, .inl (cy 0, 360, .inl r))] H → va_S (AO adX sz) s.heap H locs → ∀ ls : Array Slot, lv_has ls 5 [(0, .ref (adX 0)), (1, .int (-1)), (2, .ref a), (3, .int (nI p1)), (4, .int x4)] → W p l e rmL_owners s m args below meth c H locs 1 360 (MQ below (QO dC dI cy adX σ d sz) args s 1 360 (AO adX sz)) (F0 m 94 ls []) := by
          intro x4 r hr1 H locs hP hO hS ls hl
          refine lv_iinc (v := nI (p1 + 1)) (lv' := [(3, .int (nI (p1 + 1))), (0, .ref (adX 0)), (1, .int (-1)), (2, .ref a), (4, .int x4)]) hx hb dL_owners_94 hl (k := 3) rfl (nI_1 p1) (by decide) rfl (fun ls hl => ?_)
          refine lv_goto (tgt := 27) hx hb dL_owners_97 (by decide) ?_
          exact ih (p1 + 1) (by omega) r hr1 H locs hP hO hS ls (lv_sub hl [1, 2, 3, 0] rfl)
        have loop39 : ∀ k j, j + k = 2 * dbe d p1 → (dop d p1 = false → j = 0) → ∀ (r : Nat → Int32), (∀ i, i < 360 → r i = ownA d p1 j i) → ∀ (H : Heap) (locs : List Loc), va_P (dC, dI) vwCl (wd 93 adX (layX adX cy) σ) H → va_P (dC, dI) vwCl [(a, .inl (cy 0, 360, .inl r))] H → va_S (AO adX sz) s.heap H locs → ∀ ls : Array Slot, lv_has ls 5 [(0, .ref (adX 0)), (1, .int (-1)), (2, .ref a), (3, .int (nI p1)), (4, .int (nI j))] → W p l e rmL_owners s m args below meth c H locs 1 360 (MQ below (QO dC dI cy adX σ d sz) args s 1 360 (AO adX sz)) (F0 m 39 ls []) := by
          intro k
          induction k with
          | zero =>
            intro j hjk hcl r hr1 H locs hP hO hS ls hl
            have hdis := hdis r
            refine lv_iload hx hb dL_owners_39 (lv_at hl 4 rfl) ?_
            refine lv_iconst (v := 2) hx hb dL_owners_41 (by decide) ?_
            refine lv_aload_n hx hb dL_owners_42 rfl (lv_at hl 0 rfl) ?_
            refine lv_iload_n hx hb dL_owners_43 rfl (lv_at hl 3 rfl) ?_
            refine lv_iconst (v := 0) hx hb dL_owners_44 (by decide) ?_
            refine xo_i (As := [.int (nI p1), .int 0]) (rest := [.int 2, .int (nI j)]) ⟨hx, hb, hml, hown, hts⟩ hJA (mX6_pierOf l dC dI adX cy hJ σ (nI p1) 0 _ (cq_p0 hC hp)) (cwV 2 hts gL_owners_X6_pierOf rfl rfl rfl dmX6_pierOf ⟨Nat.le_of_ble_eq_true rfl, Nat.le_of_ble_eq_true rfl⟩) hK hP hO hdis hS rfl rfl hl.1 (Nat.le_of_ble_eq_true rfl) ⟨Nat.le_of_ble_eq_true rfl, Nat.le_of_ble_eq_true rfl⟩ dL_owners_45 (fun H locs hP hO hS => ?_)
            refine lv_imul hx hb dL_owners_48 ?_
            rw [show (((2 : Int32) * (nI (dbe d p1))) : Int32) = nI (2 * (dbe d p1)) from pk_mul 2 (dbe d p1)]
            refine lv_icmp_ge (tgt := 94) hx hb dL_owners_49 (by decide) (fun _ => ?_) (fun q9 => absurd (nI_le (by omega) (by omega)) q9)
            exact next _ r (fun i hi => (hr1 i hi).trans (ownA_next (by unfold nptD; split <;> omega))) H locs hP hO hS ls (lv_sub hl [0, 1, 2, 3, 4] rfl)
          | succ k ihk =>
            intro j hjk hcl r hr1 H locs hP hO hS ls hl
            have hdis := hdis r
            refine lv_iload hx hb dL_owners_39 (lv_at hl 4 rfl) ?_
            refine lv_iconst (v := 2) hx hb dL_owners_41 (by decide) ?_
            refine lv_aload_n hx hb dL_owners_42 rfl (lv_at hl 0 rfl) ?_
            refine lv_iload_n hx hb dL_owners_43 rfl (lv_at hl 3 rfl) ?_
            refine lv_iconst (v := 0) hx hb dL_owners_44 (by decide) ?_
            refine xo_i (As := [.int (nI p1), .int 0]) (rest := [.int 2, .int (nI j)]) ⟨hx, hb, hml, hown, hts⟩ hJA (mX6_pierOf l dC dI adX cy hJ σ (nI p1) 0 _ (cq_p0 hC hp)) (cwV 2 hts gL_owners_X6_pierOf rfl rfl rfl dmX6_pierOf ⟨Nat.le_of_ble_eq_true rfl, Nat.le_of_ble_eq_true rfl⟩) hK hP hO hdis hS rfl rfl hl.1 (Nat.le_of_ble_eq_true rfl) ⟨Nat.le_of_ble_eq_true rfl, Nat.le_of_ble_eq_true rfl⟩ dL_owners_45 (fun H locs hP hO hS => ?_)
            refine lv_imul hx hb dL_owners_48 ?_
            rw [show (((2 : Int32) * (nI (dbe d p1))) : Int32) = nI (2 * (dbe d p1)) from pk_mul 2 (dbe d p1)]
            refine lv_icmp_ge (tgt := 94) hx hb dL_owners_49 (by decide) (fun q9 => absurd q9 (nI_ge (by omega) (by omega))) (fun _ => ?_)
            refine lv_aload_n hx hb dL_owners_52 rfl (lv_at hl 0 rfl) ?_
            refine lv_iload_n hx hb dL_owners_53 rfl (lv_at hl 3 rfl) ?_
            refine lv_iconst (v := 1) hx hb dL_owners_54 (by decide) ?_
            refine xo_i (As := [.int (nI p1), .int 1]) (rest := []) ⟨hx, hb, hml, hown, hts⟩ hJA (mX6_pierOf l dC dI adX cy hJ σ (nI p1) 1 _ (cq_p1 hC hp)) (cwV 2 hts gL_owners_X6_pierOf rfl rfl rfl dmX6_pierOf ⟨Nat.le_of_ble_eq_true rfl, Nat.le_of_ble_eq_true rfl⟩) hK hP hO hdis hS rfl rfl hl.1 (Nat.le_of_ble_eq_true rfl) ⟨Nat.le_of_ble_eq_true rfl, Nat.le_of_ble_eq_true rfl⟩ dL_owners_55 (fun H locs hP hO hS => ?_)
            refine lv_iconst (v := 1) hx hb dL_owners_58 (by decide) ?_
            cases hop : dop d p1 with
            | false =>
              refine lv_icmp_ne (tgt := 94) hx hb dL_owners_59 (by decide) (fun _ => ?_) (fun q9 => absurd q9 (by decide))
              exact next _ r (fun i hi => (hr1 i hi).trans (ownA_next (by unfold nptD; rw [hop, hcl hop]; exact Nat.zero_le _))) H locs hP hO hS ls (lv_sub hl [0, 1, 2, 3, 4] rfl)
            | true =>
              have hj : j < nptD d p1 := by unfold nptD; rw [hop, if_pos rfl]; omega
              refine lv_icmp_ne (tgt := 94) hx hb dL_owners_59 (by decide) (fun q9 => absurd (by decide) q9) (fun _ => ?_)
              refine lv_iload_n hx hb dL_owners_62 rfl (lv_at hl 3 rfl) ?_
              refine lv_iload_n hx hb dL_owners_63 rfl (lv_at hl 1 rfl) ?_
              refine lv_icmp_eq (tgt := 94) hx hb dL_owners_64 (by decide) (fun q9 => absurd q9 (pz_nm (a := p1) (k := 1) (by omega) (by omega) (by omega))) (fun _ => ?_)
              refine lv_aload_n hx hb dL_owners_67 rfl (lv_at hl 2 rfl) ?_
              refine lv_bipush (v := 8) hx hb dL_owners_68 (by decide) ?_
              refine lv_bipush (v := 17) hx hb dL_owners_70 (by decide) ?_
              refine lv_iload_n hx hb dL_owners_72 rfl (lv_at hl 3 rfl) ?_
              refine lv_imul hx hb dL_owners_73 ?_
              rw [show (((17 : Int32) * (nI p1)) : Int32) = nI (17 * p1) from pk_mul 17 p1]
              refine lv_bipush (v := 7) hx hb dL_owners_74 (by decide) ?_
              refine lv_iload hx hb dL_owners_76 (lv_at hl 4 rfl) ?_
              refine lv_imul hx hb dL_owners_78 ?_
              rw [show (((7 : Int32) * (nI j)) : Int32) = nI (7 * j) from pk_mul 7 j]
              refine lv_iadd hx hb dL_owners_79 ?_
              rw [show (((nI (17 * p1)) + (nI (7 * j))) : Int32) = nI ((17 * p1) + (7 * j)) from nI_add (17 * p1) (7 * j)]
              refine lv_bipush (v := 45) hx hb dL_owners_80 (by decide) ?_
              refine xt_irem hx hb dL_owners_82 (by decide) ?_
              rw [show ((jrem (nI ((17 * p1) + (7 * j))) 45) : Int32) = nI (((17 * p1) + (7 * j)) % 45) from pz_rem (a := ((17 * p1) + (7 * j))) (d := 45) (by omega) (by omega) (by omega)]
              refine lv_imul hx hb dL_owners_83 ?_
              rw [show (((8 : Int32) * (nI (((17 * p1) + (7 * j)) % 45))) : Int32) = nI (8 * (((17 * p1) + (7 * j)) % 45)) from pk_mul 8 (((17 * p1) + (7 * j)) % 45)]
              refine lv_iload_n hx hb dL_owners_84 rfl (lv_at hl 3 rfl) ?_
              refine lv_iadd hx hb dL_owners_85 ?_
              rw [show (((nI (8 * (((17 * p1) + (7 * j)) % 45))) + (nI p1)) : Int32) = nI ((8 * (((17 * p1) + (7 * j)) % 45)) + p1) from nI_add (8 * (((17 * p1) + (7 * j)) % 45)) p1]
              refine lv_iload_n hx hb dL_owners_86 rfl (lv_at hl 3 rfl) ?_
              refine xo_ast hx hb hK hP hO haN (Or.inr ha) hS (i := ptD p1 j) (ptD_lt (by omega)) (by have := ptD_lt (p := p1) (j := j) (by omega); omega) dL_owners_87 (fun H locs hP hO hS => ?_)
              refine lv_iinc (v := nI (j + 1)) (lv' := [(4, .int (nI (j + 1))), (0, .ref (adX 0)), (1, .int (-1)), (2, .ref a), (3, .int (nI p1))]) hx hb dL_owners_88 hl (k := 4) rfl (nI_1 j) (by decide) rfl (fun ls hl => ?_)
              refine lv_goto (tgt := 39) hx hb dL_owners_91 (by decide) ?_
              exact ihk (j + 1) (by omega) (fun z => by rw [hop] at z; cases z) _ (fun i hi => by rw [← ownA_put (by omega) hp hj (by omega) hi]; show (if i = ptD p1 j then nI p1 else r i) = (if i = ptD p1 j then nI p1 else ownA d p1 j i); rw [hr1 i hi]) H locs hP hO hS ls (lv_sub hl [1, 2, 3, 4, 0] rfl)
        have hdis := hdis r
        refine lv_iload_n hx hb dL_owners_27 rfl (lv_at hl 3 rfl) ?_
        refine lv_aload_n hx hb dL_owners_28 rfl (lv_at hl 0 rfl) ?_
        refine lv_iconst (v := 0) hx hb dL_owners_29 (by decide) ?_
        refine xo_i (As := [.int 0]) (rest := [.int (nI p1)]) ⟨hx, hb, hml, hown, hts⟩ hJA (mX6_account l dC dI adX cy hJ σ 0 _ (cq_a0 hC)) (cwV 1 hts gL_owners_X6_account rfl rfl rfl dmX6_account ⟨Nat.le_of_ble_eq_true rfl, Nat.le_of_ble_eq_true rfl⟩) hK hP hO hdis hS rfl rfl hl.1 (Nat.le_of_ble_eq_true rfl) ⟨Nat.le_of_ble_eq_true rfl, Nat.le_of_ble_eq_true rfl⟩ dL_owners_30 (fun H locs hP hO hS => ?_)
        refine lv_icmp_ge (tgt := 100) hx hb dL_owners_33 (by decide) (fun q9 => absurd q9 (nI_ge (by omega) (by omega))) (fun _ => ?_)
        refine lv_iconst (v := nI 0) hx hb dL_owners_36 (by decide) ?_
        refine lv_istore (lv' := [(4, .int (nI 0)), (0, .ref (adX 0)), (1, .int (-1)), (2, .ref a), (3, .int (nI p1))]) hx hb dL_owners_37 hl (by decide) rfl (fun ls hl => ?_)
        exact loop39 (2 * dbe d p1) 0 (by omega) (fun _ => rfl) r hr0 H locs hP hO hS ls (lv_sub hl [1, 2, 3, 4, 0] rfl)
    intro r hr0 H locs hP hO hS ls hl
    refine lv_iconst (v := nI 0) hx hb dL_owners_25 (by decide) ?_
    refine lv_istore_n (lv' := [(3, .int (nI 0)), (0, .ref (adX 0)), (1, .int (-1)), (2, .ref a)]) hx hb dL_owners_26 rfl hl (by decide) rfl (fun ls hl => ?_)
    exact loop27 (dP d) 0 (by omega) r (fun i hi => (hr0 i hi).trans (ownA_0 i).symm) H locs hP hO hS ls (lv_sub hl [1, 2, 3, 0] rfl)
  have loop8 : ∀ n k, k + n = 360 → ∀ a, sz ≤ a → ∀ (r : Nat → Int32), (∀ i, i < k → r i = mI 1) → ∀ (H : Heap) (locs : List Loc), va_P (dC, dI) vwCl (wd 93 adX (layX adX cy) σ) H → va_P (dC, dI) vwCl [(a, .inl (cy 0, 360, .inl r))] H → va_S (AO adX sz) s.heap H locs → ∀ ls : Array Slot, lv_has ls 5 [(0, .ref (adX 0)), (1, .int (-1)), (2, .ref a), (3, .int (nI k))] → W p l e rmL_owners s m args below meth c H locs 1 360 (MQ below (QO dC dI cy adX σ d sz) args s 1 360 (AO adX sz)) (F0 m 8 ls []) := by
    intro n
    induction n with
    | zero =>
      intro k hk a ha r hr0 H locs hP hO hS ls hl
      refine lv_iload_n hx hb dL_owners_8 rfl (lv_at hl 3 rfl) ?_
      refine lv_sipush (v := nI 360) hx hb dL_owners_9 (by decide) ?_
      refine lv_icmp_ge (tgt := 25) hx hb dL_owners_12 (by decide) (fun _ => ?_) (fun q9 => absurd (nI_le (by omega) (by omega)) q9)
      exact body a ha r (fun i hi => hr0 i (by omega)) H locs hP hO hS ls (lv_sub hl [0, 1, 2] rfl)
    | succ n ih =>
      intro k hk a ha r hr0 H locs hP hO hS ls hl
      have haN : ¬ WA 93 adX a := fun h => by have := hlt a h; omega
      refine lv_iload_n hx hb dL_owners_8 rfl (lv_at hl 3 rfl) ?_
      refine lv_sipush (v := nI 360) hx hb dL_owners_9 (by decide) ?_
      refine lv_icmp_ge (tgt := 25) hx hb dL_owners_12 (by decide) (fun q9 => absurd q9 (nI_ge (by omega) (by omega))) (fun _ => ?_)
      refine lv_aload_n hx hb dL_owners_15 rfl (lv_at hl 2 rfl) ?_
      refine lv_iload_n hx hb dL_owners_16 rfl (lv_at hl 3 rfl) ?_
      refine lv_iconst (v := mI 1) hx hb dL_owners_17 (by decide) ?_
      refine xo_ast hx hb hK hP hO haN (Or.inr ha) hS (i := k) (by omega) (by omega) dL_owners_18 (fun H locs hP hO hS => ?_)
      refine lv_iinc (v := nI (k + 1)) (lv' := [(3, .int (nI (k + 1))), (0, .ref (adX 0)), (1, .int (-1)), (2, .ref a)]) hx hb dL_owners_19 hl (k := 3) rfl (nI_1 k) (by decide) rfl (fun ls hl => ?_)
      refine lv_goto (tgt := 8) hx hb dL_owners_22 (by decide) ?_
      exact ih (k + 1) (by omega) a ha _ (fun i hi => by show (if i = k then mI 1 else r i) = mI 1; split; rfl; exact hr0 i (by omega)) H locs hP hO hS ls (lv_sub hl [1, 2, 3, 0] rfl)
  refine lv_sipush (v := 360) hx hb dL_owners_0 (by decide) ?_
  have hP0 : va_P (dC, dI) vwCl [] s.heap := fun k q h => by simp at h
  have hD0 : va_D (AO adX sz) [] := ⟨fun i j p q h => by simp at h, fun k q h => by simp at h⟩
  refine xt_newa (A := fun q => sz ≤ q) (H0 := s.heap) (ws := []) (atype := .int) (N' := 360) (ty := .int) hx hb (hts (.arrayClass .int) (List.mem_of_getElem? (i := 1) rfl)) rfl 0 rfl (fun _ h1 h2 => ra_i h1 h2) hK hP0 ⟨fun i j p q h => by simp at h, fun k q h => by simp at h⟩ va_S.rf (fun q h => by omega) rfl (by decide) (by decide) (Nat.le_of_ble_eq_true rfl) (Nat.le_of_ble_eq_true rfl) (Nat.le_of_ble_eq_true rfl) dL_owners_3 (fun a H hO hD hS => ?_)
  have ha : sz ≤ a := hD.2 0 _ rfl
  have hP := hP.kept (H1 := H) (fun k x hx => hS.2.1 x.1 (hP k x hx).lt (fun z => by have := (hP k x hx).lt; omega))
  have hS : va_S (AO adX sz) s.heap H [] := ⟨hS.1, fun q h1 h2 => hS.2.1 q h1 (fun z => h2 (Or.inr z)), fun x hx => by cases hx⟩
  refine lv_astore_n (lv' := [(2, .ref a), (0, .ref (adX 0)), (1, .int (-1))]) hx hb dL_owners_5 rfl hl (by decide) rfl (fun ls hl => ?_)
  refine lv_iconst (v := nI 0) hx hb dL_owners_6 (by decide) ?_
  refine lv_istore_n (lv' := [(3, .int (nI 0)), (2, .ref a), (0, .ref (adX 0)), (1, .int (-1))]) hx hb dL_owners_7 rfl hl (by decide) rfl (fun ls hl => ?_)
  exact loop8 360 0 (by omega) a ha (fun _ => 0) (fun i hi => by omega) H [] hP hO hS ls (lv_sub hl [2, 3, 1, 0] rfl)
