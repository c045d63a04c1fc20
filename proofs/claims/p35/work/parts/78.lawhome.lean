/-! The law: home. -/
def oA (d : HD) (i : Nat) : Int32 := if isD d i = true then nI (i % 8) else mI 1
def PcH (dC : Nat → ClassId) (dI : Nat → Nat → Nat) (cy : Nat → ClassId) (a q : Nat) (r : Nat → Int32) : Array Value → State → Prop := va_Pc [.ref a, .int (nI q)] (fun U => va_P (dC, dI) vwCl [(a, .inl (cy 0, 360, .inl r))] U.heap ∧ va_K (dC, dI) vwCl (tysX cy) U)
theorem PcH_blind {dC : Nat → ClassId} {dI : Nat → Nat → Nat} {cy : Nat → ClassId} {a q : Nat} {r : Nat → Int32} : FrameBlind (PcH dC dI cy a q r) := fun v U g mk h => by
  obtain ⟨q0, qP, qK⟩ := h
  exact ⟨q0, qP, va_K.moved (u := U) (U := U.calling g mk v) (Vm.Alike.refl U.vm) qK⟩
abbrev rmL_home : Room := { frames := 0, cells := 0, slots := 0, locals := 0 }
theorem dmL_home : yL_home.cls ≠ "java/lang/invoke/MethodHandle" ∧ yL_home.cls ≠ "java/lang/invoke/VarHandle" ∧ (parseMethodDescriptor yL_home.desc).map (fun d => d.parameters.length) = some 2 := by decide +kernel
theorem home_hit {d : HD} {q k : Nat} (hk : k < 360) (h0 : ∀ j, q ≤ j → j < q + k → cP d j = false) (h1 : isD d ((q + k) % 360) = true) : homeD d q = some ((q + k) % 360 % 8) := by
  have : hfD d q = some (q + k) := by
    unfold hfD
    rw [fh_some]
    exact ⟨by omega, by omega, h1, h0⟩
  unfold homeD
  rw [this]
  show some ((q + k) % 8) = _
  congr 1
  omega
theorem home_no {d : HD} {q : Nat} (h0 : ∀ j, q ≤ j → j < q + 360 → cP d j = false) : homeD d q = none := by
  have : hfD d q = none := by
    unfold hfD
    rw [fh_none]
    exact h0
  unfold homeD
  rw [this]
  rfl
set_option maxHeartbeats 8000000 in
set_option maxRecDepth 100000 in
theorem mL_home (l : Launch) (dC : Nat → ClassId) (dI : Nat → Nat → Nat) (cy : Nat → ClassId) (a q : Nat) (r : Nat → Int32) (d : HD) (hq : q < 360) (hra : ∀ i, i < 360 → r i = oA d i) : Met l yL_home wsL_home rmL_home (PcH dC dI cy a q r) (va_Qi (fun (z : Int32) (_ : Unit) => z = oM (homeD d q)) (fun _ _ => True) F_) 0 0 F_ := by
  refine Met.ofW (cc := cL_home) (maxL := 3) (ret := (some .int)) (by decide) rfl ?_
  intro p e s m args below meth c s₁ B hml hv
  obtain ⟨hargs, hP, hK⟩ := hv
  have hx := B.exec
  have hb := B.bytes
  have hr := B.returns
  have hlocks := B.notSynchronized
  have hS : va_S F_ s.heap s.heap [] := va_S.rf
  have hfr : entryFrame m args 3 = F0 m 0 ((lg_sl [.ref a, .int (nI q)] ++ List.replicate (3 - (lg_sl [.ref a, .int (nI q)]).length) Slot.unset).toArray) [] := by rw [hargs]; exact lg_entry_eq _ _ _
  rw [hfr]
  have hl := lv_entry ([.ref a, .int (nI q)]) (n := 3) (Nat.le_of_ble_eq_true rfl)
  generalize (lg_sl [.ref a, .int (nI q)] ++ List.replicate (3 - (lg_sl [.ref a, .int (nI q)]).length) Slot.unset).toArray = ls at hl ⊢
  have hl : lv_has ls 3 [(0, .ref a), (1, .int (nI q))] := hl
  clear hfr hargs B
  show W p l e rmL_home s m args below meth c s.heap [] 0 0 (MQ below (va_Qi (fun (z : Int32) (_ : Unit) => z = oM (homeD d q)) (fun _ _ => True) F_) args s 0 0 F_) (F0 m 0 ls [])
  have key : ∀ n k, k + n = 360 → (∀ j, q ≤ j → j < q + k → cP d j = false) → ∀ ls : Array Slot, lv_has ls 3 [(2, .int (nI k)), (0, .ref a), (1, .int (nI q))] → W p l e rmL_home s m args below meth c s.heap [] 0 0 (MQ below (va_Qi (fun (z : Int32) (_ : Unit) => z = oM (homeD d q)) (fun _ _ => True) F_) args s 0 0 F_) (F0 m 2 ls []) := by
    intro n
    induction n with
    | zero =>
      intro k hk h0 ls hl
      obtain rfl : k = 360 := by omega
      refine lv_iload_n hx hb dL_home_2 rfl (lv_at hl 0 rfl) ?_
      refine lv_sipush (v := nI 360) hx hb dL_home_3 (by decide) ?_
      refine lv_icmp_ge (tgt := 37) hx hb dL_home_6 (by decide) (fun _ => ?_) (fun q9 => absurd (nI_le (Nat.le_refl _) (by omega)) q9)
      refine lv_iconst (v := mI 1) hx hb dL_home_37 (by decide) ?_
      exact W.iret hx hb hr (fun t ht _ => ⟨⟨_, (), rfl, by rw [home_no h0]; rfl, trivial⟩, hS.F ht⟩) hS.2.2 dL_home_38 hlocks
    | succ n ih =>
      intro k hk h0 ls hl
      refine lv_iload_n hx hb dL_home_2 rfl (lv_at hl 0 rfl) ?_
      refine lv_sipush (v := nI 360) hx hb dL_home_3 (by decide) ?_
      refine lv_icmp_ge (tgt := 37) hx hb dL_home_6 (by decide) (fun q9 => absurd q9 (nI_ge (by omega) (by omega))) (fun _ => ?_)
      refine lv_aload_n hx hb dL_home_9 rfl (lv_at hl 1 rfl) ?_
      refine lv_iload_n hx hb dL_home_10 rfl (lv_at hl 2 rfl) ?_
      refine lv_iload_n hx hb dL_home_11 rfl (lv_at hl 0 rfl) ?_
      refine lv_iadd hx hb dL_home_12 ?_
      refine lv_sipush (v := nI 360) hx hb dL_home_13 (by decide) ?_
      refine xt_irem hx hb dL_home_16 (by decide) ?_
      have hi : (q + k) % 360 < 360 := Nat.mod_lt _ (by omega)
      have er : jrem (nI q + nI k) (nI 360) = nI ((q + k) % 360) := by rw [nI_add, pz_rem (by omega) (by omega) (by omega)]
      rw [er]
      refine va_iald hx hb hK hP 0 0 rfl rfl (vp_in_nI hi (by omega)) dL_home_17 ?_
      rw [nI_clamp (by omega), hra _ hi]
      by_cases hD : isD d ((q + k) % 360) = true
      · have eo : oA d ((q + k) % 360) = nI ((q + k) % 360 % 8) := if_pos hD
        rw [eo]
        refine lv_if_lt (tgt := 31) hx hb dL_home_18 (by decide) (fun q9 => absurd q9 (nI_pos (by omega))) (fun _ => ?_)
        refine lv_aload_n hx hb dL_home_21 rfl (lv_at hl 1 rfl) ?_
        refine lv_iload_n hx hb dL_home_22 rfl (lv_at hl 2 rfl) ?_
        refine lv_iload_n hx hb dL_home_23 rfl (lv_at hl 0 rfl) ?_
        refine lv_iadd hx hb dL_home_24 ?_
        refine lv_sipush (v := nI 360) hx hb dL_home_25 (by decide) ?_
        refine xt_irem hx hb dL_home_28 (by decide) ?_
        rw [er]
        refine va_iald hx hb hK hP 0 0 rfl rfl (vp_in_nI hi (by omega)) dL_home_29 ?_
        rw [nI_clamp (by omega), hra _ hi, eo]
        exact W.iret hx hb hr (fun t ht _ => ⟨⟨_, (), rfl, by rw [home_hit (by omega) h0 hD]; rfl, trivial⟩, hS.F ht⟩) hS.2.2 dL_home_30 hlocks
      · have eo : oA d ((q + k) % 360) = mI 1 := if_neg hD
        rw [eo]
        refine lv_if_lt (tgt := 31) hx hb dL_home_18 (by decide) (fun _ => ?_) (fun q9 => absurd (show mI 1 < 0 by decide) q9)
        refine lv_iinc (v := nI (k + 1)) (lv' := [(2, .int (nI (k + 1))), (0, .ref a), (1, .int (nI q))]) hx hb dL_home_31 hl (k := 0) rfl (nI_1 k) (by decide) rfl (fun ls hl => ?_)
        refine lv_goto (tgt := 2) hx hb dL_home_34 (by decide) ?_
        refine ih (k + 1) (by omega) (fun j h1 h2 => ?_) ls hl
        by_cases hj : j < q + k
        · exact h0 j h1 hj
        · obtain rfl : j = q + k := by omega
          unfold cP
          simpa using hD
  refine lv_iconst (v := nI 0) hx hb dL_home_0 (by decide) ?_
  refine lv_istore_n (lv' := [(2, .int (nI 0)), (0, .ref a), (1, .int (nI q))]) hx hb dL_home_1 rfl hl (by decide) rfl (fun ls hl => ?_)
  exact key 360 0 (by omega) (fun j h1 h2 => by omega) ls hl
section LH
variable {p : Program} {l : Launch} {e : Env} {R : Room} {s : State} {m : MethodId} {below : List Frame} {meth : Method} {c : Code} {H : Heap} {locs : List Loc} {cells slots : Nat} {Q : State → Prop}
variable {pc : Nat} {ls : Array Slot} {rest st : List Value} {dC : Nat → ClassId} {dI : Nat → Nat → Nat} {cy : Nat → ClassId} {tb : Nat × Nat} {aK aV : Nat → Nat} {b bL : Nat} {xs : Nat → Int32}
variable {adX adT : Nat → Nat} {σ τ : St} {NT zX zT : Nat} {G : Heap → Prop} {index : Nat}
theorem lx_home {d : HD} {q : Nat} (F : LF p s m c dC dI cy tb adX aK aV zX b bL xs) (kg : KG zT G) (hN : 0 < NT) (hq : q < 360) (hra : ∀ i, i < 360 → τ 0 i = oA d i) (cw : CallB R s #[Value.ref b] RL index yL_home cL_home 3 (some .int) wsL_home rmL_home 0 0 2 ∧ (Cond.static yL_home).before #[Value.ref b] s = true) (hw : LWd s dC dI cy adX NT adT zT G σ τ H locs)
    (hst : st = .int (nI q) :: .ref (adT 0) :: rest) (hsize : ls.size = 31) (hW : (rest.map fun v => v.category).sum ≤ 8) (hf : cells ≤ R.cells ∧ slots ≤ R.slots) (hdg : decode cL_law pc = .ok (.invokestatic index, 3))
    (kk : ∀ (H1 : Heap) (locs1 : List Loc), LWd s dC dI cy adX NT adT zT G σ τ H1 locs1 → W p l e R s m #[Value.ref b] below meth c H1 locs1 cells slots Q (F0 m (pc + 3) ls (.int (oM (homeD d q)) :: rest))) : W p l e R s m #[Value.ref b] below meth c H locs cells slots Q (F0 m pc ls st) := by
  subst hst
  have h0 : va_P (dC, dI) vwCl [(adT 0, .inl (cy 0, 360, .inl (τ 0)))] H := P1 (hw.T 0 _ (wd_atE hN rfl))
  refine va_calli (va_runS (As := [.ref (adT 0), .int (nI q)]) (rest := rest) F.S (mL_home l dC dI cy (adT 0) q (τ 0) d hq hra) cw ⟨PcH_blind, fun U hU hW => ⟨rfl, by rw [hU]; exact h0, va_K.moved hW.alike F.K⟩⟩ rfl rfl hsize rfl (lv_room hW) hdg hf) hw.S (fun _ _ h => h.elim) (fun _ h => h.elim) (fun v u t H1 locs1 ht _ hq hB hz hk1 hS1 => ?_)
  obtain rfl := hq
  exact kk H1 locs1 (hw.still kg hz (fun q h => hk1 q h (fun z => z)) hS1)
end LH
