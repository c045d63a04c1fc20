/-! The law: the piers (769 to 1080). -/
abbrev opS (d : HD) (n : Nat) : Nat := sumTo (fun p => if dop d p = true then 1 else 0) n
abbrev rmS (d : HD) (n : Nat) : Nat := sumTo (roomD d) n
abbrev htS (d : HD) (n : Nat) : Nat := sumTo (fun p => if hotD d p = true then 1 else 0) n
section LB
variable {p : Program} {l : Launch} {e : Env} {s : State} {m : MethodId} {below : List Frame} {meth : Method} {c : Code} {Q : State → Prop}
variable {dC : Nat → ClassId} {dI : Nat → Nat → Nat} {cy : Nat → ClassId} {tb : Nat × Nat} {aK aV : Nat → Nat} {b bL : Nat} {xs : Nat → Int32}
variable {adX adT : Nat → Nat} {σ : St} {zX zT : Nat} {G : Heap → Prop} {d : HD} {turn nc ns : Nat}
set_option maxHeartbeats 8000000 in
set_option maxRecDepth 100000 in
theorem law_p5c (F : LF p s m c dC dI cy tb adX aK aV zX b bL xs) (T : LT 8 adT zX zT) (hC : CX σ d) {τ : St} {aL p1 : Nat} {qs vs : Nat → Nat} {x22 x23 : Int32} (hp : p1 < dP d) (hnc : nc ≤ 700000) (hns : ns ≤ 6900000) (hln : lnX σ (lnAt d (dB d) p1)) (hlen : (lnAt d (dB d) p1).length ≤ 77) (kk : ∀ (H : Heap) (locs : List Loc), LWd s dC dI cy adX 8 adT zT (GL dC dI cy s zT aL (dP d) qs vs (lnAt d (dB d))) σ (τ) H locs → ∀ ls : Array Slot, lv_has ls 31 [(0, .ref b), (1, .ref (adX 0)), (2, .int (nI turn)), (3, .int (nI (dP d))), (4, .int (nI (dB d))), (5, .int (nI (opS d p1))), (6, .int (nI (offD d p1))), (7, .int (nI (sumTo (dto d) (dB d)))), (8, .int (nI (lyD d (dB d)))), (9, .int (nI (rmS d p1))), (10, .int (nI (htS d p1))), (11, .int (nI (dT d))), (12, .ref (adT 0)), (13, .ref (adT 1)), (14, .ref (adT 2)), (15, .ref (adT 3)), (16, .ref (adT 4)), (17, .ref (adT 5)), (18, .ref (adT 6)), (19, .ref (adT 7)), (20, .ref aL), (21, .int (nI p1)), (22, .int x22), (23, .int x23)] → W p l e room_1 s m #[Value.ref b] below meth c H locs nc ns Q (F0 m 1020 ls [])) : ∀ n i1, i1 + n = (lnAt d (dB d) p1).length → ∀ (H : Heap) (locs : List Loc), LWd s dC dI cy adX 8 adT zT (GL dC dI cy s zT aL (dP d) qs vs (lnAt d (dB d))) σ (τ) H locs → ∀ ls : Array Slot, lv_has ls 31 [(0, .ref b), (1, .ref (adX 0)), (2, .int (nI turn)), (3, .int (nI (dP d))), (4, .int (nI (dB d))), (5, .int (nI (opS d p1))), (6, .int (nI (offD d p1))), (7, .int (nI (sumTo (dto d) (dB d)))), (8, .int (nI (lyD d (dB d)))), (9, .int (nI (rmS d p1))), (10, .int (nI (htS d p1))), (11, .int (nI (dT d))), (12, .ref (adT 0)), (13, .ref (adT 1)), (14, .ref (adT 2)), (15, .ref (adT 3)), (16, .ref (adT 4)), (17, .ref (adT 5)), (18, .ref (adT 6)), (19, .ref (adT 7)), (20, .ref aL), (21, .int (nI p1)), (22, .int x22), (23, .int x23), (24, .int (nI i1))] → W p l e room_1 s m #[Value.ref b] below meth c H locs nc ns Q (F0 m 980 ls []) := by
  have hx := F.S.1
  have hb := F.S.2.1
  have h8 := hC.1.1
  have h24 := hC.1.2.1
  have h200 := hC.1.2.2.1
  have cL : ∀ {x : Nat}, x ≤ 723972 → x ≤ room_1.cells := fun h => h
  have sL : ∀ {x : Nat}, x ≤ 6930331 → x ≤ room_1.slots := fun h => h
  have kg := KG.L (dC, dI) cy aL (dP d) qs vs (lnAt d (dB d)) zT s
  intro n
  induction n with
  | zero =>
    intro i1 hk H locs hw ls hl
    refine lv_iload hx hb dL_law_980 (lv_at hl 24 rfl) ?_
    refine lv_aload hx hb dL_law_982 (lv_at hl 20 rfl) ?_
    refine lv_iload hx hb dL_law_984 (lv_at hl 21 rfl) ?_
    refine ls_ald (i := p1) F hw (hw.g) (by omega) (by omega) dL_law_986 ?_
    refine ls_len F kg hw (fun H h => (h.2.2 p1 hp).2.2) (cwV 0 F.S.2.2.2.2 gL_law_J0_length_8abf5 rfl rfl rfl dmJ0_length_8abf5 ⟨Nat.le_of_ble_eq_true rfl, Nat.le_of_ble_eq_true rfl⟩) hl.1 (Nat.le_of_ble_eq_true rfl) ⟨cL (by omega), sL (by omega)⟩ dL_law_987 (fun H locs hw => ?_)
    refine lv_icmp_ge (tgt := 1020) hx hb dL_law_990 (by decide) (fun _ => ?_) (fun q9 => absurd (nI_le (by omega) (by omega)) q9)
    exact kk H locs hw ls (lv_sub hl [0, 1, 2, 3, 4, 5, 6, 7, 8, 9, 10, 11, 12, 13, 14, 15, 16, 17, 18, 19, 20, 21, 22, 23] rfl)
  | succ n ih =>
    intro i1 hk H locs hw ls hl
    refine lv_iload hx hb dL_law_980 (lv_at hl 24 rfl) ?_
    refine lv_aload hx hb dL_law_982 (lv_at hl 20 rfl) ?_
    refine lv_iload hx hb dL_law_984 (lv_at hl 21 rfl) ?_
    refine ls_ald (i := p1) F hw (hw.g) (by omega) (by omega) dL_law_986 ?_
    refine ls_len F kg hw (fun H h => (h.2.2 p1 hp).2.2) (cwV 0 F.S.2.2.2.2 gL_law_J0_length_8abf5 rfl rfl rfl dmJ0_length_8abf5 ⟨Nat.le_of_ble_eq_true rfl, Nat.le_of_ble_eq_true rfl⟩) hl.1 (Nat.le_of_ble_eq_true rfl) ⟨cL (by omega), sL (by omega)⟩ dL_law_987 (fun H locs hw => ?_)
    refine lv_icmp_ge (tgt := 1020) hx hb dL_law_990 (by decide) (fun q9 => absurd q9 (nI_ge (by omega) (by omega))) (fun _ => ?_)
    refine lv_aload_n hx hb dL_law_993 rfl (lv_at hl 1 rfl) ?_
    refine lv_iload hx hb dL_law_994 (lv_at hl 24 rfl) ?_
    refine lx_i (As := [.int (nI i1)]) (rest := []) F T kg (mX6_character l dC dI adX cy F.J σ (nI i1) _ (cq_char hln (by omega) (i := i1) (by omega))) (cwV 1 F.S.2.2.2.2 gL_law_X6_character rfl rfl rfl dmX6_character ⟨Nat.le_of_ble_eq_true rfl, Nat.le_of_ble_eq_true rfl⟩) hw rfl rfl hl.1 (Nat.le_of_ble_eq_true rfl) ⟨cL (by omega), sL (by omega)⟩ dL_law_996 (fun H locs hw => ?_)
    refine lv_aload hx hb dL_law_999 (lv_at hl 20 rfl) ?_
    refine lv_iload hx hb dL_law_1001 (lv_at hl 21 rfl) ?_
    refine ls_ald (i := p1) F hw (hw.g) (by omega) (by omega) dL_law_1003 ?_
    refine lv_iload hx hb dL_law_1004 (lv_at hl 24 rfl) ?_
    refine ls_char (i := i1) F kg hw (fun H h => (h.2.2 p1 hp).2.2) (by omega) (by omega) (cwV 1 F.S.2.2.2.2 gL_law_J0_charAt_5068e rfl rfl rfl dmJ0_charAt_5068e ⟨Nat.le_of_ble_eq_true rfl, Nat.le_of_ble_eq_true rfl⟩) hl.1 (Nat.le_of_ble_eq_true rfl) ⟨cL (by omega), sL (by omega)⟩ dL_law_1006 (fun H locs hw => ?_)
    refine lv_icmp_eq (tgt := 1014) hx hb dL_law_1009 (by decide) (fun _ => ?_) (fun q9 => absurd (congrArg nI (show ((lnAt d (dB d) p1).getD i1 0) = ((lnAt d (dB d) p1).getD i1 0) by omega)) q9)
    refine lv_iinc (v := nI (i1 + 1)) (lv' := [(24, .int (nI (i1 + 1))), (0, .ref b), (1, .ref (adX 0)), (2, .int (nI turn)), (3, .int (nI (dP d))), (4, .int (nI (dB d))), (5, .int (nI (opS d p1))), (6, .int (nI (offD d p1))), (7, .int (nI (sumTo (dto d) (dB d)))), (8, .int (nI (lyD d (dB d)))), (9, .int (nI (rmS d p1))), (10, .int (nI (htS d p1))), (11, .int (nI (dT d))), (12, .ref (adT 0)), (13, .ref (adT 1)), (14, .ref (adT 2)), (15, .ref (adT 3)), (16, .ref (adT 4)), (17, .ref (adT 5)), (18, .ref (adT 6)), (19, .ref (adT 7)), (20, .ref aL), (21, .int (nI p1)), (22, .int x22), (23, .int x23)]) hx hb dL_law_1014 hl (k := 24) rfl (nI_1 i1) (by decide) rfl (fun ls hl => ?_)
    refine lv_goto (tgt := 980) hx hb dL_law_1017 (by decide) ?_
    exact ih (i1 + 1) (by omega) H locs hw ls (lv_sub hl [1, 2, 3, 4, 5, 6, 7, 8, 9, 10, 11, 12, 13, 14, 15, 16, 17, 18, 19, 20, 21, 22, 23, 24, 0] rfl)
set_option maxHeartbeats 16000000 in
set_option maxRecDepth 100000 in
theorem law_p5 (F : LF p s m c dC dI cy tb adX aK aV zX b bL xs) (T : LT 8 adT zX zT) {aL : Nat} {qs vs : Nat → Nat} {τ : St} (hnc : nc ≤ 700000) (hns : ns ≤ 6900000) (kk : ∀ (σ : St), CI σ d → ∀ (H : Heap) (locs : List Loc), LWd s dC dI cy adX 8 adT zT (GL dC dI cy s zT aL (dP d) qs vs (lnAt d (dB d))) σ (τ) H locs → ∀ ls : Array Slot, lv_has ls 31 [(0, .ref b), (1, .ref (adX 0)), (2, .int (nI turn)), (3, .int (nI (dP d))), (4, .int (nI (dB d))), (5, .int (nI (opS d (dP d)))), (6, .int (nI (offD d (dP d)))), (7, .int (nI (sumTo (dto d) (dB d)))), (8, .int (nI (lyD d (dB d)))), (9, .int (nI (rmS d (dP d)))), (10, .int (nI (htS d (dP d)))), (11, .int (nI (dT d))), (12, .ref (adT 0)), (13, .ref (adT 1)), (14, .ref (adT 2)), (15, .ref (adT 3)), (16, .ref (adT 4)), (17, .ref (adT 5)), (18, .ref (adT 6)), (19, .ref (adT 7)), (20, .ref aL)] → W p l e room_1 s m #[Value.ref b] below meth c H locs nc ns Q (F0 m 1080 ls [])) : (∀ i, i < 360 → τ 0 i = oA d i) → (∀ i, i < 8 → τ 1 i = nI (stD d i)) → (∀ i, i < 8 → τ 2 i = nI (hcD d (dB d) i)) → (∀ i, i < 8 → τ 3 i = nI (htD d (dB d) i)) → (∀ i, i < 8 → τ 4 i = nI (lcD d (dB d) i)) → (∀ i, i < 8 → τ 5 i = nI (tkD d (dB d) i)) → (∀ i, i < 3 → τ 6 i = nI (hwD d (dB d) i)) → ∀ n p1, p1 + n = dP d → ∀ (σ : St), CI σ d → ∀ (H : Heap) (locs : List Loc), LWd s dC dI cy adX 8 adT zT (GL dC dI cy s zT aL (dP d) qs vs (lnAt d (dB d))) σ (τ) H locs → ∀ ls : Array Slot, lv_has ls 31 [(0, .ref b), (1, .ref (adX 0)), (2, .int (nI turn)), (3, .int (nI (dP d))), (4, .int (nI (dB d))), (5, .int (nI (opS d p1))), (6, .int (nI (offD d p1))), (7, .int (nI (sumTo (dto d) (dB d)))), (8, .int (nI (lyD d (dB d)))), (9, .int (nI (rmS d p1))), (10, .int (nI (htS d p1))), (11, .int (nI (dT d))), (12, .ref (adT 0)), (13, .ref (adT 1)), (14, .ref (adT 2)), (15, .ref (adT 3)), (16, .ref (adT 4)), (17, .ref (adT 5)), (18, .ref (adT 6)), (19, .ref (adT 7)), (20, .ref aL), (21, .int (nI p1))] → W p l e room_1 s m #[Value.ref b] below meth c H locs nc ns Q (F0 m 769 ls []) := by
  intro tf0 tf1 tf2 tf3 tf4 tf5 tf6
  have kg := KG.L (dC, dI) cy aL (dP d) qs vs (lnAt d (dB d)) zT s
  intro n
  induction n with
  | zero =>
    intro p1 hk σ hI H locs hw ls hl
    obtain rfl : p1 = dP d := by omega
    have hC := hI.1
    have hx := F.S.1
    have hb := F.S.2.1
    have h8 := hC.1.1
    have h24 := hC.1.2.1
    have h200 := hC.1.2.2.1
    have cL : ∀ {x : Nat}, x ≤ 723972 → x ≤ room_1.cells := fun h => h
    have sL : ∀ {x : Nat}, x ≤ 6930331 → x ≤ room_1.slots := fun h => h
    refine lv_iload hx hb dL_law_769 (lv_at hl 21 rfl) ?_
    refine lv_iload_n hx hb dL_law_771 rfl (lv_at hl 3 rfl) ?_
    refine lv_icmp_ge (tgt := 1080) hx hb dL_law_772 (by decide) (fun _ => ?_) (fun q9 => absurd (nI_le (by omega) (by omega)) q9)
    exact kk σ hI H locs hw ls (lv_sub hl [0, 1, 2, 3, 4, 5, 6, 7, 8, 9, 10, 11, 12, 13, 14, 15, 16, 17, 18, 19, 20] rfl)
  | succ n ih =>
    intro p1 hk σ hI H locs hw ls hl
    have hC := hI.1
    have hp : p1 < dP d := by omega
    have hx := F.S.1
    have hb := F.S.2.1
    have h8 := hC.1.1
    have h24 := hC.1.2.1
    have h200 := hC.1.2.2.1
    have cL : ∀ {x : Nat}, x ≤ 723972 → x ≤ room_1.cells := fun h => h
    have sL : ∀ {x : Nat}, x ≤ 6930331 → x ≤ room_1.slots := fun h => h
    have hbe := hC.1.2.2.2.1 p1 hp
    obtain ⟨σ1, ct1, ct2, ct3⟩ := cq_tell hC hp
    have hlen : (lnAt d (dB d) p1).length ≤ 77 := lnAt_len hC.1 (Nat.le_refl _) hp
    have hI1 : CI σ1 d := hI.lined ct3 ct2 (by have : (lnP d p1).length ≤ 77 := hlen; omega) (fun c hc => by
      unfold lnP at hc
      rcases List.mem_append.mp hc with h | h
      · exact hdD_lt hC.1 hp c h
      · exact tlD_lt d p1 (dB d) h24 c h)
    have hC1 := hI1.1
    cases hop : dop d p1 with
    | false =>
      have hro : roomD d p1 = 0 := by unfold roomD; rw [if_neg (fun z => by rw [hop] at z; cases z)]
      have hnp : nptD d p1 = 0 := by unfold nptD; rw [if_neg (fun z => by rw [hop] at z; cases z)]
      have hos : opS d (p1 + 1) = opS d p1 := by show _ + (if dop d p1 = true then 1 else 0) = _; rw [if_neg (fun z => by rw [hop] at z; cases z)]; rfl
      have hrm : rmS d (p1 + 1) = rmS d p1 + roomD d p1 := rfl
      have hof : offD d (p1 + 1) = offD d p1 + nptD d p1 := rfl
      have hrl := roomD_le hC.1 hp
      have hhl : htD d (dB d) p1 ≤ 2376 := Nat.le_trans (sumTo_le (f := fun j => if homeD d (pbD d j) = some p1 then dto d j else 0) (c := 99) (dB d) (fun j hj => by have := (hC.1.2.2.2.2 j hj).2.2; show (if _ then _ else 0) ≤ 99; split <;> omega)) (by omega)
      by_cases hht : roomD d p1 < htD d (dB d) p1
      · have hhb : hotD d p1 = true := decide_eq_true hht
        have hhs : htS d (p1 + 1) = htS d p1 + 1 := by show _ + (if hotD d p1 = true then 1 else 0) = _; rw [if_pos hhb]
        refine lv_iload hx hb dL_law_769 (lv_at hl 21 rfl) ?_
        refine lv_iload_n hx hb dL_law_771 rfl (lv_at hl 3 rfl) ?_
        refine lv_icmp_ge (tgt := 1080) hx hb dL_law_772 (by decide) (fun q9 => absurd q9 (nI_ge (by omega) (by omega))) (fun _ => ?_)
        refine lv_aload_n hx hb dL_law_775 rfl (lv_at hl 1 rfl) ?_
        refine lv_iload hx hb dL_law_776 (lv_at hl 21 rfl) ?_
        refine lv_iconst (v := 1) hx hb dL_law_778 (by decide) ?_
        refine lx_i (As := [.int (nI p1), .int 1]) (rest := []) F T kg (mX6_pierOf l dC dI adX cy F.J σ (nI p1) 1 _ (cq_p1 hC hp)) (cwV 2 F.S.2.2.2.2 gL_law_X6_pierOf rfl rfl rfl dmX6_pierOf ⟨Nat.le_of_ble_eq_true rfl, Nat.le_of_ble_eq_true rfl⟩) hw rfl rfl hl.1 (Nat.le_of_ble_eq_true rfl) ⟨cL (by omega), sL (by omega)⟩ dL_law_779 (fun H locs hw => ?_)
        refine lv_iconst (v := 1) hx hb dL_law_782 (by decide) ?_
        refine lv_icmp_ne (tgt := 790) hx hb dL_law_783 (by decide) (fun _ => ?_) (fun q9 => absurd q9 (by rw [hop]; decide))
        refine lv_iconst (v := nI 0) hx hb dL_law_790 (by decide) ?_
        refine lv_istore (lv' := [(22, .int (nI 0)), (0, .ref b), (1, .ref (adX 0)), (2, .int (nI turn)), (3, .int (nI (dP d))), (4, .int (nI (dB d))), (5, .int (nI (opS d p1))), (6, .int (nI (offD d p1))), (7, .int (nI (sumTo (dto d) (dB d)))), (8, .int (nI (lyD d (dB d)))), (9, .int (nI (rmS d p1))), (10, .int (nI (htS d p1))), (11, .int (nI (dT d))), (12, .ref (adT 0)), (13, .ref (adT 1)), (14, .ref (adT 2)), (15, .ref (adT 3)), (16, .ref (adT 4)), (17, .ref (adT 5)), (18, .ref (adT 6)), (19, .ref (adT 7)), (20, .ref aL), (21, .int (nI p1))]) hx hb dL_law_791 hl (by decide) rfl (fun ls hl => ?_)
        refine lv_iload hx hb dL_law_793 (lv_at hl 0 rfl) ?_
        refine lv_if_eq (tgt := 811) hx hb dL_law_795 (by decide) (fun _ => ?_) (fun q9 => absurd (by decide) q9)
        refine lv_iconst (v := nI 0) hx hb dL_law_811 (by decide) ?_
        refine lv_istore (lv' := [(23, .int (nI 0)), (22, .int (nI 0)), (0, .ref b), (1, .ref (adX 0)), (2, .int (nI turn)), (3, .int (nI (dP d))), (4, .int (nI (dB d))), (5, .int (nI (opS d p1))), (6, .int (nI (offD d p1))), (7, .int (nI (sumTo (dto d) (dB d)))), (8, .int (nI (lyD d (dB d)))), (9, .int (nI (rmS d p1))), (10, .int (nI (htS d p1))), (11, .int (nI (dT d))), (12, .ref (adT 0)), (13, .ref (adT 1)), (14, .ref (adT 2)), (15, .ref (adT 3)), (16, .ref (adT 4)), (17, .ref (adT 5)), (18, .ref (adT 6)), (19, .ref (adT 7)), (20, .ref aL), (21, .int (nI p1))]) hx hb dL_law_812 hl (by decide) rfl (fun ls hl => ?_)
        refine lv_aload_n hx hb dL_law_814 rfl (lv_at hl 3 rfl) ?_
        refine lv_iload hx hb dL_law_815 (lv_at hl 23 rfl) ?_
        refine lv_iconst (v := 2) hx hb dL_law_817 (by decide) ?_
        refine lx_i (As := [.int (nI p1), .int 2]) (rest := []) F T kg (mX6_pierOf l dC dI adX cy F.J σ (nI p1) 2 _ (cq_p2 hC hp)) (cwV 2 F.S.2.2.2.2 gL_law_X6_pierOf rfl rfl rfl dmX6_pierOf ⟨Nat.le_of_ble_eq_true rfl, Nat.le_of_ble_eq_true rfl⟩) hw rfl rfl hl.1 (Nat.le_of_ble_eq_true rfl) ⟨cL (by omega), sL (by omega)⟩ dL_law_818 (fun H locs hw => ?_)
        refine lv_iload hx hb dL_law_821 (lv_at hl 1 rfl) ?_
        refine lv_if_eq (tgt := 838) hx hb dL_law_823 (by decide) (fun _ => ?_) (fun q9 => absurd (by decide) q9)
        refine lv_iconst (v := nI 0) hx hb dL_law_838 (by decide) ?_
        refine lv_icmp_ne (tgt := 975) hx hb dL_law_839 (by decide) (fun q9 => absurd (congrArg nI (show (nptD d p1) = 0 by omega)) q9) (fun _ => ?_)
        refine lv_aload_n hx hb dL_law_842 rfl (lv_at hl 3 rfl) ?_
        refine lv_iload hx hb dL_law_843 (lv_at hl 23 rfl) ?_
        refine lv_iconst (v := 3) hx hb dL_law_845 (by decide) ?_
        refine lx_i (As := [.int (nI p1), .int 3]) (rest := []) F T kg (mX6_pierOf l dC dI adX cy F.J σ (nI p1) 3 _ (cq_p3 hC hp)) (cwV 2 F.S.2.2.2.2 gL_law_X6_pierOf rfl rfl rfl dmX6_pierOf ⟨Nat.le_of_ble_eq_true rfl, Nat.le_of_ble_eq_true rfl⟩) hw rfl rfl hl.1 (Nat.le_of_ble_eq_true rfl) ⟨cL (by omega), sL (by omega)⟩ dL_law_846 (fun H locs hw => ?_)
        refine lv_aload hx hb dL_law_849 (lv_at hl 15 rfl) ?_
        refine lv_iload hx hb dL_law_851 (lv_at hl 23 rfl) ?_
        refine lx_ald F T hw 1 (by decide) (i := p1) (v := nI (stD d p1)) (by show p1 < 8; omega) (by omega) (tf1 p1 (by omega)) dL_law_853 ?_
        refine lv_icmp_ne (tgt := 975) hx hb dL_law_854 (by decide) (fun q9 => absurd (congrArg nI (show (stD d p1) = (stD d p1) by omega)) q9) (fun _ => ?_)
        refine lv_aload_n hx hb dL_law_857 rfl (lv_at hl 3 rfl) ?_
        refine lv_iload hx hb dL_law_858 (lv_at hl 23 rfl) ?_
        refine lv_iconst (v := 4) hx hb dL_law_860 (by decide) ?_
        refine lx_i (As := [.int (nI p1), .int 4]) (rest := []) F T kg (mX6_pierOf l dC dI adX cy F.J σ (nI p1) 4 _ (cq_p4 hC hp)) (cwV 2 F.S.2.2.2.2 gL_law_X6_pierOf rfl rfl rfl dmX6_pierOf ⟨Nat.le_of_ble_eq_true rfl, Nat.le_of_ble_eq_true rfl⟩) hw rfl rfl hl.1 (Nat.le_of_ble_eq_true rfl) ⟨cL (by omega), sL (by omega)⟩ dL_law_861 (fun H locs hw => ?_)
        refine lv_aload hx hb dL_law_864 (lv_at hl 16 rfl) ?_
        refine lv_iload hx hb dL_law_866 (lv_at hl 23 rfl) ?_
        refine lx_ald F T hw 2 (by decide) (i := p1) (v := nI (hcD d (dB d) p1)) (by show p1 < 8; omega) (by omega) (tf2 p1 (by omega)) dL_law_868 ?_
        refine lv_icmp_ne (tgt := 975) hx hb dL_law_869 (by decide) (fun q9 => absurd (congrArg nI (show (hcD d (dB d) p1) = (hcD d (dB d) p1) by omega)) q9) (fun _ => ?_)
        refine lv_aload_n hx hb dL_law_872 rfl (lv_at hl 3 rfl) ?_
        refine lv_iload hx hb dL_law_873 (lv_at hl 23 rfl) ?_
        refine lv_iconst (v := 5) hx hb dL_law_875 (by decide) ?_
        refine lx_i (As := [.int (nI p1), .int 5]) (rest := []) F T kg (mX6_pierOf l dC dI adX cy F.J σ (nI p1) 5 _ (cq_p5 hC hp)) (cwV 2 F.S.2.2.2.2 gL_law_X6_pierOf rfl rfl rfl dmX6_pierOf ⟨Nat.le_of_ble_eq_true rfl, Nat.le_of_ble_eq_true rfl⟩) hw rfl rfl hl.1 (Nat.le_of_ble_eq_true rfl) ⟨cL (by omega), sL (by omega)⟩ dL_law_876 (fun H locs hw => ?_)
        refine lv_aload hx hb dL_law_879 (lv_at hl 17 rfl) ?_
        refine lv_iload hx hb dL_law_881 (lv_at hl 23 rfl) ?_
        refine lx_ald F T hw 3 (by decide) (i := p1) (v := nI (htD d (dB d) p1)) (by show p1 < 8; omega) (by omega) (tf3 p1 (by omega)) dL_law_883 ?_
        refine lv_icmp_ne (tgt := 975) hx hb dL_law_884 (by decide) (fun q9 => absurd (congrArg nI (show (htD d (dB d) p1) = (htD d (dB d) p1) by omega)) q9) (fun _ => ?_)
        refine lv_aload_n hx hb dL_law_887 rfl (lv_at hl 3 rfl) ?_
        refine lv_iload hx hb dL_law_888 (lv_at hl 23 rfl) ?_
        refine lv_bipush (v := 6) hx hb dL_law_890 (by decide) ?_
        refine lx_i (As := [.int (nI p1), .int 6]) (rest := []) F T kg (mX6_pierOf l dC dI adX cy F.J σ (nI p1) 6 _ (cq_p6 hC hp)) (cwV 2 F.S.2.2.2.2 gL_law_X6_pierOf rfl rfl rfl dmX6_pierOf ⟨Nat.le_of_ble_eq_true rfl, Nat.le_of_ble_eq_true rfl⟩) hw rfl rfl hl.1 (Nat.le_of_ble_eq_true rfl) ⟨cL (by omega), sL (by omega)⟩ dL_law_892 (fun H locs hw => ?_)
        refine lv_aload hx hb dL_law_895 (lv_at hl 18 rfl) ?_
        refine lv_iload hx hb dL_law_897 (lv_at hl 23 rfl) ?_
        refine lx_ald F T hw 4 (by decide) (i := p1) (v := nI (lcD d (dB d) p1)) (by show p1 < 8; omega) (by omega) (tf4 p1 (by omega)) dL_law_899 ?_
        refine lv_icmp_ne (tgt := 975) hx hb dL_law_900 (by decide) (fun q9 => absurd (congrArg nI (show (lcD d (dB d) p1) = (lcD d (dB d) p1) by omega)) q9) (fun _ => ?_)
        refine lv_aload_n hx hb dL_law_903 rfl (lv_at hl 3 rfl) ?_
        refine lv_iload hx hb dL_law_904 (lv_at hl 23 rfl) ?_
        refine lv_bipush (v := 7) hx hb dL_law_906 (by decide) ?_
        refine lx_i (As := [.int (nI p1), .int 7]) (rest := []) F T kg (mX6_pierOf l dC dI adX cy F.J σ (nI p1) 7 _ (cq_p7 hC hp)) (cwV 2 F.S.2.2.2.2 gL_law_X6_pierOf rfl rfl rfl dmX6_pierOf ⟨Nat.le_of_ble_eq_true rfl, Nat.le_of_ble_eq_true rfl⟩) hw rfl rfl hl.1 (Nat.le_of_ble_eq_true rfl) ⟨cL (by omega), sL (by omega)⟩ dL_law_908 (fun H locs hw => ?_)
        refine lv_aload hx hb dL_law_911 (lv_at hl 19 rfl) ?_
        refine lv_iload hx hb dL_law_913 (lv_at hl 23 rfl) ?_
        refine lx_ald F T hw 5 (by decide) (i := p1) (v := nI (tkD d (dB d) p1)) (by show p1 < 8; omega) (by omega) (tf5 p1 (by omega)) dL_law_915 ?_
        refine lv_icmp_ne (tgt := 975) hx hb dL_law_916 (by decide) (fun q9 => absurd (congrArg nI (show (tkD d (dB d) p1) = (tkD d (dB d) p1) by omega)) q9) (fun _ => ?_)
        refine lv_aload_n hx hb dL_law_919 rfl (lv_at hl 3 rfl) ?_
        refine lv_iload hx hb dL_law_920 (lv_at hl 23 rfl) ?_
        refine lv_bipush (v := 8) hx hb dL_law_922 (by decide) ?_
        refine lx_i (As := [.int (nI p1), .int 8]) (rest := []) F T kg (mX6_pierOf l dC dI adX cy F.J σ (nI p1) 8 _ (cq_p8 hC hp)) (cwV 2 F.S.2.2.2.2 gL_law_X6_pierOf rfl rfl rfl dmX6_pierOf ⟨Nat.le_of_ble_eq_true rfl, Nat.le_of_ble_eq_true rfl⟩) hw rfl rfl hl.1 (Nat.le_of_ble_eq_true rfl) ⟨cL (by omega), sL (by omega)⟩ dL_law_924 (fun H locs hw => ?_)
        refine lv_iload hx hb dL_law_927 (lv_at hl 0 rfl) ?_
        refine lv_icmp_ne (tgt := 975) hx hb dL_law_929 (by decide) (fun q9 => absurd (congrArg nI (show (roomD d p1) = 0 by omega)) q9) (fun _ => ?_)
        refine lv_aload_n hx hb dL_law_932 rfl (lv_at hl 3 rfl) ?_
        refine lv_iload hx hb dL_law_933 (lv_at hl 23 rfl) ?_
        refine lv_bipush (v := 9) hx hb dL_law_935 (by decide) ?_
        refine lx_i (As := [.int (nI p1), .int 9]) (rest := []) F T kg (mX6_pierOf l dC dI adX cy F.J σ (nI p1) 9 _ (cq_p9 hC hp)) (cwV 2 F.S.2.2.2.2 gL_law_X6_pierOf rfl rfl rfl dmX6_pierOf ⟨Nat.le_of_ble_eq_true rfl, Nat.le_of_ble_eq_true rfl⟩) hw rfl rfl hl.1 (Nat.le_of_ble_eq_true rfl) ⟨cL (by omega), sL (by omega)⟩ dL_law_937 (fun H locs hw => ?_)
        refine lv_aload hx hb dL_law_940 (lv_at hl 17 rfl) ?_
        refine lv_iload hx hb dL_law_942 (lv_at hl 23 rfl) ?_
        refine lx_ald F T hw 3 (by decide) (i := p1) (v := nI (htD d (dB d) p1)) (by show p1 < 8; omega) (by omega) (tf3 p1 (by omega)) dL_law_944 ?_
        refine lv_iload hx hb dL_law_945 (lv_at hl 0 rfl) ?_
        refine lv_icmp_le (tgt := 954) hx hb dL_law_947 (by decide) (fun q9 => absurd q9 (nI_ge (by omega) (by omega))) (fun _ => ?_)
        refine lv_iconst (v := nI 1) hx hb dL_law_950 (by decide) ?_
        refine lv_goto (tgt := 955) hx hb dL_law_951 (by decide) ?_
        refine lv_icmp_ne (tgt := 975) hx hb dL_law_955 (by decide) (fun q9 => absurd (by rw [hhb]; rfl) q9) (fun _ => ?_)
        refine lv_aload_n hx hb dL_law_958 rfl (lv_at hl 3 rfl) ?_
        refine lv_iload hx hb dL_law_959 (lv_at hl 23 rfl) ?_
        refine lx_i (As := [.int (nI p1)]) (rest := []) F T kg (mX6_tell l dC dI adX cy F.J σ (nI p1) _ (ct1)) (cwV 1 F.S.2.2.2.2 gL_law_X6_tell rfl rfl rfl dmX6_tell ⟨Nat.le_of_ble_eq_true rfl, Nat.le_of_ble_eq_true rfl⟩) hw rfl rfl hl.1 (Nat.le_of_ble_eq_true rfl) ⟨cL (by omega), sL (by omega)⟩ dL_law_961 (fun H locs hw => ?_)
        have hC := hC1
        refine lv_aload hx hb dL_law_964 (lv_at hl 22 rfl) ?_
        refine lv_iload hx hb dL_law_966 (lv_at hl 23 rfl) ?_
        refine ls_ald (i := p1) F hw (hw.g) (by omega) (by omega) dL_law_968 ?_
        refine ls_len F kg hw (fun H h => (h.2.2 p1 hp).2.2) (cwV 0 F.S.2.2.2.2 gL_law_J0_length_8abf5 rfl rfl rfl dmJ0_length_8abf5 ⟨Nat.le_of_ble_eq_true rfl, Nat.le_of_ble_eq_true rfl⟩) hl.1 (Nat.le_of_ble_eq_true rfl) ⟨cL (by omega), sL (by omega)⟩ dL_law_969 (fun H locs hw => ?_)
        refine lv_icmp_eq (tgt := 977) hx hb dL_law_972 (by decide) (fun _ => ?_) (fun q9 => absurd (congrArg nI (show (lnAt d (dB d) p1).length = (lnAt d (dB d) p1).length by omega)) q9)
        refine lv_iconst (v := nI 0) hx hb dL_law_977 (by decide) ?_
        refine lv_istore (lv' := [(24, .int (nI 0)), (23, .int (nI 0)), (22, .int (nI 0)), (0, .ref b), (1, .ref (adX 0)), (2, .int (nI turn)), (3, .int (nI (dP d))), (4, .int (nI (dB d))), (5, .int (nI (opS d p1))), (6, .int (nI (offD d p1))), (7, .int (nI (sumTo (dto d) (dB d)))), (8, .int (nI (lyD d (dB d)))), (9, .int (nI (rmS d p1))), (10, .int (nI (htS d p1))), (11, .int (nI (dT d))), (12, .ref (adT 0)), (13, .ref (adT 1)), (14, .ref (adT 2)), (15, .ref (adT 3)), (16, .ref (adT 4)), (17, .ref (adT 5)), (18, .ref (adT 6)), (19, .ref (adT 7)), (20, .ref aL), (21, .int (nI p1))]) hx hb dL_law_978 hl (by decide) rfl (fun ls hl => ?_)
        refine law_p5c F T hC1 (τ := τ) (aL := aL) (qs := qs) (vs := vs) hp hnc hns ct2 hlen (fun H locs hw ls hl => ?_) (lnAt d (dB d) p1).length 0 (by omega) H locs hw ls (lv_sub hl [3, 4, 5, 6, 7, 8, 9, 10, 11, 12, 13, 14, 15, 16, 17, 18, 19, 20, 21, 22, 23, 24, 2, 1, 0] rfl)
        refine lv_iload hx hb dL_law_1020 (lv_at hl 5 rfl) ?_
        refine lv_iload hx hb dL_law_1022 (lv_at hl 22 rfl) ?_
        refine lv_if_eq (tgt := 1031) hx hb dL_law_1024 (by decide) (fun _ => ?_) (fun q9 => absurd (by decide) q9)
        refine lv_iconst (v := nI 0) hx hb dL_law_1031 (by decide) ?_
        refine lv_iadd hx hb dL_law_1032 ?_
        rw [show (((nI (opS d p1)) + (nI 0)) : Int32) = nI (opS d (p1 + 1)) from by rw [hos]; exact (nI_add _ _).trans (by rw [Nat.add_zero])]
        refine lv_istore (lv' := [(5, .int (nI (opS d (p1 + 1)))), (0, .ref b), (1, .ref (adX 0)), (2, .int (nI turn)), (3, .int (nI (dP d))), (4, .int (nI (dB d))), (6, .int (nI (offD d p1))), (7, .int (nI (sumTo (dto d) (dB d)))), (8, .int (nI (lyD d (dB d)))), (9, .int (nI (rmS d p1))), (10, .int (nI (htS d p1))), (11, .int (nI (dT d))), (12, .ref (adT 0)), (13, .ref (adT 1)), (14, .ref (adT 2)), (15, .ref (adT 3)), (16, .ref (adT 4)), (17, .ref (adT 5)), (18, .ref (adT 6)), (19, .ref (adT 7)), (20, .ref aL), (21, .int (nI p1)), (22, .int (nI 0)), (23, .int (nI 0))]) hx hb dL_law_1033 hl (by decide) rfl (fun ls hl => ?_)
        refine lv_iload hx hb dL_law_1035 (lv_at hl 6 rfl) ?_
        refine lv_aload_n hx hb dL_law_1037 rfl (lv_at hl 2 rfl) ?_
        refine lv_iload hx hb dL_law_1038 (lv_at hl 21 rfl) ?_
        refine lv_iconst (v := 2) hx hb dL_law_1040 (by decide) ?_
        refine lx_i (As := [.int (nI p1), .int 2]) (rest := [.int (nI (offD d p1))]) F T kg (mX6_pierOf l dC dI adX cy F.J σ1 (nI p1) 2 _ (cq_p2 hC1 hp)) (cwV 2 F.S.2.2.2.2 gL_law_X6_pierOf rfl rfl rfl dmX6_pierOf ⟨Nat.le_of_ble_eq_true rfl, Nat.le_of_ble_eq_true rfl⟩) hw rfl rfl hl.1 (Nat.le_of_ble_eq_true rfl) ⟨cL (by omega), sL (by omega)⟩ dL_law_1041 (fun H locs hw => ?_)
        refine lv_iadd hx hb dL_law_1044 ?_
        rw [show (((nI (offD d p1)) + (nI (nptD d p1))) : Int32) = nI (offD d (p1 + 1)) from nI_add _ _]
        refine lv_istore (lv' := [(6, .int (nI (offD d (p1 + 1)))), (5, .int (nI (opS d (p1 + 1)))), (0, .ref b), (1, .ref (adX 0)), (2, .int (nI turn)), (3, .int (nI (dP d))), (4, .int (nI (dB d))), (7, .int (nI (sumTo (dto d) (dB d)))), (8, .int (nI (lyD d (dB d)))), (9, .int (nI (rmS d p1))), (10, .int (nI (htS d p1))), (11, .int (nI (dT d))), (12, .ref (adT 0)), (13, .ref (adT 1)), (14, .ref (adT 2)), (15, .ref (adT 3)), (16, .ref (adT 4)), (17, .ref (adT 5)), (18, .ref (adT 6)), (19, .ref (adT 7)), (20, .ref aL), (21, .int (nI p1)), (22, .int (nI 0)), (23, .int (nI 0))]) hx hb dL_law_1045 hl (by decide) rfl (fun ls hl => ?_)
        refine lv_iload hx hb dL_law_1047 (lv_at hl 9 rfl) ?_
        refine lv_iload hx hb dL_law_1049 (lv_at hl 23 rfl) ?_
        refine lv_iadd hx hb dL_law_1051 ?_
        rw [show (((nI (rmS d p1)) + (nI 0)) : Int32) = nI (rmS d (p1 + 1)) from by rw [hrm, hro]; exact nI_add _ _]
        refine lv_istore (lv' := [(9, .int (nI (rmS d (p1 + 1)))), (6, .int (nI (offD d (p1 + 1)))), (5, .int (nI (opS d (p1 + 1)))), (0, .ref b), (1, .ref (adX 0)), (2, .int (nI turn)), (3, .int (nI (dP d))), (4, .int (nI (dB d))), (7, .int (nI (sumTo (dto d) (dB d)))), (8, .int (nI (lyD d (dB d)))), (10, .int (nI (htS d p1))), (11, .int (nI (dT d))), (12, .ref (adT 0)), (13, .ref (adT 1)), (14, .ref (adT 2)), (15, .ref (adT 3)), (16, .ref (adT 4)), (17, .ref (adT 5)), (18, .ref (adT 6)), (19, .ref (adT 7)), (20, .ref aL), (21, .int (nI p1)), (22, .int (nI 0)), (23, .int (nI 0))]) hx hb dL_law_1052 hl (by decide) rfl (fun ls hl => ?_)
        refine lv_iload hx hb dL_law_1054 (lv_at hl 10 rfl) ?_
        refine lv_aload hx hb dL_law_1056 (lv_at hl 15 rfl) ?_
        refine lv_iload hx hb dL_law_1058 (lv_at hl 21 rfl) ?_
        refine lx_ald F T hw 3 (by decide) (i := p1) (v := nI (htD d (dB d) p1)) (by show p1 < 8; omega) (by omega) (tf3 p1 (by omega)) dL_law_1060 ?_
        refine lv_iload hx hb dL_law_1061 (lv_at hl 23 rfl) ?_
        refine lv_icmp_le (tgt := 1070) hx hb dL_law_1063 (by decide) (fun q9 => absurd q9 (nI_ge (by omega) (by omega))) (fun _ => ?_)
        refine lv_iconst (v := nI 1) hx hb dL_law_1066 (by decide) ?_
        refine lv_goto (tgt := 1071) hx hb dL_law_1067 (by decide) ?_
        refine lv_iadd hx hb dL_law_1071 ?_
        rw [show (((nI (htS d p1)) + (nI 1)) : Int32) = nI (htS d (p1 + 1)) from by rw [hhs]; exact nI_add _ _]
        refine lv_istore (lv' := [(10, .int (nI (htS d (p1 + 1)))), (9, .int (nI (rmS d (p1 + 1)))), (6, .int (nI (offD d (p1 + 1)))), (5, .int (nI (opS d (p1 + 1)))), (0, .ref b), (1, .ref (adX 0)), (2, .int (nI turn)), (3, .int (nI (dP d))), (4, .int (nI (dB d))), (7, .int (nI (sumTo (dto d) (dB d)))), (8, .int (nI (lyD d (dB d)))), (11, .int (nI (dT d))), (12, .ref (adT 0)), (13, .ref (adT 1)), (14, .ref (adT 2)), (15, .ref (adT 3)), (16, .ref (adT 4)), (17, .ref (adT 5)), (18, .ref (adT 6)), (19, .ref (adT 7)), (20, .ref aL), (21, .int (nI p1)), (22, .int (nI 0)), (23, .int (nI 0))]) hx hb dL_law_1072 hl (by decide) rfl (fun ls hl => ?_)
        refine lv_iinc (v := nI (p1 + 1)) (lv' := [(21, .int (nI (p1 + 1))), (10, .int (nI (htS d (p1 + 1)))), (9, .int (nI (rmS d (p1 + 1)))), (6, .int (nI (offD d (p1 + 1)))), (5, .int (nI (opS d (p1 + 1)))), (0, .ref b), (1, .ref (adX 0)), (2, .int (nI turn)), (3, .int (nI (dP d))), (4, .int (nI (dB d))), (7, .int (nI (sumTo (dto d) (dB d)))), (8, .int (nI (lyD d (dB d)))), (11, .int (nI (dT d))), (12, .ref (adT 0)), (13, .ref (adT 1)), (14, .ref (adT 2)), (15, .ref (adT 3)), (16, .ref (adT 4)), (17, .ref (adT 5)), (18, .ref (adT 6)), (19, .ref (adT 7)), (20, .ref aL), (22, .int (nI 0)), (23, .int (nI 0))]) hx hb dL_law_1074 hl (k := 21) rfl (nI_1 p1) (by decide) rfl (fun ls hl => ?_)
        refine lv_goto (tgt := 769) hx hb dL_law_1077 (by decide) ?_
        exact ih (p1 + 1) (by omega) σ1 hI1 H locs hw ls (lv_sub hl [5, 6, 7, 8, 9, 4, 3, 10, 11, 2, 1, 12, 13, 14, 15, 16, 17, 18, 19, 20, 21, 0] rfl)
      · have hhb : hotD d p1 = false := decide_eq_false hht
        have hhs : htS d (p1 + 1) = htS d p1 := by show _ + (if hotD d p1 = true then 1 else 0) = _; rw [if_neg (fun z => by rw [hhb] at z; cases z)]; rfl
        refine lv_iload hx hb dL_law_769 (lv_at hl 21 rfl) ?_
        refine lv_iload_n hx hb dL_law_771 rfl (lv_at hl 3 rfl) ?_
        refine lv_icmp_ge (tgt := 1080) hx hb dL_law_772 (by decide) (fun q9 => absurd q9 (nI_ge (by omega) (by omega))) (fun _ => ?_)
        refine lv_aload_n hx hb dL_law_775 rfl (lv_at hl 1 rfl) ?_
        refine lv_iload hx hb dL_law_776 (lv_at hl 21 rfl) ?_
        refine lv_iconst (v := 1) hx hb dL_law_778 (by decide) ?_
        refine lx_i (As := [.int (nI p1), .int 1]) (rest := []) F T kg (mX6_pierOf l dC dI adX cy F.J σ (nI p1) 1 _ (cq_p1 hC hp)) (cwV 2 F.S.2.2.2.2 gL_law_X6_pierOf rfl rfl rfl dmX6_pierOf ⟨Nat.le_of_ble_eq_true rfl, Nat.le_of_ble_eq_true rfl⟩) hw rfl rfl hl.1 (Nat.le_of_ble_eq_true rfl) ⟨cL (by omega), sL (by omega)⟩ dL_law_779 (fun H locs hw => ?_)
        refine lv_iconst (v := 1) hx hb dL_law_782 (by decide) ?_
        refine lv_icmp_ne (tgt := 790) hx hb dL_law_783 (by decide) (fun _ => ?_) (fun q9 => absurd q9 (by rw [hop]; decide))
        refine lv_iconst (v := nI 0) hx hb dL_law_790 (by decide) ?_
        refine lv_istore (lv' := [(22, .int (nI 0)), (0, .ref b), (1, .ref (adX 0)), (2, .int (nI turn)), (3, .int (nI (dP d))), (4, .int (nI (dB d))), (5, .int (nI (opS d p1))), (6, .int (nI (offD d p1))), (7, .int (nI (sumTo (dto d) (dB d)))), (8, .int (nI (lyD d (dB d)))), (9, .int (nI (rmS d p1))), (10, .int (nI (htS d p1))), (11, .int (nI (dT d))), (12, .ref (adT 0)), (13, .ref (adT 1)), (14, .ref (adT 2)), (15, .ref (adT 3)), (16, .ref (adT 4)), (17, .ref (adT 5)), (18, .ref (adT 6)), (19, .ref (adT 7)), (20, .ref aL), (21, .int (nI p1))]) hx hb dL_law_791 hl (by decide) rfl (fun ls hl => ?_)
        refine lv_iload hx hb dL_law_793 (lv_at hl 0 rfl) ?_
        refine lv_if_eq (tgt := 811) hx hb dL_law_795 (by decide) (fun _ => ?_) (fun q9 => absurd (by decide) q9)
        refine lv_iconst (v := nI 0) hx hb dL_law_811 (by decide) ?_
        refine lv_istore (lv' := [(23, .int (nI 0)), (22, .int (nI 0)), (0, .ref b), (1, .ref (adX 0)), (2, .int (nI turn)), (3, .int (nI (dP d))), (4, .int (nI (dB d))), (5, .int (nI (opS d p1))), (6, .int (nI (offD d p1))), (7, .int (nI (sumTo (dto d) (dB d)))), (8, .int (nI (lyD d (dB d)))), (9, .int (nI (rmS d p1))), (10, .int (nI (htS d p1))), (11, .int (nI (dT d))), (12, .ref (adT 0)), (13, .ref (adT 1)), (14, .ref (adT 2)), (15, .ref (adT 3)), (16, .ref (adT 4)), (17, .ref (adT 5)), (18, .ref (adT 6)), (19, .ref (adT 7)), (20, .ref aL), (21, .int (nI p1))]) hx hb dL_law_812 hl (by decide) rfl (fun ls hl => ?_)
        refine lv_aload_n hx hb dL_law_814 rfl (lv_at hl 3 rfl) ?_
        refine lv_iload hx hb dL_law_815 (lv_at hl 23 rfl) ?_
        refine lv_iconst (v := 2) hx hb dL_law_817 (by decide) ?_
        refine lx_i (As := [.int (nI p1), .int 2]) (rest := []) F T kg (mX6_pierOf l dC dI adX cy F.J σ (nI p1) 2 _ (cq_p2 hC hp)) (cwV 2 F.S.2.2.2.2 gL_law_X6_pierOf rfl rfl rfl dmX6_pierOf ⟨Nat.le_of_ble_eq_true rfl, Nat.le_of_ble_eq_true rfl⟩) hw rfl rfl hl.1 (Nat.le_of_ble_eq_true rfl) ⟨cL (by omega), sL (by omega)⟩ dL_law_818 (fun H locs hw => ?_)
        refine lv_iload hx hb dL_law_821 (lv_at hl 1 rfl) ?_
        refine lv_if_eq (tgt := 838) hx hb dL_law_823 (by decide) (fun _ => ?_) (fun q9 => absurd (by decide) q9)
        refine lv_iconst (v := nI 0) hx hb dL_law_838 (by decide) ?_
        refine lv_icmp_ne (tgt := 975) hx hb dL_law_839 (by decide) (fun q9 => absurd (congrArg nI (show (nptD d p1) = 0 by omega)) q9) (fun _ => ?_)
        refine lv_aload_n hx hb dL_law_842 rfl (lv_at hl 3 rfl) ?_
        refine lv_iload hx hb dL_law_843 (lv_at hl 23 rfl) ?_
        refine lv_iconst (v := 3) hx hb dL_law_845 (by decide) ?_
        refine lx_i (As := [.int (nI p1), .int 3]) (rest := []) F T kg (mX6_pierOf l dC dI adX cy F.J σ (nI p1) 3 _ (cq_p3 hC hp)) (cwV 2 F.S.2.2.2.2 gL_law_X6_pierOf rfl rfl rfl dmX6_pierOf ⟨Nat.le_of_ble_eq_true rfl, Nat.le_of_ble_eq_true rfl⟩) hw rfl rfl hl.1 (Nat.le_of_ble_eq_true rfl) ⟨cL (by omega), sL (by omega)⟩ dL_law_846 (fun H locs hw => ?_)
        refine lv_aload hx hb dL_law_849 (lv_at hl 15 rfl) ?_
        refine lv_iload hx hb dL_law_851 (lv_at hl 23 rfl) ?_
        refine lx_ald F T hw 1 (by decide) (i := p1) (v := nI (stD d p1)) (by show p1 < 8; omega) (by omega) (tf1 p1 (by omega)) dL_law_853 ?_
        refine lv_icmp_ne (tgt := 975) hx hb dL_law_854 (by decide) (fun q9 => absurd (congrArg nI (show (stD d p1) = (stD d p1) by omega)) q9) (fun _ => ?_)
        refine lv_aload_n hx hb dL_law_857 rfl (lv_at hl 3 rfl) ?_
        refine lv_iload hx hb dL_law_858 (lv_at hl 23 rfl) ?_
        refine lv_iconst (v := 4) hx hb dL_law_860 (by decide) ?_
        refine lx_i (As := [.int (nI p1), .int 4]) (rest := []) F T kg (mX6_pierOf l dC dI adX cy F.J σ (nI p1) 4 _ (cq_p4 hC hp)) (cwV 2 F.S.2.2.2.2 gL_law_X6_pierOf rfl rfl rfl dmX6_pierOf ⟨Nat.le_of_ble_eq_true rfl, Nat.le_of_ble_eq_true rfl⟩) hw rfl rfl hl.1 (Nat.le_of_ble_eq_true rfl) ⟨cL (by omega), sL (by omega)⟩ dL_law_861 (fun H locs hw => ?_)
        refine lv_aload hx hb dL_law_864 (lv_at hl 16 rfl) ?_
        refine lv_iload hx hb dL_law_866 (lv_at hl 23 rfl) ?_
        refine lx_ald F T hw 2 (by decide) (i := p1) (v := nI (hcD d (dB d) p1)) (by show p1 < 8; omega) (by omega) (tf2 p1 (by omega)) dL_law_868 ?_
        refine lv_icmp_ne (tgt := 975) hx hb dL_law_869 (by decide) (fun q9 => absurd (congrArg nI (show (hcD d (dB d) p1) = (hcD d (dB d) p1) by omega)) q9) (fun _ => ?_)
        refine lv_aload_n hx hb dL_law_872 rfl (lv_at hl 3 rfl) ?_
        refine lv_iload hx hb dL_law_873 (lv_at hl 23 rfl) ?_
        refine lv_iconst (v := 5) hx hb dL_law_875 (by decide) ?_
        refine lx_i (As := [.int (nI p1), .int 5]) (rest := []) F T kg (mX6_pierOf l dC dI adX cy F.J σ (nI p1) 5 _ (cq_p5 hC hp)) (cwV 2 F.S.2.2.2.2 gL_law_X6_pierOf rfl rfl rfl dmX6_pierOf ⟨Nat.le_of_ble_eq_true rfl, Nat.le_of_ble_eq_true rfl⟩) hw rfl rfl hl.1 (Nat.le_of_ble_eq_true rfl) ⟨cL (by omega), sL (by omega)⟩ dL_law_876 (fun H locs hw => ?_)
        refine lv_aload hx hb dL_law_879 (lv_at hl 17 rfl) ?_
        refine lv_iload hx hb dL_law_881 (lv_at hl 23 rfl) ?_
        refine lx_ald F T hw 3 (by decide) (i := p1) (v := nI (htD d (dB d) p1)) (by show p1 < 8; omega) (by omega) (tf3 p1 (by omega)) dL_law_883 ?_
        refine lv_icmp_ne (tgt := 975) hx hb dL_law_884 (by decide) (fun q9 => absurd (congrArg nI (show (htD d (dB d) p1) = (htD d (dB d) p1) by omega)) q9) (fun _ => ?_)
        refine lv_aload_n hx hb dL_law_887 rfl (lv_at hl 3 rfl) ?_
        refine lv_iload hx hb dL_law_888 (lv_at hl 23 rfl) ?_
        refine lv_bipush (v := 6) hx hb dL_law_890 (by decide) ?_
        refine lx_i (As := [.int (nI p1), .int 6]) (rest := []) F T kg (mX6_pierOf l dC dI adX cy F.J σ (nI p1) 6 _ (cq_p6 hC hp)) (cwV 2 F.S.2.2.2.2 gL_law_X6_pierOf rfl rfl rfl dmX6_pierOf ⟨Nat.le_of_ble_eq_true rfl, Nat.le_of_ble_eq_true rfl⟩) hw rfl rfl hl.1 (Nat.le_of_ble_eq_true rfl) ⟨cL (by omega), sL (by omega)⟩ dL_law_892 (fun H locs hw => ?_)
        refine lv_aload hx hb dL_law_895 (lv_at hl 18 rfl) ?_
        refine lv_iload hx hb dL_law_897 (lv_at hl 23 rfl) ?_
        refine lx_ald F T hw 4 (by decide) (i := p1) (v := nI (lcD d (dB d) p1)) (by show p1 < 8; omega) (by omega) (tf4 p1 (by omega)) dL_law_899 ?_
        refine lv_icmp_ne (tgt := 975) hx hb dL_law_900 (by decide) (fun q9 => absurd (congrArg nI (show (lcD d (dB d) p1) = (lcD d (dB d) p1) by omega)) q9) (fun _ => ?_)
        refine lv_aload_n hx hb dL_law_903 rfl (lv_at hl 3 rfl) ?_
        refine lv_iload hx hb dL_law_904 (lv_at hl 23 rfl) ?_
        refine lv_bipush (v := 7) hx hb dL_law_906 (by decide) ?_
        refine lx_i (As := [.int (nI p1), .int 7]) (rest := []) F T kg (mX6_pierOf l dC dI adX cy F.J σ (nI p1) 7 _ (cq_p7 hC hp)) (cwV 2 F.S.2.2.2.2 gL_law_X6_pierOf rfl rfl rfl dmX6_pierOf ⟨Nat.le_of_ble_eq_true rfl, Nat.le_of_ble_eq_true rfl⟩) hw rfl rfl hl.1 (Nat.le_of_ble_eq_true rfl) ⟨cL (by omega), sL (by omega)⟩ dL_law_908 (fun H locs hw => ?_)
        refine lv_aload hx hb dL_law_911 (lv_at hl 19 rfl) ?_
        refine lv_iload hx hb dL_law_913 (lv_at hl 23 rfl) ?_
        refine lx_ald F T hw 5 (by decide) (i := p1) (v := nI (tkD d (dB d) p1)) (by show p1 < 8; omega) (by omega) (tf5 p1 (by omega)) dL_law_915 ?_
        refine lv_icmp_ne (tgt := 975) hx hb dL_law_916 (by decide) (fun q9 => absurd (congrArg nI (show (tkD d (dB d) p1) = (tkD d (dB d) p1) by omega)) q9) (fun _ => ?_)
        refine lv_aload_n hx hb dL_law_919 rfl (lv_at hl 3 rfl) ?_
        refine lv_iload hx hb dL_law_920 (lv_at hl 23 rfl) ?_
        refine lv_bipush (v := 8) hx hb dL_law_922 (by decide) ?_
        refine lx_i (As := [.int (nI p1), .int 8]) (rest := []) F T kg (mX6_pierOf l dC dI adX cy F.J σ (nI p1) 8 _ (cq_p8 hC hp)) (cwV 2 F.S.2.2.2.2 gL_law_X6_pierOf rfl rfl rfl dmX6_pierOf ⟨Nat.le_of_ble_eq_true rfl, Nat.le_of_ble_eq_true rfl⟩) hw rfl rfl hl.1 (Nat.le_of_ble_eq_true rfl) ⟨cL (by omega), sL (by omega)⟩ dL_law_924 (fun H locs hw => ?_)
        refine lv_iload hx hb dL_law_927 (lv_at hl 0 rfl) ?_
        refine lv_icmp_ne (tgt := 975) hx hb dL_law_929 (by decide) (fun q9 => absurd (congrArg nI (show (roomD d p1) = 0 by omega)) q9) (fun _ => ?_)
        refine lv_aload_n hx hb dL_law_932 rfl (lv_at hl 3 rfl) ?_
        refine lv_iload hx hb dL_law_933 (lv_at hl 23 rfl) ?_
        refine lv_bipush (v := 9) hx hb dL_law_935 (by decide) ?_
        refine lx_i (As := [.int (nI p1), .int 9]) (rest := []) F T kg (mX6_pierOf l dC dI adX cy F.J σ (nI p1) 9 _ (cq_p9 hC hp)) (cwV 2 F.S.2.2.2.2 gL_law_X6_pierOf rfl rfl rfl dmX6_pierOf ⟨Nat.le_of_ble_eq_true rfl, Nat.le_of_ble_eq_true rfl⟩) hw rfl rfl hl.1 (Nat.le_of_ble_eq_true rfl) ⟨cL (by omega), sL (by omega)⟩ dL_law_937 (fun H locs hw => ?_)
        refine lv_aload hx hb dL_law_940 (lv_at hl 17 rfl) ?_
        refine lv_iload hx hb dL_law_942 (lv_at hl 23 rfl) ?_
        refine lx_ald F T hw 3 (by decide) (i := p1) (v := nI (htD d (dB d) p1)) (by show p1 < 8; omega) (by omega) (tf3 p1 (by omega)) dL_law_944 ?_
        refine lv_iload hx hb dL_law_945 (lv_at hl 0 rfl) ?_
        refine lv_icmp_le (tgt := 954) hx hb dL_law_947 (by decide) (fun _ => ?_) (fun q9 => absurd (nI_le (by omega) (by omega)) q9)
        refine lv_iconst (v := nI 0) hx hb dL_law_954 (by decide) ?_
        refine lv_icmp_ne (tgt := 975) hx hb dL_law_955 (by decide) (fun q9 => absurd (by rw [hhb]; rfl) q9) (fun _ => ?_)
        refine lv_aload_n hx hb dL_law_958 rfl (lv_at hl 3 rfl) ?_
        refine lv_iload hx hb dL_law_959 (lv_at hl 23 rfl) ?_
        refine lx_i (As := [.int (nI p1)]) (rest := []) F T kg (mX6_tell l dC dI adX cy F.J σ (nI p1) _ (ct1)) (cwV 1 F.S.2.2.2.2 gL_law_X6_tell rfl rfl rfl dmX6_tell ⟨Nat.le_of_ble_eq_true rfl, Nat.le_of_ble_eq_true rfl⟩) hw rfl rfl hl.1 (Nat.le_of_ble_eq_true rfl) ⟨cL (by omega), sL (by omega)⟩ dL_law_961 (fun H locs hw => ?_)
        have hC := hC1
        refine lv_aload hx hb dL_law_964 (lv_at hl 22 rfl) ?_
        refine lv_iload hx hb dL_law_966 (lv_at hl 23 rfl) ?_
        refine ls_ald (i := p1) F hw (hw.g) (by omega) (by omega) dL_law_968 ?_
        refine ls_len F kg hw (fun H h => (h.2.2 p1 hp).2.2) (cwV 0 F.S.2.2.2.2 gL_law_J0_length_8abf5 rfl rfl rfl dmJ0_length_8abf5 ⟨Nat.le_of_ble_eq_true rfl, Nat.le_of_ble_eq_true rfl⟩) hl.1 (Nat.le_of_ble_eq_true rfl) ⟨cL (by omega), sL (by omega)⟩ dL_law_969 (fun H locs hw => ?_)
        refine lv_icmp_eq (tgt := 977) hx hb dL_law_972 (by decide) (fun _ => ?_) (fun q9 => absurd (congrArg nI (show (lnAt d (dB d) p1).length = (lnAt d (dB d) p1).length by omega)) q9)
        refine lv_iconst (v := nI 0) hx hb dL_law_977 (by decide) ?_
        refine lv_istore (lv' := [(24, .int (nI 0)), (23, .int (nI 0)), (22, .int (nI 0)), (0, .ref b), (1, .ref (adX 0)), (2, .int (nI turn)), (3, .int (nI (dP d))), (4, .int (nI (dB d))), (5, .int (nI (opS d p1))), (6, .int (nI (offD d p1))), (7, .int (nI (sumTo (dto d) (dB d)))), (8, .int (nI (lyD d (dB d)))), (9, .int (nI (rmS d p1))), (10, .int (nI (htS d p1))), (11, .int (nI (dT d))), (12, .ref (adT 0)), (13, .ref (adT 1)), (14, .ref (adT 2)), (15, .ref (adT 3)), (16, .ref (adT 4)), (17, .ref (adT 5)), (18, .ref (adT 6)), (19, .ref (adT 7)), (20, .ref aL), (21, .int (nI p1))]) hx hb dL_law_978 hl (by decide) rfl (fun ls hl => ?_)
        refine law_p5c F T hC1 (τ := τ) (aL := aL) (qs := qs) (vs := vs) hp hnc hns ct2 hlen (fun H locs hw ls hl => ?_) (lnAt d (dB d) p1).length 0 (by omega) H locs hw ls (lv_sub hl [3, 4, 5, 6, 7, 8, 9, 10, 11, 12, 13, 14, 15, 16, 17, 18, 19, 20, 21, 22, 23, 24, 2, 1, 0] rfl)
        refine lv_iload hx hb dL_law_1020 (lv_at hl 5 rfl) ?_
        refine lv_iload hx hb dL_law_1022 (lv_at hl 22 rfl) ?_
        refine lv_if_eq (tgt := 1031) hx hb dL_law_1024 (by decide) (fun _ => ?_) (fun q9 => absurd (by decide) q9)
        refine lv_iconst (v := nI 0) hx hb dL_law_1031 (by decide) ?_
        refine lv_iadd hx hb dL_law_1032 ?_
        rw [show (((nI (opS d p1)) + (nI 0)) : Int32) = nI (opS d (p1 + 1)) from by rw [hos]; exact (nI_add _ _).trans (by rw [Nat.add_zero])]
        refine lv_istore (lv' := [(5, .int (nI (opS d (p1 + 1)))), (0, .ref b), (1, .ref (adX 0)), (2, .int (nI turn)), (3, .int (nI (dP d))), (4, .int (nI (dB d))), (6, .int (nI (offD d p1))), (7, .int (nI (sumTo (dto d) (dB d)))), (8, .int (nI (lyD d (dB d)))), (9, .int (nI (rmS d p1))), (10, .int (nI (htS d p1))), (11, .int (nI (dT d))), (12, .ref (adT 0)), (13, .ref (adT 1)), (14, .ref (adT 2)), (15, .ref (adT 3)), (16, .ref (adT 4)), (17, .ref (adT 5)), (18, .ref (adT 6)), (19, .ref (adT 7)), (20, .ref aL), (21, .int (nI p1)), (22, .int (nI 0)), (23, .int (nI 0))]) hx hb dL_law_1033 hl (by decide) rfl (fun ls hl => ?_)
        refine lv_iload hx hb dL_law_1035 (lv_at hl 6 rfl) ?_
        refine lv_aload_n hx hb dL_law_1037 rfl (lv_at hl 2 rfl) ?_
        refine lv_iload hx hb dL_law_1038 (lv_at hl 21 rfl) ?_
        refine lv_iconst (v := 2) hx hb dL_law_1040 (by decide) ?_
        refine lx_i (As := [.int (nI p1), .int 2]) (rest := [.int (nI (offD d p1))]) F T kg (mX6_pierOf l dC dI adX cy F.J σ1 (nI p1) 2 _ (cq_p2 hC1 hp)) (cwV 2 F.S.2.2.2.2 gL_law_X6_pierOf rfl rfl rfl dmX6_pierOf ⟨Nat.le_of_ble_eq_true rfl, Nat.le_of_ble_eq_true rfl⟩) hw rfl rfl hl.1 (Nat.le_of_ble_eq_true rfl) ⟨cL (by omega), sL (by omega)⟩ dL_law_1041 (fun H locs hw => ?_)
        refine lv_iadd hx hb dL_law_1044 ?_
        rw [show (((nI (offD d p1)) + (nI (nptD d p1))) : Int32) = nI (offD d (p1 + 1)) from nI_add _ _]
        refine lv_istore (lv' := [(6, .int (nI (offD d (p1 + 1)))), (5, .int (nI (opS d (p1 + 1)))), (0, .ref b), (1, .ref (adX 0)), (2, .int (nI turn)), (3, .int (nI (dP d))), (4, .int (nI (dB d))), (7, .int (nI (sumTo (dto d) (dB d)))), (8, .int (nI (lyD d (dB d)))), (9, .int (nI (rmS d p1))), (10, .int (nI (htS d p1))), (11, .int (nI (dT d))), (12, .ref (adT 0)), (13, .ref (adT 1)), (14, .ref (adT 2)), (15, .ref (adT 3)), (16, .ref (adT 4)), (17, .ref (adT 5)), (18, .ref (adT 6)), (19, .ref (adT 7)), (20, .ref aL), (21, .int (nI p1)), (22, .int (nI 0)), (23, .int (nI 0))]) hx hb dL_law_1045 hl (by decide) rfl (fun ls hl => ?_)
        refine lv_iload hx hb dL_law_1047 (lv_at hl 9 rfl) ?_
        refine lv_iload hx hb dL_law_1049 (lv_at hl 23 rfl) ?_
        refine lv_iadd hx hb dL_law_1051 ?_
        rw [show (((nI (rmS d p1)) + (nI 0)) : Int32) = nI (rmS d (p1 + 1)) from by rw [hrm, hro]; exact nI_add _ _]
        refine lv_istore (lv' := [(9, .int (nI (rmS d (p1 + 1)))), (6, .int (nI (offD d (p1 + 1)))), (5, .int (nI (opS d (p1 + 1)))), (0, .ref b), (1, .ref (adX 0)), (2, .int (nI turn)), (3, .int (nI (dP d))), (4, .int (nI (dB d))), (7, .int (nI (sumTo (dto d) (dB d)))), (8, .int (nI (lyD d (dB d)))), (10, .int (nI (htS d p1))), (11, .int (nI (dT d))), (12, .ref (adT 0)), (13, .ref (adT 1)), (14, .ref (adT 2)), (15, .ref (adT 3)), (16, .ref (adT 4)), (17, .ref (adT 5)), (18, .ref (adT 6)), (19, .ref (adT 7)), (20, .ref aL), (21, .int (nI p1)), (22, .int (nI 0)), (23, .int (nI 0))]) hx hb dL_law_1052 hl (by decide) rfl (fun ls hl => ?_)
        refine lv_iload hx hb dL_law_1054 (lv_at hl 10 rfl) ?_
        refine lv_aload hx hb dL_law_1056 (lv_at hl 15 rfl) ?_
        refine lv_iload hx hb dL_law_1058 (lv_at hl 21 rfl) ?_
        refine lx_ald F T hw 3 (by decide) (i := p1) (v := nI (htD d (dB d) p1)) (by show p1 < 8; omega) (by omega) (tf3 p1 (by omega)) dL_law_1060 ?_
        refine lv_iload hx hb dL_law_1061 (lv_at hl 23 rfl) ?_
        refine lv_icmp_le (tgt := 1070) hx hb dL_law_1063 (by decide) (fun _ => ?_) (fun q9 => absurd (nI_le (by omega) (by omega)) q9)
        refine lv_iconst (v := nI 0) hx hb dL_law_1070 (by decide) ?_
        refine lv_iadd hx hb dL_law_1071 ?_
        rw [show (((nI (htS d p1)) + (nI 0)) : Int32) = nI (htS d (p1 + 1)) from by rw [hhs]; exact (nI_add _ _).trans (by rw [Nat.add_zero])]
        refine lv_istore (lv' := [(10, .int (nI (htS d (p1 + 1)))), (9, .int (nI (rmS d (p1 + 1)))), (6, .int (nI (offD d (p1 + 1)))), (5, .int (nI (opS d (p1 + 1)))), (0, .ref b), (1, .ref (adX 0)), (2, .int (nI turn)), (3, .int (nI (dP d))), (4, .int (nI (dB d))), (7, .int (nI (sumTo (dto d) (dB d)))), (8, .int (nI (lyD d (dB d)))), (11, .int (nI (dT d))), (12, .ref (adT 0)), (13, .ref (adT 1)), (14, .ref (adT 2)), (15, .ref (adT 3)), (16, .ref (adT 4)), (17, .ref (adT 5)), (18, .ref (adT 6)), (19, .ref (adT 7)), (20, .ref aL), (21, .int (nI p1)), (22, .int (nI 0)), (23, .int (nI 0))]) hx hb dL_law_1072 hl (by decide) rfl (fun ls hl => ?_)
        refine lv_iinc (v := nI (p1 + 1)) (lv' := [(21, .int (nI (p1 + 1))), (10, .int (nI (htS d (p1 + 1)))), (9, .int (nI (rmS d (p1 + 1)))), (6, .int (nI (offD d (p1 + 1)))), (5, .int (nI (opS d (p1 + 1)))), (0, .ref b), (1, .ref (adX 0)), (2, .int (nI turn)), (3, .int (nI (dP d))), (4, .int (nI (dB d))), (7, .int (nI (sumTo (dto d) (dB d)))), (8, .int (nI (lyD d (dB d)))), (11, .int (nI (dT d))), (12, .ref (adT 0)), (13, .ref (adT 1)), (14, .ref (adT 2)), (15, .ref (adT 3)), (16, .ref (adT 4)), (17, .ref (adT 5)), (18, .ref (adT 6)), (19, .ref (adT 7)), (20, .ref aL), (22, .int (nI 0)), (23, .int (nI 0))]) hx hb dL_law_1074 hl (k := 21) rfl (nI_1 p1) (by decide) rfl (fun ls hl => ?_)
        refine lv_goto (tgt := 769) hx hb dL_law_1077 (by decide) ?_
        exact ih (p1 + 1) (by omega) σ1 hI1 H locs hw ls (lv_sub hl [5, 6, 7, 8, 9, 4, 3, 10, 11, 2, 1, 12, 13, 14, 15, 16, 17, 18, 19, 20, 21, 0] rfl)
    | true =>
      have hro : roomD d p1 = dbe d p1 * dT d := by unfold roomD; rw [if_pos hop]
      have hnp : nptD d p1 = 2 * dbe d p1 := by unfold nptD; rw [if_pos hop]
      have hos : opS d (p1 + 1) = opS d p1 + 1 := by show _ + (if dop d p1 = true then 1 else 0) = _; rw [if_pos hop]
      have hrm : rmS d (p1 + 1) = rmS d p1 + roomD d p1 := rfl
      have hof : offD d (p1 + 1) = offD d p1 + nptD d p1 := rfl
      have hrl := roomD_le hC.1 hp
      have hhl : htD d (dB d) p1 ≤ 2376 := Nat.le_trans (sumTo_le (f := fun j => if homeD d (pbD d j) = some p1 then dto d j else 0) (c := 99) (dB d) (fun j hj => by have := (hC.1.2.2.2.2 j hj).2.2; show (if _ then _ else 0) ≤ 99; split <;> omega)) (by omega)
      by_cases hht : roomD d p1 < htD d (dB d) p1
      · have hhb : hotD d p1 = true := decide_eq_true hht
        have hhs : htS d (p1 + 1) = htS d p1 + 1 := by show _ + (if hotD d p1 = true then 1 else 0) = _; rw [if_pos hhb]
        refine lv_iload hx hb dL_law_769 (lv_at hl 21 rfl) ?_
        refine lv_iload_n hx hb dL_law_771 rfl (lv_at hl 3 rfl) ?_
        refine lv_icmp_ge (tgt := 1080) hx hb dL_law_772 (by decide) (fun q9 => absurd q9 (nI_ge (by omega) (by omega))) (fun _ => ?_)
        refine lv_aload_n hx hb dL_law_775 rfl (lv_at hl 1 rfl) ?_
        refine lv_iload hx hb dL_law_776 (lv_at hl 21 rfl) ?_
        refine lv_iconst (v := 1) hx hb dL_law_778 (by decide) ?_
        refine lx_i (As := [.int (nI p1), .int 1]) (rest := []) F T kg (mX6_pierOf l dC dI adX cy F.J σ (nI p1) 1 _ (cq_p1 hC hp)) (cwV 2 F.S.2.2.2.2 gL_law_X6_pierOf rfl rfl rfl dmX6_pierOf ⟨Nat.le_of_ble_eq_true rfl, Nat.le_of_ble_eq_true rfl⟩) hw rfl rfl hl.1 (Nat.le_of_ble_eq_true rfl) ⟨cL (by omega), sL (by omega)⟩ dL_law_779 (fun H locs hw => ?_)
        refine lv_iconst (v := 1) hx hb dL_law_782 (by decide) ?_
        refine lv_icmp_ne (tgt := 790) hx hb dL_law_783 (by decide) (fun q9 => absurd (by rw [hop]; decide) q9) (fun _ => ?_)
        refine lv_iconst (v := nI 1) hx hb dL_law_786 (by decide) ?_
        refine lv_goto (tgt := 791) hx hb dL_law_787 (by decide) ?_
        refine lv_istore (lv' := [(22, .int (nI 1)), (0, .ref b), (1, .ref (adX 0)), (2, .int (nI turn)), (3, .int (nI (dP d))), (4, .int (nI (dB d))), (5, .int (nI (opS d p1))), (6, .int (nI (offD d p1))), (7, .int (nI (sumTo (dto d) (dB d)))), (8, .int (nI (lyD d (dB d)))), (9, .int (nI (rmS d p1))), (10, .int (nI (htS d p1))), (11, .int (nI (dT d))), (12, .ref (adT 0)), (13, .ref (adT 1)), (14, .ref (adT 2)), (15, .ref (adT 3)), (16, .ref (adT 4)), (17, .ref (adT 5)), (18, .ref (adT 6)), (19, .ref (adT 7)), (20, .ref aL), (21, .int (nI p1))]) hx hb dL_law_791 hl (by decide) rfl (fun ls hl => ?_)
        refine lv_iload hx hb dL_law_793 (lv_at hl 0 rfl) ?_
        refine lv_if_eq (tgt := 811) hx hb dL_law_795 (by decide) (fun q9 => absurd q9 (by decide)) (fun _ => ?_)
        refine lv_aload_n hx hb dL_law_798 rfl (lv_at hl 2 rfl) ?_
        refine lv_iload hx hb dL_law_799 (lv_at hl 22 rfl) ?_
        refine lv_iconst (v := 0) hx hb dL_law_801 (by decide) ?_
        refine lx_i (As := [.int (nI p1), .int 0]) (rest := []) F T kg (mX6_pierOf l dC dI adX cy F.J σ (nI p1) 0 _ (cq_p0 hC hp)) (cwV 2 F.S.2.2.2.2 gL_law_X6_pierOf rfl rfl rfl dmX6_pierOf ⟨Nat.le_of_ble_eq_true rfl, Nat.le_of_ble_eq_true rfl⟩) hw rfl rfl hl.1 (Nat.le_of_ble_eq_true rfl) ⟨cL (by omega), sL (by omega)⟩ dL_law_802 (fun H locs hw => ?_)
        refine lv_iload hx hb dL_law_805 (lv_at hl 12 rfl) ?_
        refine lv_imul hx hb dL_law_807 ?_
        rw [show (((nI (dbe d p1)) * (nI (dT d))) : Int32) = nI ((dbe d p1) * (dT d)) from pk_mul (dbe d p1) (dT d)]
        refine lv_goto (tgt := 812) hx hb dL_law_808 (by decide) ?_
        refine lv_istore (lv' := [(23, .int (nI ((dbe d p1) * (dT d)))), (22, .int (nI 1)), (0, .ref b), (1, .ref (adX 0)), (2, .int (nI turn)), (3, .int (nI (dP d))), (4, .int (nI (dB d))), (5, .int (nI (opS d p1))), (6, .int (nI (offD d p1))), (7, .int (nI (sumTo (dto d) (dB d)))), (8, .int (nI (lyD d (dB d)))), (9, .int (nI (rmS d p1))), (10, .int (nI (htS d p1))), (11, .int (nI (dT d))), (12, .ref (adT 0)), (13, .ref (adT 1)), (14, .ref (adT 2)), (15, .ref (adT 3)), (16, .ref (adT 4)), (17, .ref (adT 5)), (18, .ref (adT 6)), (19, .ref (adT 7)), (20, .ref aL), (21, .int (nI p1))]) hx hb dL_law_812 hl (by decide) rfl (fun ls hl => ?_)
        refine lv_aload_n hx hb dL_law_814 rfl (lv_at hl 3 rfl) ?_
        refine lv_iload hx hb dL_law_815 (lv_at hl 23 rfl) ?_
        refine lv_iconst (v := 2) hx hb dL_law_817 (by decide) ?_
        refine lx_i (As := [.int (nI p1), .int 2]) (rest := []) F T kg (mX6_pierOf l dC dI adX cy F.J σ (nI p1) 2 _ (cq_p2 hC hp)) (cwV 2 F.S.2.2.2.2 gL_law_X6_pierOf rfl rfl rfl dmX6_pierOf ⟨Nat.le_of_ble_eq_true rfl, Nat.le_of_ble_eq_true rfl⟩) hw rfl rfl hl.1 (Nat.le_of_ble_eq_true rfl) ⟨cL (by omega), sL (by omega)⟩ dL_law_818 (fun H locs hw => ?_)
        refine lv_iload hx hb dL_law_821 (lv_at hl 1 rfl) ?_
        refine lv_if_eq (tgt := 838) hx hb dL_law_823 (by decide) (fun q9 => absurd q9 (by decide)) (fun _ => ?_)
        refine lv_iconst (v := 2) hx hb dL_law_826 (by decide) ?_
        refine lv_aload_n hx hb dL_law_827 rfl (lv_at hl 3 rfl) ?_
        refine lv_iload hx hb dL_law_828 (lv_at hl 23 rfl) ?_
        refine lv_iconst (v := 0) hx hb dL_law_830 (by decide) ?_
        refine lx_i (As := [.int (nI p1), .int 0]) (rest := [.int 2, .int (nI (nptD d p1))]) F T kg (mX6_pierOf l dC dI adX cy F.J σ (nI p1) 0 _ (cq_p0 hC hp)) (cwV 2 F.S.2.2.2.2 gL_law_X6_pierOf rfl rfl rfl dmX6_pierOf ⟨Nat.le_of_ble_eq_true rfl, Nat.le_of_ble_eq_true rfl⟩) hw rfl rfl hl.1 (Nat.le_of_ble_eq_true rfl) ⟨cL (by omega), sL (by omega)⟩ dL_law_831 (fun H locs hw => ?_)
        refine lv_imul hx hb dL_law_834 ?_
        rw [show (((2 : Int32) * (nI (dbe d p1))) : Int32) = nI (2 * (dbe d p1)) from pk_mul 2 (dbe d p1)]
        refine lv_goto (tgt := 839) hx hb dL_law_835 (by decide) ?_
        refine lv_icmp_ne (tgt := 975) hx hb dL_law_839 (by decide) (fun q9 => absurd (congrArg nI (show (nptD d p1) = (2 * (dbe d p1)) by omega)) q9) (fun _ => ?_)
        refine lv_aload_n hx hb dL_law_842 rfl (lv_at hl 3 rfl) ?_
        refine lv_iload hx hb dL_law_843 (lv_at hl 23 rfl) ?_
        refine lv_iconst (v := 3) hx hb dL_law_845 (by decide) ?_
        refine lx_i (As := [.int (nI p1), .int 3]) (rest := []) F T kg (mX6_pierOf l dC dI adX cy F.J σ (nI p1) 3 _ (cq_p3 hC hp)) (cwV 2 F.S.2.2.2.2 gL_law_X6_pierOf rfl rfl rfl dmX6_pierOf ⟨Nat.le_of_ble_eq_true rfl, Nat.le_of_ble_eq_true rfl⟩) hw rfl rfl hl.1 (Nat.le_of_ble_eq_true rfl) ⟨cL (by omega), sL (by omega)⟩ dL_law_846 (fun H locs hw => ?_)
        refine lv_aload hx hb dL_law_849 (lv_at hl 15 rfl) ?_
        refine lv_iload hx hb dL_law_851 (lv_at hl 23 rfl) ?_
        refine lx_ald F T hw 1 (by decide) (i := p1) (v := nI (stD d p1)) (by show p1 < 8; omega) (by omega) (tf1 p1 (by omega)) dL_law_853 ?_
        refine lv_icmp_ne (tgt := 975) hx hb dL_law_854 (by decide) (fun q9 => absurd (congrArg nI (show (stD d p1) = (stD d p1) by omega)) q9) (fun _ => ?_)
        refine lv_aload_n hx hb dL_law_857 rfl (lv_at hl 3 rfl) ?_
        refine lv_iload hx hb dL_law_858 (lv_at hl 23 rfl) ?_
        refine lv_iconst (v := 4) hx hb dL_law_860 (by decide) ?_
        refine lx_i (As := [.int (nI p1), .int 4]) (rest := []) F T kg (mX6_pierOf l dC dI adX cy F.J σ (nI p1) 4 _ (cq_p4 hC hp)) (cwV 2 F.S.2.2.2.2 gL_law_X6_pierOf rfl rfl rfl dmX6_pierOf ⟨Nat.le_of_ble_eq_true rfl, Nat.le_of_ble_eq_true rfl⟩) hw rfl rfl hl.1 (Nat.le_of_ble_eq_true rfl) ⟨cL (by omega), sL (by omega)⟩ dL_law_861 (fun H locs hw => ?_)
        refine lv_aload hx hb dL_law_864 (lv_at hl 16 rfl) ?_
        refine lv_iload hx hb dL_law_866 (lv_at hl 23 rfl) ?_
        refine lx_ald F T hw 2 (by decide) (i := p1) (v := nI (hcD d (dB d) p1)) (by show p1 < 8; omega) (by omega) (tf2 p1 (by omega)) dL_law_868 ?_
        refine lv_icmp_ne (tgt := 975) hx hb dL_law_869 (by decide) (fun q9 => absurd (congrArg nI (show (hcD d (dB d) p1) = (hcD d (dB d) p1) by omega)) q9) (fun _ => ?_)
        refine lv_aload_n hx hb dL_law_872 rfl (lv_at hl 3 rfl) ?_
        refine lv_iload hx hb dL_law_873 (lv_at hl 23 rfl) ?_
        refine lv_iconst (v := 5) hx hb dL_law_875 (by decide) ?_
        refine lx_i (As := [.int (nI p1), .int 5]) (rest := []) F T kg (mX6_pierOf l dC dI adX cy F.J σ (nI p1) 5 _ (cq_p5 hC hp)) (cwV 2 F.S.2.2.2.2 gL_law_X6_pierOf rfl rfl rfl dmX6_pierOf ⟨Nat.le_of_ble_eq_true rfl, Nat.le_of_ble_eq_true rfl⟩) hw rfl rfl hl.1 (Nat.le_of_ble_eq_true rfl) ⟨cL (by omega), sL (by omega)⟩ dL_law_876 (fun H locs hw => ?_)
        refine lv_aload hx hb dL_law_879 (lv_at hl 17 rfl) ?_
        refine lv_iload hx hb dL_law_881 (lv_at hl 23 rfl) ?_
        refine lx_ald F T hw 3 (by decide) (i := p1) (v := nI (htD d (dB d) p1)) (by show p1 < 8; omega) (by omega) (tf3 p1 (by omega)) dL_law_883 ?_
        refine lv_icmp_ne (tgt := 975) hx hb dL_law_884 (by decide) (fun q9 => absurd (congrArg nI (show (htD d (dB d) p1) = (htD d (dB d) p1) by omega)) q9) (fun _ => ?_)
        refine lv_aload_n hx hb dL_law_887 rfl (lv_at hl 3 rfl) ?_
        refine lv_iload hx hb dL_law_888 (lv_at hl 23 rfl) ?_
        refine lv_bipush (v := 6) hx hb dL_law_890 (by decide) ?_
        refine lx_i (As := [.int (nI p1), .int 6]) (rest := []) F T kg (mX6_pierOf l dC dI adX cy F.J σ (nI p1) 6 _ (cq_p6 hC hp)) (cwV 2 F.S.2.2.2.2 gL_law_X6_pierOf rfl rfl rfl dmX6_pierOf ⟨Nat.le_of_ble_eq_true rfl, Nat.le_of_ble_eq_true rfl⟩) hw rfl rfl hl.1 (Nat.le_of_ble_eq_true rfl) ⟨cL (by omega), sL (by omega)⟩ dL_law_892 (fun H locs hw => ?_)
        refine lv_aload hx hb dL_law_895 (lv_at hl 18 rfl) ?_
        refine lv_iload hx hb dL_law_897 (lv_at hl 23 rfl) ?_
        refine lx_ald F T hw 4 (by decide) (i := p1) (v := nI (lcD d (dB d) p1)) (by show p1 < 8; omega) (by omega) (tf4 p1 (by omega)) dL_law_899 ?_
        refine lv_icmp_ne (tgt := 975) hx hb dL_law_900 (by decide) (fun q9 => absurd (congrArg nI (show (lcD d (dB d) p1) = (lcD d (dB d) p1) by omega)) q9) (fun _ => ?_)
        refine lv_aload_n hx hb dL_law_903 rfl (lv_at hl 3 rfl) ?_
        refine lv_iload hx hb dL_law_904 (lv_at hl 23 rfl) ?_
        refine lv_bipush (v := 7) hx hb dL_law_906 (by decide) ?_
        refine lx_i (As := [.int (nI p1), .int 7]) (rest := []) F T kg (mX6_pierOf l dC dI adX cy F.J σ (nI p1) 7 _ (cq_p7 hC hp)) (cwV 2 F.S.2.2.2.2 gL_law_X6_pierOf rfl rfl rfl dmX6_pierOf ⟨Nat.le_of_ble_eq_true rfl, Nat.le_of_ble_eq_true rfl⟩) hw rfl rfl hl.1 (Nat.le_of_ble_eq_true rfl) ⟨cL (by omega), sL (by omega)⟩ dL_law_908 (fun H locs hw => ?_)
        refine lv_aload hx hb dL_law_911 (lv_at hl 19 rfl) ?_
        refine lv_iload hx hb dL_law_913 (lv_at hl 23 rfl) ?_
        refine lx_ald F T hw 5 (by decide) (i := p1) (v := nI (tkD d (dB d) p1)) (by show p1 < 8; omega) (by omega) (tf5 p1 (by omega)) dL_law_915 ?_
        refine lv_icmp_ne (tgt := 975) hx hb dL_law_916 (by decide) (fun q9 => absurd (congrArg nI (show (tkD d (dB d) p1) = (tkD d (dB d) p1) by omega)) q9) (fun _ => ?_)
        refine lv_aload_n hx hb dL_law_919 rfl (lv_at hl 3 rfl) ?_
        refine lv_iload hx hb dL_law_920 (lv_at hl 23 rfl) ?_
        refine lv_bipush (v := 8) hx hb dL_law_922 (by decide) ?_
        refine lx_i (As := [.int (nI p1), .int 8]) (rest := []) F T kg (mX6_pierOf l dC dI adX cy F.J σ (nI p1) 8 _ (cq_p8 hC hp)) (cwV 2 F.S.2.2.2.2 gL_law_X6_pierOf rfl rfl rfl dmX6_pierOf ⟨Nat.le_of_ble_eq_true rfl, Nat.le_of_ble_eq_true rfl⟩) hw rfl rfl hl.1 (Nat.le_of_ble_eq_true rfl) ⟨cL (by omega), sL (by omega)⟩ dL_law_924 (fun H locs hw => ?_)
        refine lv_iload hx hb dL_law_927 (lv_at hl 0 rfl) ?_
        refine lv_icmp_ne (tgt := 975) hx hb dL_law_929 (by decide) (fun q9 => absurd (congrArg nI (show (roomD d p1) = ((dbe d p1) * (dT d)) by omega)) q9) (fun _ => ?_)
        refine lv_aload_n hx hb dL_law_932 rfl (lv_at hl 3 rfl) ?_
        refine lv_iload hx hb dL_law_933 (lv_at hl 23 rfl) ?_
        refine lv_bipush (v := 9) hx hb dL_law_935 (by decide) ?_
        refine lx_i (As := [.int (nI p1), .int 9]) (rest := []) F T kg (mX6_pierOf l dC dI adX cy F.J σ (nI p1) 9 _ (cq_p9 hC hp)) (cwV 2 F.S.2.2.2.2 gL_law_X6_pierOf rfl rfl rfl dmX6_pierOf ⟨Nat.le_of_ble_eq_true rfl, Nat.le_of_ble_eq_true rfl⟩) hw rfl rfl hl.1 (Nat.le_of_ble_eq_true rfl) ⟨cL (by omega), sL (by omega)⟩ dL_law_937 (fun H locs hw => ?_)
        refine lv_aload hx hb dL_law_940 (lv_at hl 17 rfl) ?_
        refine lv_iload hx hb dL_law_942 (lv_at hl 23 rfl) ?_
        refine lx_ald F T hw 3 (by decide) (i := p1) (v := nI (htD d (dB d) p1)) (by show p1 < 8; omega) (by omega) (tf3 p1 (by omega)) dL_law_944 ?_
        refine lv_iload hx hb dL_law_945 (lv_at hl 0 rfl) ?_
        refine lv_icmp_le (tgt := 954) hx hb dL_law_947 (by decide) (fun q9 => absurd q9 (nI_ge (by omega) (by omega))) (fun _ => ?_)
        refine lv_iconst (v := nI 1) hx hb dL_law_950 (by decide) ?_
        refine lv_goto (tgt := 955) hx hb dL_law_951 (by decide) ?_
        refine lv_icmp_ne (tgt := 975) hx hb dL_law_955 (by decide) (fun q9 => absurd (by rw [hhb]; rfl) q9) (fun _ => ?_)
        refine lv_aload_n hx hb dL_law_958 rfl (lv_at hl 3 rfl) ?_
        refine lv_iload hx hb dL_law_959 (lv_at hl 23 rfl) ?_
        refine lx_i (As := [.int (nI p1)]) (rest := []) F T kg (mX6_tell l dC dI adX cy F.J σ (nI p1) _ (ct1)) (cwV 1 F.S.2.2.2.2 gL_law_X6_tell rfl rfl rfl dmX6_tell ⟨Nat.le_of_ble_eq_true rfl, Nat.le_of_ble_eq_true rfl⟩) hw rfl rfl hl.1 (Nat.le_of_ble_eq_true rfl) ⟨cL (by omega), sL (by omega)⟩ dL_law_961 (fun H locs hw => ?_)
        have hC := hC1
        refine lv_aload hx hb dL_law_964 (lv_at hl 22 rfl) ?_
        refine lv_iload hx hb dL_law_966 (lv_at hl 23 rfl) ?_
        refine ls_ald (i := p1) F hw (hw.g) (by omega) (by omega) dL_law_968 ?_
        refine ls_len F kg hw (fun H h => (h.2.2 p1 hp).2.2) (cwV 0 F.S.2.2.2.2 gL_law_J0_length_8abf5 rfl rfl rfl dmJ0_length_8abf5 ⟨Nat.le_of_ble_eq_true rfl, Nat.le_of_ble_eq_true rfl⟩) hl.1 (Nat.le_of_ble_eq_true rfl) ⟨cL (by omega), sL (by omega)⟩ dL_law_969 (fun H locs hw => ?_)
        refine lv_icmp_eq (tgt := 977) hx hb dL_law_972 (by decide) (fun _ => ?_) (fun q9 => absurd (congrArg nI (show (lnAt d (dB d) p1).length = (lnAt d (dB d) p1).length by omega)) q9)
        refine lv_iconst (v := nI 0) hx hb dL_law_977 (by decide) ?_
        refine lv_istore (lv' := [(24, .int (nI 0)), (23, .int (nI ((dbe d p1) * (dT d)))), (22, .int (nI 1)), (0, .ref b), (1, .ref (adX 0)), (2, .int (nI turn)), (3, .int (nI (dP d))), (4, .int (nI (dB d))), (5, .int (nI (opS d p1))), (6, .int (nI (offD d p1))), (7, .int (nI (sumTo (dto d) (dB d)))), (8, .int (nI (lyD d (dB d)))), (9, .int (nI (rmS d p1))), (10, .int (nI (htS d p1))), (11, .int (nI (dT d))), (12, .ref (adT 0)), (13, .ref (adT 1)), (14, .ref (adT 2)), (15, .ref (adT 3)), (16, .ref (adT 4)), (17, .ref (adT 5)), (18, .ref (adT 6)), (19, .ref (adT 7)), (20, .ref aL), (21, .int (nI p1))]) hx hb dL_law_978 hl (by decide) rfl (fun ls hl => ?_)
        refine law_p5c F T hC1 (τ := τ) (aL := aL) (qs := qs) (vs := vs) hp hnc hns ct2 hlen (fun H locs hw ls hl => ?_) (lnAt d (dB d) p1).length 0 (by omega) H locs hw ls (lv_sub hl [3, 4, 5, 6, 7, 8, 9, 10, 11, 12, 13, 14, 15, 16, 17, 18, 19, 20, 21, 22, 23, 24, 2, 1, 0] rfl)
        refine lv_iload hx hb dL_law_1020 (lv_at hl 5 rfl) ?_
        refine lv_iload hx hb dL_law_1022 (lv_at hl 22 rfl) ?_
        refine lv_if_eq (tgt := 1031) hx hb dL_law_1024 (by decide) (fun q9 => absurd q9 (by decide)) (fun _ => ?_)
        refine lv_iconst (v := nI 1) hx hb dL_law_1027 (by decide) ?_
        refine lv_goto (tgt := 1032) hx hb dL_law_1028 (by decide) ?_
        refine lv_iadd hx hb dL_law_1032 ?_
        rw [show (((nI (opS d p1)) + (nI 1)) : Int32) = nI (opS d (p1 + 1)) from by rw [hos]; exact nI_add _ _]
        refine lv_istore (lv' := [(5, .int (nI (opS d (p1 + 1)))), (0, .ref b), (1, .ref (adX 0)), (2, .int (nI turn)), (3, .int (nI (dP d))), (4, .int (nI (dB d))), (6, .int (nI (offD d p1))), (7, .int (nI (sumTo (dto d) (dB d)))), (8, .int (nI (lyD d (dB d)))), (9, .int (nI (rmS d p1))), (10, .int (nI (htS d p1))), (11, .int (nI (dT d))), (12, .ref (adT 0)), (13, .ref (adT 1)), (14, .ref (adT 2)), (15, .ref (adT 3)), (16, .ref (adT 4)), (17, .ref (adT 5)), (18, .ref (adT 6)), (19, .ref (adT 7)), (20, .ref aL), (21, .int (nI p1)), (22, .int (nI 1)), (23, .int (nI ((dbe d p1) * (dT d))))]) hx hb dL_law_1033 hl (by decide) rfl (fun ls hl => ?_)
        refine lv_iload hx hb dL_law_1035 (lv_at hl 6 rfl) ?_
        refine lv_aload_n hx hb dL_law_1037 rfl (lv_at hl 2 rfl) ?_
        refine lv_iload hx hb dL_law_1038 (lv_at hl 21 rfl) ?_
        refine lv_iconst (v := 2) hx hb dL_law_1040 (by decide) ?_
        refine lx_i (As := [.int (nI p1), .int 2]) (rest := [.int (nI (offD d p1))]) F T kg (mX6_pierOf l dC dI adX cy F.J σ1 (nI p1) 2 _ (cq_p2 hC1 hp)) (cwV 2 F.S.2.2.2.2 gL_law_X6_pierOf rfl rfl rfl dmX6_pierOf ⟨Nat.le_of_ble_eq_true rfl, Nat.le_of_ble_eq_true rfl⟩) hw rfl rfl hl.1 (Nat.le_of_ble_eq_true rfl) ⟨cL (by omega), sL (by omega)⟩ dL_law_1041 (fun H locs hw => ?_)
        refine lv_iadd hx hb dL_law_1044 ?_
        rw [show (((nI (offD d p1)) + (nI (nptD d p1))) : Int32) = nI (offD d (p1 + 1)) from nI_add _ _]
        refine lv_istore (lv' := [(6, .int (nI (offD d (p1 + 1)))), (5, .int (nI (opS d (p1 + 1)))), (0, .ref b), (1, .ref (adX 0)), (2, .int (nI turn)), (3, .int (nI (dP d))), (4, .int (nI (dB d))), (7, .int (nI (sumTo (dto d) (dB d)))), (8, .int (nI (lyD d (dB d)))), (9, .int (nI (rmS d p1))), (10, .int (nI (htS d p1))), (11, .int (nI (dT d))), (12, .ref (adT 0)), (13, .ref (adT 1)), (14, .ref (adT 2)), (15, .ref (adT 3)), (16, .ref (adT 4)), (17, .ref (adT 5)), (18, .ref (adT 6)), (19, .ref (adT 7)), (20, .ref aL), (21, .int (nI p1)), (22, .int (nI 1)), (23, .int (nI ((dbe d p1) * (dT d))))]) hx hb dL_law_1045 hl (by decide) rfl (fun ls hl => ?_)
        refine lv_iload hx hb dL_law_1047 (lv_at hl 9 rfl) ?_
        refine lv_iload hx hb dL_law_1049 (lv_at hl 23 rfl) ?_
        refine lv_iadd hx hb dL_law_1051 ?_
        rw [show (((nI (rmS d p1)) + (nI ((dbe d p1) * (dT d)))) : Int32) = nI (rmS d (p1 + 1)) from by rw [hrm, hro]; exact nI_add _ _]
        refine lv_istore (lv' := [(9, .int (nI (rmS d (p1 + 1)))), (6, .int (nI (offD d (p1 + 1)))), (5, .int (nI (opS d (p1 + 1)))), (0, .ref b), (1, .ref (adX 0)), (2, .int (nI turn)), (3, .int (nI (dP d))), (4, .int (nI (dB d))), (7, .int (nI (sumTo (dto d) (dB d)))), (8, .int (nI (lyD d (dB d)))), (10, .int (nI (htS d p1))), (11, .int (nI (dT d))), (12, .ref (adT 0)), (13, .ref (adT 1)), (14, .ref (adT 2)), (15, .ref (adT 3)), (16, .ref (adT 4)), (17, .ref (adT 5)), (18, .ref (adT 6)), (19, .ref (adT 7)), (20, .ref aL), (21, .int (nI p1)), (22, .int (nI 1)), (23, .int (nI ((dbe d p1) * (dT d))))]) hx hb dL_law_1052 hl (by decide) rfl (fun ls hl => ?_)
        refine lv_iload hx hb dL_law_1054 (lv_at hl 10 rfl) ?_
        refine lv_aload hx hb dL_law_1056 (lv_at hl 15 rfl) ?_
        refine lv_iload hx hb dL_law_1058 (lv_at hl 21 rfl) ?_
        refine lx_ald F T hw 3 (by decide) (i := p1) (v := nI (htD d (dB d) p1)) (by show p1 < 8; omega) (by omega) (tf3 p1 (by omega)) dL_law_1060 ?_
        refine lv_iload hx hb dL_law_1061 (lv_at hl 23 rfl) ?_
        refine lv_icmp_le (tgt := 1070) hx hb dL_law_1063 (by decide) (fun q9 => absurd q9 (nI_ge (by omega) (by omega))) (fun _ => ?_)
        refine lv_iconst (v := nI 1) hx hb dL_law_1066 (by decide) ?_
        refine lv_goto (tgt := 1071) hx hb dL_law_1067 (by decide) ?_
        refine lv_iadd hx hb dL_law_1071 ?_
        rw [show (((nI (htS d p1)) + (nI 1)) : Int32) = nI (htS d (p1 + 1)) from by rw [hhs]; exact nI_add _ _]
        refine lv_istore (lv' := [(10, .int (nI (htS d (p1 + 1)))), (9, .int (nI (rmS d (p1 + 1)))), (6, .int (nI (offD d (p1 + 1)))), (5, .int (nI (opS d (p1 + 1)))), (0, .ref b), (1, .ref (adX 0)), (2, .int (nI turn)), (3, .int (nI (dP d))), (4, .int (nI (dB d))), (7, .int (nI (sumTo (dto d) (dB d)))), (8, .int (nI (lyD d (dB d)))), (11, .int (nI (dT d))), (12, .ref (adT 0)), (13, .ref (adT 1)), (14, .ref (adT 2)), (15, .ref (adT 3)), (16, .ref (adT 4)), (17, .ref (adT 5)), (18, .ref (adT 6)), (19, .ref (adT 7)), (20, .ref aL), (21, .int (nI p1)), (22, .int (nI 1)), (23, .int (nI ((dbe d p1) * (dT d))))]) hx hb dL_law_1072 hl (by decide) rfl (fun ls hl => ?_)
        refine lv_iinc (v := nI (p1 + 1)) (lv' := [(21, .int (nI (p1 + 1))), (10, .int (nI (htS d (p1 + 1)))), (9, .int (nI (rmS d (p1 + 1)))), (6, .int (nI (offD d (p1 + 1)))), (5, .int (nI (opS d (p1 + 1)))), (0, .ref b), (1, .ref (adX 0)), (2, .int (nI turn)), (3, .int (nI (dP d))), (4, .int (nI (dB d))), (7, .int (nI (sumTo (dto d) (dB d)))), (8, .int (nI (lyD d (dB d)))), (11, .int (nI (dT d))), (12, .ref (adT 0)), (13, .ref (adT 1)), (14, .ref (adT 2)), (15, .ref (adT 3)), (16, .ref (adT 4)), (17, .ref (adT 5)), (18, .ref (adT 6)), (19, .ref (adT 7)), (20, .ref aL), (22, .int (nI 1)), (23, .int (nI ((dbe d p1) * (dT d))))]) hx hb dL_law_1074 hl (k := 21) rfl (nI_1 p1) (by decide) rfl (fun ls hl => ?_)
        refine lv_goto (tgt := 769) hx hb dL_law_1077 (by decide) ?_
        exact ih (p1 + 1) (by omega) σ1 hI1 H locs hw ls (lv_sub hl [5, 6, 7, 8, 9, 4, 3, 10, 11, 2, 1, 12, 13, 14, 15, 16, 17, 18, 19, 20, 21, 0] rfl)
      · have hhb : hotD d p1 = false := decide_eq_false hht
        have hhs : htS d (p1 + 1) = htS d p1 := by show _ + (if hotD d p1 = true then 1 else 0) = _; rw [if_neg (fun z => by rw [hhb] at z; cases z)]; rfl
        refine lv_iload hx hb dL_law_769 (lv_at hl 21 rfl) ?_
        refine lv_iload_n hx hb dL_law_771 rfl (lv_at hl 3 rfl) ?_
        refine lv_icmp_ge (tgt := 1080) hx hb dL_law_772 (by decide) (fun q9 => absurd q9 (nI_ge (by omega) (by omega))) (fun _ => ?_)
        refine lv_aload_n hx hb dL_law_775 rfl (lv_at hl 1 rfl) ?_
        refine lv_iload hx hb dL_law_776 (lv_at hl 21 rfl) ?_
        refine lv_iconst (v := 1) hx hb dL_law_778 (by decide) ?_
        refine lx_i (As := [.int (nI p1), .int 1]) (rest := []) F T kg (mX6_pierOf l dC dI adX cy F.J σ (nI p1) 1 _ (cq_p1 hC hp)) (cwV 2 F.S.2.2.2.2 gL_law_X6_pierOf rfl rfl rfl dmX6_pierOf ⟨Nat.le_of_ble_eq_true rfl, Nat.le_of_ble_eq_true rfl⟩) hw rfl rfl hl.1 (Nat.le_of_ble_eq_true rfl) ⟨cL (by omega), sL (by omega)⟩ dL_law_779 (fun H locs hw => ?_)
        refine lv_iconst (v := 1) hx hb dL_law_782 (by decide) ?_
        refine lv_icmp_ne (tgt := 790) hx hb dL_law_783 (by decide) (fun q9 => absurd (by rw [hop]; decide) q9) (fun _ => ?_)
        refine lv_iconst (v := nI 1) hx hb dL_law_786 (by decide) ?_
        refine lv_goto (tgt := 791) hx hb dL_law_787 (by decide) ?_
        refine lv_istore (lv' := [(22, .int (nI 1)), (0, .ref b), (1, .ref (adX 0)), (2, .int (nI turn)), (3, .int (nI (dP d))), (4, .int (nI (dB d))), (5, .int (nI (opS d p1))), (6, .int (nI (offD d p1))), (7, .int (nI (sumTo (dto d) (dB d)))), (8, .int (nI (lyD d (dB d)))), (9, .int (nI (rmS d p1))), (10, .int (nI (htS d p1))), (11, .int (nI (dT d))), (12, .ref (adT 0)), (13, .ref (adT 1)), (14, .ref (adT 2)), (15, .ref (adT 3)), (16, .ref (adT 4)), (17, .ref (adT 5)), (18, .ref (adT 6)), (19, .ref (adT 7)), (20, .ref aL), (21, .int (nI p1))]) hx hb dL_law_791 hl (by decide) rfl (fun ls hl => ?_)
        refine lv_iload hx hb dL_law_793 (lv_at hl 0 rfl) ?_
        refine lv_if_eq (tgt := 811) hx hb dL_law_795 (by decide) (fun q9 => absurd q9 (by decide)) (fun _ => ?_)
        refine lv_aload_n hx hb dL_law_798 rfl (lv_at hl 2 rfl) ?_
        refine lv_iload hx hb dL_law_799 (lv_at hl 22 rfl) ?_
        refine lv_iconst (v := 0) hx hb dL_law_801 (by decide) ?_
        refine lx_i (As := [.int (nI p1), .int 0]) (rest := []) F T kg (mX6_pierOf l dC dI adX cy F.J σ (nI p1) 0 _ (cq_p0 hC hp)) (cwV 2 F.S.2.2.2.2 gL_law_X6_pierOf rfl rfl rfl dmX6_pierOf ⟨Nat.le_of_ble_eq_true rfl, Nat.le_of_ble_eq_true rfl⟩) hw rfl rfl hl.1 (Nat.le_of_ble_eq_true rfl) ⟨cL (by omega), sL (by omega)⟩ dL_law_802 (fun H locs hw => ?_)
        refine lv_iload hx hb dL_law_805 (lv_at hl 12 rfl) ?_
        refine lv_imul hx hb dL_law_807 ?_
        rw [show (((nI (dbe d p1)) * (nI (dT d))) : Int32) = nI ((dbe d p1) * (dT d)) from pk_mul (dbe d p1) (dT d)]
        refine lv_goto (tgt := 812) hx hb dL_law_808 (by decide) ?_
        refine lv_istore (lv' := [(23, .int (nI ((dbe d p1) * (dT d)))), (22, .int (nI 1)), (0, .ref b), (1, .ref (adX 0)), (2, .int (nI turn)), (3, .int (nI (dP d))), (4, .int (nI (dB d))), (5, .int (nI (opS d p1))), (6, .int (nI (offD d p1))), (7, .int (nI (sumTo (dto d) (dB d)))), (8, .int (nI (lyD d (dB d)))), (9, .int (nI (rmS d p1))), (10, .int (nI (htS d p1))), (11, .int (nI (dT d))), (12, .ref (adT 0)), (13, .ref (adT 1)), (14, .ref (adT 2)), (15, .ref (adT 3)), (16, .ref (adT 4)), (17, .ref (adT 5)), (18, .ref (adT 6)), (19, .ref (adT 7)), (20, .ref aL), (21, .int (nI p1))]) hx hb dL_law_812 hl (by decide) rfl (fun ls hl => ?_)
        refine lv_aload_n hx hb dL_law_814 rfl (lv_at hl 3 rfl) ?_
        refine lv_iload hx hb dL_law_815 (lv_at hl 23 rfl) ?_
        refine lv_iconst (v := 2) hx hb dL_law_817 (by decide) ?_
        refine lx_i (As := [.int (nI p1), .int 2]) (rest := []) F T kg (mX6_pierOf l dC dI adX cy F.J σ (nI p1) 2 _ (cq_p2 hC hp)) (cwV 2 F.S.2.2.2.2 gL_law_X6_pierOf rfl rfl rfl dmX6_pierOf ⟨Nat.le_of_ble_eq_true rfl, Nat.le_of_ble_eq_true rfl⟩) hw rfl rfl hl.1 (Nat.le_of_ble_eq_true rfl) ⟨cL (by omega), sL (by omega)⟩ dL_law_818 (fun H locs hw => ?_)
        refine lv_iload hx hb dL_law_821 (lv_at hl 1 rfl) ?_
        refine lv_if_eq (tgt := 838) hx hb dL_law_823 (by decide) (fun q9 => absurd q9 (by decide)) (fun _ => ?_)
        refine lv_iconst (v := 2) hx hb dL_law_826 (by decide) ?_
        refine lv_aload_n hx hb dL_law_827 rfl (lv_at hl 3 rfl) ?_
        refine lv_iload hx hb dL_law_828 (lv_at hl 23 rfl) ?_
        refine lv_iconst (v := 0) hx hb dL_law_830 (by decide) ?_
        refine lx_i (As := [.int (nI p1), .int 0]) (rest := [.int 2, .int (nI (nptD d p1))]) F T kg (mX6_pierOf l dC dI adX cy F.J σ (nI p1) 0 _ (cq_p0 hC hp)) (cwV 2 F.S.2.2.2.2 gL_law_X6_pierOf rfl rfl rfl dmX6_pierOf ⟨Nat.le_of_ble_eq_true rfl, Nat.le_of_ble_eq_true rfl⟩) hw rfl rfl hl.1 (Nat.le_of_ble_eq_true rfl) ⟨cL (by omega), sL (by omega)⟩ dL_law_831 (fun H locs hw => ?_)
        refine lv_imul hx hb dL_law_834 ?_
        rw [show (((2 : Int32) * (nI (dbe d p1))) : Int32) = nI (2 * (dbe d p1)) from pk_mul 2 (dbe d p1)]
        refine lv_goto (tgt := 839) hx hb dL_law_835 (by decide) ?_
        refine lv_icmp_ne (tgt := 975) hx hb dL_law_839 (by decide) (fun q9 => absurd (congrArg nI (show (nptD d p1) = (2 * (dbe d p1)) by omega)) q9) (fun _ => ?_)
        refine lv_aload_n hx hb dL_law_842 rfl (lv_at hl 3 rfl) ?_
        refine lv_iload hx hb dL_law_843 (lv_at hl 23 rfl) ?_
        refine lv_iconst (v := 3) hx hb dL_law_845 (by decide) ?_
        refine lx_i (As := [.int (nI p1), .int 3]) (rest := []) F T kg (mX6_pierOf l dC dI adX cy F.J σ (nI p1) 3 _ (cq_p3 hC hp)) (cwV 2 F.S.2.2.2.2 gL_law_X6_pierOf rfl rfl rfl dmX6_pierOf ⟨Nat.le_of_ble_eq_true rfl, Nat.le_of_ble_eq_true rfl⟩) hw rfl rfl hl.1 (Nat.le_of_ble_eq_true rfl) ⟨cL (by omega), sL (by omega)⟩ dL_law_846 (fun H locs hw => ?_)
        refine lv_aload hx hb dL_law_849 (lv_at hl 15 rfl) ?_
        refine lv_iload hx hb dL_law_851 (lv_at hl 23 rfl) ?_
        refine lx_ald F T hw 1 (by decide) (i := p1) (v := nI (stD d p1)) (by show p1 < 8; omega) (by omega) (tf1 p1 (by omega)) dL_law_853 ?_
        refine lv_icmp_ne (tgt := 975) hx hb dL_law_854 (by decide) (fun q9 => absurd (congrArg nI (show (stD d p1) = (stD d p1) by omega)) q9) (fun _ => ?_)
        refine lv_aload_n hx hb dL_law_857 rfl (lv_at hl 3 rfl) ?_
        refine lv_iload hx hb dL_law_858 (lv_at hl 23 rfl) ?_
        refine lv_iconst (v := 4) hx hb dL_law_860 (by decide) ?_
        refine lx_i (As := [.int (nI p1), .int 4]) (rest := []) F T kg (mX6_pierOf l dC dI adX cy F.J σ (nI p1) 4 _ (cq_p4 hC hp)) (cwV 2 F.S.2.2.2.2 gL_law_X6_pierOf rfl rfl rfl dmX6_pierOf ⟨Nat.le_of_ble_eq_true rfl, Nat.le_of_ble_eq_true rfl⟩) hw rfl rfl hl.1 (Nat.le_of_ble_eq_true rfl) ⟨cL (by omega), sL (by omega)⟩ dL_law_861 (fun H locs hw => ?_)
        refine lv_aload hx hb dL_law_864 (lv_at hl 16 rfl) ?_
        refine lv_iload hx hb dL_law_866 (lv_at hl 23 rfl) ?_
        refine lx_ald F T hw 2 (by decide) (i := p1) (v := nI (hcD d (dB d) p1)) (by show p1 < 8; omega) (by omega) (tf2 p1 (by omega)) dL_law_868 ?_
        refine lv_icmp_ne (tgt := 975) hx hb dL_law_869 (by decide) (fun q9 => absurd (congrArg nI (show (hcD d (dB d) p1) = (hcD d (dB d) p1) by omega)) q9) (fun _ => ?_)
        refine lv_aload_n hx hb dL_law_872 rfl (lv_at hl 3 rfl) ?_
        refine lv_iload hx hb dL_law_873 (lv_at hl 23 rfl) ?_
        refine lv_iconst (v := 5) hx hb dL_law_875 (by decide) ?_
        refine lx_i (As := [.int (nI p1), .int 5]) (rest := []) F T kg (mX6_pierOf l dC dI adX cy F.J σ (nI p1) 5 _ (cq_p5 hC hp)) (cwV 2 F.S.2.2.2.2 gL_law_X6_pierOf rfl rfl rfl dmX6_pierOf ⟨Nat.le_of_ble_eq_true rfl, Nat.le_of_ble_eq_true rfl⟩) hw rfl rfl hl.1 (Nat.le_of_ble_eq_true rfl) ⟨cL (by omega), sL (by omega)⟩ dL_law_876 (fun H locs hw => ?_)
        refine lv_aload hx hb dL_law_879 (lv_at hl 17 rfl) ?_
        refine lv_iload hx hb dL_law_881 (lv_at hl 23 rfl) ?_
        refine lx_ald F T hw 3 (by decide) (i := p1) (v := nI (htD d (dB d) p1)) (by show p1 < 8; omega) (by omega) (tf3 p1 (by omega)) dL_law_883 ?_
        refine lv_icmp_ne (tgt := 975) hx hb dL_law_884 (by decide) (fun q9 => absurd (congrArg nI (show (htD d (dB d) p1) = (htD d (dB d) p1) by omega)) q9) (fun _ => ?_)
        refine lv_aload_n hx hb dL_law_887 rfl (lv_at hl 3 rfl) ?_
        refine lv_iload hx hb dL_law_888 (lv_at hl 23 rfl) ?_
        refine lv_bipush (v := 6) hx hb dL_law_890 (by decide) ?_
        refine lx_i (As := [.int (nI p1), .int 6]) (rest := []) F T kg (mX6_pierOf l dC dI adX cy F.J σ (nI p1) 6 _ (cq_p6 hC hp)) (cwV 2 F.S.2.2.2.2 gL_law_X6_pierOf rfl rfl rfl dmX6_pierOf ⟨Nat.le_of_ble_eq_true rfl, Nat.le_of_ble_eq_true rfl⟩) hw rfl rfl hl.1 (Nat.le_of_ble_eq_true rfl) ⟨cL (by omega), sL (by omega)⟩ dL_law_892 (fun H locs hw => ?_)
        refine lv_aload hx hb dL_law_895 (lv_at hl 18 rfl) ?_
        refine lv_iload hx hb dL_law_897 (lv_at hl 23 rfl) ?_
        refine lx_ald F T hw 4 (by decide) (i := p1) (v := nI (lcD d (dB d) p1)) (by show p1 < 8; omega) (by omega) (tf4 p1 (by omega)) dL_law_899 ?_
        refine lv_icmp_ne (tgt := 975) hx hb dL_law_900 (by decide) (fun q9 => absurd (congrArg nI (show (lcD d (dB d) p1) = (lcD d (dB d) p1) by omega)) q9) (fun _ => ?_)
        refine lv_aload_n hx hb dL_law_903 rfl (lv_at hl 3 rfl) ?_
        refine lv_iload hx hb dL_law_904 (lv_at hl 23 rfl) ?_
        refine lv_bipush (v := 7) hx hb dL_law_906 (by decide) ?_
        refine lx_i (As := [.int (nI p1), .int 7]) (rest := []) F T kg (mX6_pierOf l dC dI adX cy F.J σ (nI p1) 7 _ (cq_p7 hC hp)) (cwV 2 F.S.2.2.2.2 gL_law_X6_pierOf rfl rfl rfl dmX6_pierOf ⟨Nat.le_of_ble_eq_true rfl, Nat.le_of_ble_eq_true rfl⟩) hw rfl rfl hl.1 (Nat.le_of_ble_eq_true rfl) ⟨cL (by omega), sL (by omega)⟩ dL_law_908 (fun H locs hw => ?_)
        refine lv_aload hx hb dL_law_911 (lv_at hl 19 rfl) ?_
        refine lv_iload hx hb dL_law_913 (lv_at hl 23 rfl) ?_
        refine lx_ald F T hw 5 (by decide) (i := p1) (v := nI (tkD d (dB d) p1)) (by show p1 < 8; omega) (by omega) (tf5 p1 (by omega)) dL_law_915 ?_
        refine lv_icmp_ne (tgt := 975) hx hb dL_law_916 (by decide) (fun q9 => absurd (congrArg nI (show (tkD d (dB d) p1) = (tkD d (dB d) p1) by omega)) q9) (fun _ => ?_)
        refine lv_aload_n hx hb dL_law_919 rfl (lv_at hl 3 rfl) ?_
        refine lv_iload hx hb dL_law_920 (lv_at hl 23 rfl) ?_
        refine lv_bipush (v := 8) hx hb dL_law_922 (by decide) ?_
        refine lx_i (As := [.int (nI p1), .int 8]) (rest := []) F T kg (mX6_pierOf l dC dI adX cy F.J σ (nI p1) 8 _ (cq_p8 hC hp)) (cwV 2 F.S.2.2.2.2 gL_law_X6_pierOf rfl rfl rfl dmX6_pierOf ⟨Nat.le_of_ble_eq_true rfl, Nat.le_of_ble_eq_true rfl⟩) hw rfl rfl hl.1 (Nat.le_of_ble_eq_true rfl) ⟨cL (by omega), sL (by omega)⟩ dL_law_924 (fun H locs hw => ?_)
        refine lv_iload hx hb dL_law_927 (lv_at hl 0 rfl) ?_
        refine lv_icmp_ne (tgt := 975) hx hb dL_law_929 (by decide) (fun q9 => absurd (congrArg nI (show (roomD d p1) = ((dbe d p1) * (dT d)) by omega)) q9) (fun _ => ?_)
        refine lv_aload_n hx hb dL_law_932 rfl (lv_at hl 3 rfl) ?_
        refine lv_iload hx hb dL_law_933 (lv_at hl 23 rfl) ?_
        refine lv_bipush (v := 9) hx hb dL_law_935 (by decide) ?_
        refine lx_i (As := [.int (nI p1), .int 9]) (rest := []) F T kg (mX6_pierOf l dC dI adX cy F.J σ (nI p1) 9 _ (cq_p9 hC hp)) (cwV 2 F.S.2.2.2.2 gL_law_X6_pierOf rfl rfl rfl dmX6_pierOf ⟨Nat.le_of_ble_eq_true rfl, Nat.le_of_ble_eq_true rfl⟩) hw rfl rfl hl.1 (Nat.le_of_ble_eq_true rfl) ⟨cL (by omega), sL (by omega)⟩ dL_law_937 (fun H locs hw => ?_)
        refine lv_aload hx hb dL_law_940 (lv_at hl 17 rfl) ?_
        refine lv_iload hx hb dL_law_942 (lv_at hl 23 rfl) ?_
        refine lx_ald F T hw 3 (by decide) (i := p1) (v := nI (htD d (dB d) p1)) (by show p1 < 8; omega) (by omega) (tf3 p1 (by omega)) dL_law_944 ?_
        refine lv_iload hx hb dL_law_945 (lv_at hl 0 rfl) ?_
        refine lv_icmp_le (tgt := 954) hx hb dL_law_947 (by decide) (fun _ => ?_) (fun q9 => absurd (nI_le (by omega) (by omega)) q9)
        refine lv_iconst (v := nI 0) hx hb dL_law_954 (by decide) ?_
        refine lv_icmp_ne (tgt := 975) hx hb dL_law_955 (by decide) (fun q9 => absurd (by rw [hhb]; rfl) q9) (fun _ => ?_)
        refine lv_aload_n hx hb dL_law_958 rfl (lv_at hl 3 rfl) ?_
        refine lv_iload hx hb dL_law_959 (lv_at hl 23 rfl) ?_
        refine lx_i (As := [.int (nI p1)]) (rest := []) F T kg (mX6_tell l dC dI adX cy F.J σ (nI p1) _ (ct1)) (cwV 1 F.S.2.2.2.2 gL_law_X6_tell rfl rfl rfl dmX6_tell ⟨Nat.le_of_ble_eq_true rfl, Nat.le_of_ble_eq_true rfl⟩) hw rfl rfl hl.1 (Nat.le_of_ble_eq_true rfl) ⟨cL (by omega), sL (by omega)⟩ dL_law_961 (fun H locs hw => ?_)
        have hC := hC1
        refine lv_aload hx hb dL_law_964 (lv_at hl 22 rfl) ?_
        refine lv_iload hx hb dL_law_966 (lv_at hl 23 rfl) ?_
        refine ls_ald (i := p1) F hw (hw.g) (by omega) (by omega) dL_law_968 ?_
        refine ls_len F kg hw (fun H h => (h.2.2 p1 hp).2.2) (cwV 0 F.S.2.2.2.2 gL_law_J0_length_8abf5 rfl rfl rfl dmJ0_length_8abf5 ⟨Nat.le_of_ble_eq_true rfl, Nat.le_of_ble_eq_true rfl⟩) hl.1 (Nat.le_of_ble_eq_true rfl) ⟨cL (by omega), sL (by omega)⟩ dL_law_969 (fun H locs hw => ?_)
        refine lv_icmp_eq (tgt := 977) hx hb dL_law_972 (by decide) (fun _ => ?_) (fun q9 => absurd (congrArg nI (show (lnAt d (dB d) p1).length = (lnAt d (dB d) p1).length by omega)) q9)
        refine lv_iconst (v := nI 0) hx hb dL_law_977 (by decide) ?_
        refine lv_istore (lv' := [(24, .int (nI 0)), (23, .int (nI ((dbe d p1) * (dT d)))), (22, .int (nI 1)), (0, .ref b), (1, .ref (adX 0)), (2, .int (nI turn)), (3, .int (nI (dP d))), (4, .int (nI (dB d))), (5, .int (nI (opS d p1))), (6, .int (nI (offD d p1))), (7, .int (nI (sumTo (dto d) (dB d)))), (8, .int (nI (lyD d (dB d)))), (9, .int (nI (rmS d p1))), (10, .int (nI (htS d p1))), (11, .int (nI (dT d))), (12, .ref (adT 0)), (13, .ref (adT 1)), (14, .ref (adT 2)), (15, .ref (adT 3)), (16, .ref (adT 4)), (17, .ref (adT 5)), (18, .ref (adT 6)), (19, .ref (adT 7)), (20, .ref aL), (21, .int (nI p1))]) hx hb dL_law_978 hl (by decide) rfl (fun ls hl => ?_)
        refine law_p5c F T hC1 (τ := τ) (aL := aL) (qs := qs) (vs := vs) hp hnc hns ct2 hlen (fun H locs hw ls hl => ?_) (lnAt d (dB d) p1).length 0 (by omega) H locs hw ls (lv_sub hl [3, 4, 5, 6, 7, 8, 9, 10, 11, 12, 13, 14, 15, 16, 17, 18, 19, 20, 21, 22, 23, 24, 2, 1, 0] rfl)
        refine lv_iload hx hb dL_law_1020 (lv_at hl 5 rfl) ?_
        refine lv_iload hx hb dL_law_1022 (lv_at hl 22 rfl) ?_
        refine lv_if_eq (tgt := 1031) hx hb dL_law_1024 (by decide) (fun q9 => absurd q9 (by decide)) (fun _ => ?_)
        refine lv_iconst (v := nI 1) hx hb dL_law_1027 (by decide) ?_
        refine lv_goto (tgt := 1032) hx hb dL_law_1028 (by decide) ?_
        refine lv_iadd hx hb dL_law_1032 ?_
        rw [show (((nI (opS d p1)) + (nI 1)) : Int32) = nI (opS d (p1 + 1)) from by rw [hos]; exact nI_add _ _]
        refine lv_istore (lv' := [(5, .int (nI (opS d (p1 + 1)))), (0, .ref b), (1, .ref (adX 0)), (2, .int (nI turn)), (3, .int (nI (dP d))), (4, .int (nI (dB d))), (6, .int (nI (offD d p1))), (7, .int (nI (sumTo (dto d) (dB d)))), (8, .int (nI (lyD d (dB d)))), (9, .int (nI (rmS d p1))), (10, .int (nI (htS d p1))), (11, .int (nI (dT d))), (12, .ref (adT 0)), (13, .ref (adT 1)), (14, .ref (adT 2)), (15, .ref (adT 3)), (16, .ref (adT 4)), (17, .ref (adT 5)), (18, .ref (adT 6)), (19, .ref (adT 7)), (20, .ref aL), (21, .int (nI p1)), (22, .int (nI 1)), (23, .int (nI ((dbe d p1) * (dT d))))]) hx hb dL_law_1033 hl (by decide) rfl (fun ls hl => ?_)
        refine lv_iload hx hb dL_law_1035 (lv_at hl 6 rfl) ?_
        refine lv_aload_n hx hb dL_law_1037 rfl (lv_at hl 2 rfl) ?_
        refine lv_iload hx hb dL_law_1038 (lv_at hl 21 rfl) ?_
        refine lv_iconst (v := 2) hx hb dL_law_1040 (by decide) ?_
        refine lx_i (As := [.int (nI p1), .int 2]) (rest := [.int (nI (offD d p1))]) F T kg (mX6_pierOf l dC dI adX cy F.J σ1 (nI p1) 2 _ (cq_p2 hC1 hp)) (cwV 2 F.S.2.2.2.2 gL_law_X6_pierOf rfl rfl rfl dmX6_pierOf ⟨Nat.le_of_ble_eq_true rfl, Nat.le_of_ble_eq_true rfl⟩) hw rfl rfl hl.1 (Nat.le_of_ble_eq_true rfl) ⟨cL (by omega), sL (by omega)⟩ dL_law_1041 (fun H locs hw => ?_)
        refine lv_iadd hx hb dL_law_1044 ?_
        rw [show (((nI (offD d p1)) + (nI (nptD d p1))) : Int32) = nI (offD d (p1 + 1)) from nI_add _ _]
        refine lv_istore (lv' := [(6, .int (nI (offD d (p1 + 1)))), (5, .int (nI (opS d (p1 + 1)))), (0, .ref b), (1, .ref (adX 0)), (2, .int (nI turn)), (3, .int (nI (dP d))), (4, .int (nI (dB d))), (7, .int (nI (sumTo (dto d) (dB d)))), (8, .int (nI (lyD d (dB d)))), (9, .int (nI (rmS d p1))), (10, .int (nI (htS d p1))), (11, .int (nI (dT d))), (12, .ref (adT 0)), (13, .ref (adT 1)), (14, .ref (adT 2)), (15, .ref (adT 3)), (16, .ref (adT 4)), (17, .ref (adT 5)), (18, .ref (adT 6)), (19, .ref (adT 7)), (20, .ref aL), (21, .int (nI p1)), (22, .int (nI 1)), (23, .int (nI ((dbe d p1) * (dT d))))]) hx hb dL_law_1045 hl (by decide) rfl (fun ls hl => ?_)
        refine lv_iload hx hb dL_law_1047 (lv_at hl 9 rfl) ?_
        refine lv_iload hx hb dL_law_1049 (lv_at hl 23 rfl) ?_
        refine lv_iadd hx hb dL_law_1051 ?_
        rw [show (((nI (rmS d p1)) + (nI ((dbe d p1) * (dT d)))) : Int32) = nI (rmS d (p1 + 1)) from by rw [hrm, hro]; exact nI_add _ _]
        refine lv_istore (lv' := [(9, .int (nI (rmS d (p1 + 1)))), (6, .int (nI (offD d (p1 + 1)))), (5, .int (nI (opS d (p1 + 1)))), (0, .ref b), (1, .ref (adX 0)), (2, .int (nI turn)), (3, .int (nI (dP d))), (4, .int (nI (dB d))), (7, .int (nI (sumTo (dto d) (dB d)))), (8, .int (nI (lyD d (dB d)))), (10, .int (nI (htS d p1))), (11, .int (nI (dT d))), (12, .ref (adT 0)), (13, .ref (adT 1)), (14, .ref (adT 2)), (15, .ref (adT 3)), (16, .ref (adT 4)), (17, .ref (adT 5)), (18, .ref (adT 6)), (19, .ref (adT 7)), (20, .ref aL), (21, .int (nI p1)), (22, .int (nI 1)), (23, .int (nI ((dbe d p1) * (dT d))))]) hx hb dL_law_1052 hl (by decide) rfl (fun ls hl => ?_)
        refine lv_iload hx hb dL_law_1054 (lv_at hl 10 rfl) ?_
        refine lv_aload hx hb dL_law_1056 (lv_at hl 15 rfl) ?_
        refine lv_iload hx hb dL_law_1058 (lv_at hl 21 rfl) ?_
        refine lx_ald F T hw 3 (by decide) (i := p1) (v := nI (htD d (dB d) p1)) (by show p1 < 8; omega) (by omega) (tf3 p1 (by omega)) dL_law_1060 ?_
        refine lv_iload hx hb dL_law_1061 (lv_at hl 23 rfl) ?_
        refine lv_icmp_le (tgt := 1070) hx hb dL_law_1063 (by decide) (fun _ => ?_) (fun q9 => absurd (nI_le (by omega) (by omega)) q9)
        refine lv_iconst (v := nI 0) hx hb dL_law_1070 (by decide) ?_
        refine lv_iadd hx hb dL_law_1071 ?_
        rw [show (((nI (htS d p1)) + (nI 0)) : Int32) = nI (htS d (p1 + 1)) from by rw [hhs]; exact (nI_add _ _).trans (by rw [Nat.add_zero])]
        refine lv_istore (lv' := [(10, .int (nI (htS d (p1 + 1)))), (9, .int (nI (rmS d (p1 + 1)))), (6, .int (nI (offD d (p1 + 1)))), (5, .int (nI (opS d (p1 + 1)))), (0, .ref b), (1, .ref (adX 0)), (2, .int (nI turn)), (3, .int (nI (dP d))), (4, .int (nI (dB d))), (7, .int (nI (sumTo (dto d) (dB d)))), (8, .int (nI (lyD d (dB d)))), (11, .int (nI (dT d))), (12, .ref (adT 0)), (13, .ref (adT 1)), (14, .ref (adT 2)), (15, .ref (adT 3)), (16, .ref (adT 4)), (17, .ref (adT 5)), (18, .ref (adT 6)), (19, .ref (adT 7)), (20, .ref aL), (21, .int (nI p1)), (22, .int (nI 1)), (23, .int (nI ((dbe d p1) * (dT d))))]) hx hb dL_law_1072 hl (by decide) rfl (fun ls hl => ?_)
        refine lv_iinc (v := nI (p1 + 1)) (lv' := [(21, .int (nI (p1 + 1))), (10, .int (nI (htS d (p1 + 1)))), (9, .int (nI (rmS d (p1 + 1)))), (6, .int (nI (offD d (p1 + 1)))), (5, .int (nI (opS d (p1 + 1)))), (0, .ref b), (1, .ref (adX 0)), (2, .int (nI turn)), (3, .int (nI (dP d))), (4, .int (nI (dB d))), (7, .int (nI (sumTo (dto d) (dB d)))), (8, .int (nI (lyD d (dB d)))), (11, .int (nI (dT d))), (12, .ref (adT 0)), (13, .ref (adT 1)), (14, .ref (adT 2)), (15, .ref (adT 3)), (16, .ref (adT 4)), (17, .ref (adT 5)), (18, .ref (adT 6)), (19, .ref (adT 7)), (20, .ref aL), (22, .int (nI 1)), (23, .int (nI ((dbe d p1) * (dT d))))]) hx hb dL_law_1074 hl (k := 21) rfl (nI_1 p1) (by decide) rfl (fun ls hl => ?_)
        refine lv_goto (tgt := 769) hx hb dL_law_1077 (by decide) ?_
        exact ih (p1 + 1) (by omega) σ1 hI1 H locs hw ls (lv_sub hl [5, 6, 7, 8, 9, 4, 3, 10, 11, 2, 1, 12, 13, 14, 15, 16, 17, 18, 19, 20, 21, 0] rfl)
end LB
