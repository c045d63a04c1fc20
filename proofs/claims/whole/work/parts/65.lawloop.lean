/-! The law's loop. -/
theorem and31 (a : Int32) : ∃ k, k < 32 ∧ a &&& 31 = nI k := by
  have h : (a &&& 31).toBitVec.toNat ≤ 31 := by
    rw [Int32.toBitVec_and, BitVec.toNat_and]
    exact Nat.and_le_right
  refine ⟨(a &&& 31).toBitVec.toNat, by omega, ?_⟩
  apply Int32.toBitVec_inj.mp
  apply BitVec.eq_of_toNat_eq
  show _ = (Int32.ofNat _).toBitVec.toNat
  rw [Int32.toBitVec_ofNat', BitVec.toNat_ofNat]
  omega
theorem sub_3 : ∀ L, L < 1537 → (nI L - nI 3).toInt = (L : Int) - 3 := by decide +kernel
set_option maxHeartbeats 8000000 in
set_option maxRecDepth 100000 in
theorem law_step {p : Program} {l : Launch} {e : Env} {s : State} {m : MethodId} {below : List Frame} {meth : Method} {c : Code} {b L : Nat} {xs : Nat → Int32} {dC : Nat → ClassId} {dI : Nat → Nat → Nat} {cy : Nat → ClassId} {adX adM : Nat → Nat} {sa : SA} {R : St → St → Prop} (hL : L ≤ 1536) (C0 : LC p s m meth c b L xs dC dI cy adX adM sa) (hSim : Sim R) {i : Nat} (hi : i + 3 ≤ L) (nx : LN p l e s m below meth c b dC dI cy adX adM R i 966) : LN p l e s m below meth c b dC dI cy adX adM R i 26 := by
  obtain ⟨hx, hb, hml, hown, hts0, hX, hbl, hK, hJX, hJM, hAX, hAM, hdis, hE⟩ := id C0
  have hbA : ¬ (fun q : Nat => s.heap.size ≤ q) b := Nat.not_le.mpr hbl
  intro d0 hd0 σX σM hRR H locs hPX hPM hS ls hl
  have hX : va_X b L xs (s.setDrawn d0) s.heap := hX
  refine lv_aload_n hx hb dL_law_26 rfl (lv_at hl 0 rfl) ?_
  refine lv_iload_n hx hb dL_law_27 rfl (lv_at hl 3 rfl) ?_
  refine va_sld hx hb hX hbl hbA hS (vp_in_nI (n := i) (by omega) (by omega)) dL_law_28 ?_
  refine lv_bipush (v := 31) hx hb dL_law_29 (by decide) ?_
  refine lv_iand hx hb dL_law_31 ?_
  obtain ⟨k, hk, ek⟩ := and31 (xs (nI i).toNatClampNeg)
  rw [ek]
  rcases (show k = 0 ∨ k = 1 ∨ k = 2 ∨ k = 3 ∨ k = 4 ∨ k = 5 ∨ k = 6 ∨ k = 7 ∨ k = 8 ∨ k = 9 ∨ k = 10 ∨ k = 11 ∨ k = 12 ∨ k = 13 ∨ k = 14 ∨ k = 15 ∨ k = 16 ∨ k = 17 ∨ k = 18 ∨ k = 19 ∨ k = 20 ∨ k = 21 ∨ k = 22 ∨ k = 23 ∨ k = 24 ∨ k = 25 ∨ k = 26 ∨ k = 27 ∨ k = 28 ∨ k = 29 ∨ k = 30 ∨ k = 31 by omega) with rfl | rfl | rfl | rfl | rfl | rfl | rfl | rfl | rfl | rfl | rfl | rfl | rfl | rfl | rfl | rfl | rfl | rfl | rfl | rfl | rfl | rfl | rfl | rfl | rfl | rfl | rfl | rfl | rfl | rfl | rfl | rfl
  · refine lv_tableIn (tgt := 176) hx hb dL_law_32 (by decide) (by decide) rfl (by decide) ?_
    exact lw_case_pier hL C0 hSim hi nx d0 hd0 σX σM hRR H locs hPX hPM hS ls hl
  · refine lv_tableIn (tgt := 199) hx hb dL_law_32 (by decide) (by decide) rfl (by decide) ?_
    exact lw_case_close hL C0 hSim hi nx d0 hd0 σX σM hRR H locs hPX hPM hS ls hl
  · refine lv_tableIn (tgt := 222) hx hb dL_law_32 (by decide) (by decide) rfl (by decide) ?_
    exact lw_case_open hL C0 hSim hi nx d0 hd0 σX σM hRR H locs hPX hPM hS ls hl
  · refine lv_tableIn (tgt := 245) hx hb dL_law_32 (by decide) (by decide) rfl (by decide) ?_
    exact lw_case_weigh hL C0 hSim hi nx d0 hd0 σX σM hRR H locs hPX hPM hS ls hl
  · refine lv_tableIn (tgt := 278) hx hb dL_law_32 (by decide) (by decide) rfl (by decide) ?_
    exact lw_case_berth hL C0 hSim hi nx d0 hd0 σX σM hRR H locs hPX hPM hS ls hl
  · refine lv_tableIn (tgt := 301) hx hb dL_law_32 (by decide) (by decide) rfl (by decide) ?_
    exact lw_case_pierOf hL C0 hSim hi nx d0 hd0 σX σM hRR H locs hPX hPM hS ls hl
  · refine lv_tableIn (tgt := 334) hx hb dL_law_32 (by decide) (by decide) rfl (by decide) ?_
    exact lw_case_neighbours hL C0 hSim hi nx d0 hd0 σX σM hRR H locs hPX hPM hS ls hl
  · refine lv_tableIn (tgt := 357) hx hb dL_law_32 (by decide) (by decide) rfl (by decide) ?_
    exact lw_case_barge hL C0 hSim hi nx d0 hd0 σX σM hRR H locs hPX hPM hS ls hl
  · refine lv_tableIn (tgt := 390) hx hb dL_law_32 (by decide) (by decide) rfl (by decide) ?_
    exact lw_case_leave hL C0 hSim hi nx d0 hd0 σX σM hRR H locs hPX hPM hS ls hl
  · refine lv_tableIn (tgt := 413) hx hb dL_law_32 (by decide) (by decide) rfl (by decide) ?_
    exact lw_case_load hL C0 hSim hi nx d0 hd0 σX σM hRR H locs hPX hPM hS ls hl
  · refine lv_tableIn (tgt := 446) hx hb dL_law_32 (by decide) (by decide) rfl (by decide) ?_
    exact lw_case_bargeOf hL C0 hSim hi nx d0 hd0 σX σM hRR H locs hPX hPM hS ls hl
  · refine lv_tableIn (tgt := 479) hx hb dL_law_32 (by decide) (by decide) rfl (by decide) ?_
    exact lw_case_home hL C0 hSim hi nx d0 hd0 σX σM hRR H locs hPX hPM hS ls hl
  · refine lv_tableIn (tgt := 502) hx hb dL_law_32 (by decide) (by decide) rfl (by decide) ?_
    exact lw_case_homeAgain hL C0 hSim hi nx d0 hd0 σX σM hRR H locs hPX hPM hS ls hl
  · refine lv_tableIn (tgt := 525) hx hb dL_law_32 (by decide) (by decide) rfl (by decide) ?_
    exact lw_case_homeOf hL C0 hSim hi nx d0 hd0 σX σM hRR H locs hPX hPM hS ls hl
  · refine lv_tableIn (tgt := 548) hx hb dL_law_32 (by decide) (by decide) rfl (by decide) ?_
    exact lw_case_ring hL C0 hSim hi nx d0 hd0 σX σM hRR H locs hPX hPM hS ls hl
  · refine lv_tableIn (tgt := 581) hx hb dL_law_32 (by decide) (by decide) rfl (by decide) ?_
    exact lw_case_deep hL C0 hSim hi nx d0 hd0 σX σM hRR H locs hPX hPM hS ls hl
  · refine lv_tableIn (tgt := 594) hx hb dL_law_32 (by decide) (by decide) rfl (by decide) ?_
    exact lw_case_wouldMove hL C0 hSim hi nx d0 hd0 σX σM hRR H locs hPX hPM hS ls hl
  · refine lv_tableIn (tgt := 617) hx hb dL_law_32 (by decide) (by decide) rfl (by decide) ?_
    exact lw_case_wouldClose hL C0 hSim hi nx d0 hd0 σX σM hRR H locs hPX hPM hS ls hl
  · refine lv_tableIn (tgt := 640) hx hb dL_law_32 (by decide) (by decide) rfl (by decide) ?_
    exact lw_case_hottest hL C0 hSim hi nx d0 hd0 σX σM hRR H locs hPX hPM hS ls hl
  · refine lv_tableIn (tgt := 663) hx hb dL_law_32 (by decide) (by decide) rfl (by decide) ?_
    exact lw_case_append hL C0 hSim hi nx d0 hd0 σX σM hRR H locs hPX hPM hS ls hl
  · refine lv_tableIn (tgt := 686) hx hb dL_law_32 (by decide) (by decide) rfl (by decide) ?_
    exact lw_case_run hL C0 hSim hi nx d0 hd0 σX σM hRR H locs hPX hPM hS ls hl
  · refine lv_tableIn (tgt := 699) hx hb dL_law_32 (by decide) (by decide) rfl (by decide) ?_
    exact lw_case_tell hL C0 hSim hi nx d0 hd0 σX σM hRR H locs hPX hPM hS ls hl
  · refine lv_tableIn (tgt := 722) hx hb dL_law_32 (by decide) (by decide) rfl (by decide) ?_
    exact lw_case_tellBarge hL C0 hSim hi nx d0 hd0 σX σM hRR H locs hPX hPM hS ls hl
  · refine lv_tableIn (tgt := 745) hx hb dL_law_32 (by decide) (by decide) rfl (by decide) ?_
    exact lw_case_character hL C0 hSim hi nx d0 hd0 σX σM hRR H locs hPX hPM hS ls hl
  · refine lv_tableIn (tgt := 768) hx hb dL_law_32 (by decide) (by decide) rfl (by decide) ?_
    exact lw_case_reason hL C0 hSim hi nx d0 hd0 σX σM hRR H locs hPX hPM hS ls hl
  · refine lv_tableIn (tgt := 807) hx hb dL_law_32 (by decide) (by decide) rfl (by decide) ?_
    exact lw_case_account hL C0 hSim hi nx d0 hd0 σX σM hRR H locs hPX hPM hS ls hl
  · refine lv_tableIn (tgt := 830) hx hb dL_law_32 (by decide) (by decide) rfl (by decide) ?_
    exact lw_case_isBalanced hL C0 hSim hi nx d0 hd0 σX σM hRR H locs hPX hPM hS ls hl
  · refine lv_tableIn (tgt := 843) hx hb dL_law_32 (by decide) (by decide) rfl (by decide) ?_
    exact lw_case_meanStretch hL C0 hSim hi nx d0 hd0 σX σM hRR H locs hPX hPM hS ls hl
  · refine lv_tableIn (tgt := 884) hx hb dL_law_32 (by decide) (by decide) rfl (by decide) ?_
    exact lw_case_takenShare hL C0 hSim hi nx d0 hd0 σX σM hRR H locs hPX hPM hS ls hl
  · refine lv_tableIn (tgt := 927) hx hb dL_law_32 (by decide) (by decide) rfl (by decide) ?_
    exact lw_case_undo hL C0 hSim hi nx d0 hd0 σX σM hRR H locs hPX hPM hS ls hl
  · refine lv_tableIn (tgt := 940) hx hb dL_law_32 (by decide) (by decide) rfl (by decide) ?_
    exact lw_case_save hL C0 hSim hi nx d0 hd0 σX σM hRR H locs hPX hPM hS ls hl
  · refine lv_tableIn (tgt := 953) hx hb dL_law_32 (by decide) (by decide) rfl (by decide) ?_
    exact lw_case_restore hL C0 hSim hi nx d0 hd0 σX σM hRR H locs hPX hPM hS ls hl
set_option maxHeartbeats 8000000 in
set_option maxRecDepth 100000 in
theorem law_loop {p : Program} {l : Launch} {e : Env} {s : State} {m : MethodId} {below : List Frame} {meth : Method} {c : Code} {b L : Nat} {xs : Nat → Int32} {dC : Nat → ClassId} {dI : Nat → Nat → Nat} {cy : Nat → ClassId} {adX adM : Nat → Nat} {sa : SA} {R : St → St → Prop} (hL : L ≤ 1536) (C0 : LC p s m meth c b L xs dC dI cy adX adM sa) (hSim : Sim R) (hr : meth.sig.returnType = ret) (hlocks : meth.locks = false) : ∀ (n i : Nat), L < i + n → i ≤ L + 3 → LN p l e s m below meth c b dC dI cy adX adM R i 18 := by
  obtain ⟨hx, hb, hml, hown, hts0, hX, hbl, hK, hJX, hJM, hAX, hAM, hdis, hE⟩ := id C0
  have hbA : ¬ (fun q : Nat => s.heap.size ≤ q) b := Nat.not_le.mpr hbl
  have hs3 := sub_3 L (by omega)
  have h32 : (nI L - nI 3).toInt = (L : Int) - 3 := hs3
  have last : ∀ (i : Nat), i < 2 ^ 31 → L < i + 3 → LN p l e s m below meth c b dC dI cy adX adM R i 18 := by
    intro i hib hi d0 hd0 σX σM hRR H locs hPX hPM hS ls hl
    have hX : va_X b L xs (s.setDrawn d0) s.heap := hX
    refine lv_iload_n hx hb dL_law_18 rfl (lv_at hl 3 rfl) ?_
    refine lv_aload_n hx hb dL_law_19 rfl (lv_at hl 0 rfl) ?_
    refine va_slen hx hb hX hbl hbA hS dL_law_20 ?_
    refine lv_iconst (v := nI 3) hx hb dL_law_21 (by decide) ?_
    refine lv_isub hx hb dL_law_22 ?_
    refine lv_icmp_gt (tgt := 972) hx hb dL_law_23 (by decide) (fun _ => ?_) (fun h => absurd ?_ h)
    · refine lv_iconst (v := 1) hx hb dL_law_972 (by decide) ?_
      refine va_forget (fun q hq => hS.2.2 q hq) ?_
      exact lw_ret hd0 hx hb hr hlocks dL_law_973
    · rw [Int32.lt_iff_toInt_lt]
      show (nI L - nI 3).toInt < (nI i).toInt
      rw [h32, nI_toInt hib]
      omega
  intro n
  induction n with
  | zero =>
    intro i hi hi2
    exact last i (by omega) (by omega)
  | succ n ih =>
    intro i hi hi2
    by_cases h3 : L < i + 3
    · exact last i (by omega) h3
    · have nx : LN p l e s m below meth c b dC dI cy adX adM R i 966 := by
        intro d0 hd0 σX σM hRR H locs hPX hPM hS ls hl
        refine lv_iinc (v := nI (i + 3)) (lv' := [(3, .int (nI (i + 3))), (0, .ref b), (1, .ref (adX 0)), (2, .ref (adM 0))]) hx hb dL_law_966 hl (k := 3) rfl (by rw [← nI_add]; rfl) (by decide) rfl (fun ls hl => ?_)
        refine lv_goto (tgt := 18) hx hb dL_law_969 (by decide) ?_
        exact ih (i + 3) (by omega) (by omega) d0 hd0 σX σM hRR H locs hPX hPM hS ls (lv_sub hl [1, 2, 3, 0] rfl)
      have st := law_step hL C0 hSim (i := i) (by omega) nx
      intro d0 hd0 σX σM hRR H locs hPX hPM hS ls hl
      have hX : va_X b L xs (s.setDrawn d0) s.heap := hX
      refine lv_iload_n hx hb dL_law_18 rfl (lv_at hl 3 rfl) ?_
      refine lv_aload_n hx hb dL_law_19 rfl (lv_at hl 0 rfl) ?_
      refine va_slen hx hb hX hbl hbA hS dL_law_20 ?_
      refine lv_iconst (v := nI 3) hx hb dL_law_21 (by decide) ?_
      refine lv_isub hx hb dL_law_22 ?_
      refine lv_icmp_gt (tgt := 972) hx hb dL_law_23 (by decide) (fun h => absurd h ?_) (fun _ => ?_)
      · rw [Int32.lt_iff_toInt_lt]
        show ¬ (nI L - nI 3).toInt < (nI i).toInt
        rw [h32, nI_toInt (by omega)]
        omega
      · exact st d0 hd0 σX σM hRR H locs hPX hPM hS ls hl
