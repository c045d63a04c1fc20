theorem wd_addr {N : Nat} {ad : Nat → Nat} {L : Nat → (Nat → Int32) → va_E} {σ : St} {i : Nat} {x : Nat × va_E} (h : (wd N ad L σ)[i]? = some x) : i < N ∧ x.1 = ad i := by
  by_cases hN : i < N
  · rw [wd_at hN] at h
    cases h
    exact ⟨hN, rfl⟩
  · simp [wd, hN] at h
theorem disO {N M : Nat} {ad ad2 : Nat → Nat} {L : Nat → (Nat → Int32) → va_E} {σ : St} (h : ∀ i j, i < N → j < M → ad i ≠ ad2 j) : ∀ (i : Nat) (x : Nat × va_E), (wd M ad2 L σ)[i]? = some x → ¬ WA N ad x.1 := by
  intro i x hx q
  obtain ⟨h1, h2⟩ := wd_addr hx
  obtain ⟨k, hk, e⟩ := q
  exact h k i hk h1 (by rw [← e, h2])
theorem disO' {N M : Nat} {ad ad2 : Nat → Nat} {L : Nat → (Nat → Int32) → va_E} {σ : St} (h : ∀ i j, i < N → j < M → ad i ≠ ad2 j) : ∀ (i : Nat) (x : Nat × va_E), (wd N ad L σ)[i]? = some x → ¬ WA M ad2 x.1 := by
  intro i x hx q
  obtain ⟨h1, h2⟩ := wd_addr hx
  obtain ⟨k, hk, e⟩ := q
  exact h i k h1 hk (by rw [← e, h2])
/-- what holds all through the law's loop -/
def LC (p : Program) (s : State) (m : MethodId) (meth : Method) (c : Code) (b L : Nat) (xs : Nat → Int32) (dC : Nat → ClassId) (dI : Nat → Nat → Nat) (cy : Nat → ClassId) (adX adM : Nat → Nat) (sa : SA) : Prop :=
  p.tables.exec = Jvm.exec ∧ c.code = code ∧ c.maxLocals = 8 ∧ s.vm.findClass RL = some m.cls ∧ (∀ w ∈ wsL_law, w.before #[Value.ref b] s = true) ∧ va_X b L xs s s.heap ∧ b < s.heap.size ∧ va_K (dC, dI) vwCl (tysX cy) s ∧ WJ 93 adX ∧ WJ 16 adM ∧ (∀ q, WA 93 adX q → s.heap.size ≤ q) ∧ (∀ q, WA 16 adM q → s.heap.size ≤ q) ∧ (∀ i j, i < 93 → j < 16 → adX i ≠ adM j) ∧ EX (fun q => s.heap.size ≤ q) sa s s.heap
/-- from pc on, the law comes to its end, whatever the states in R are -/
def LN (p : Program) (l : Launch) (e : Env) (s : State) (m : MethodId) (below : List Frame) (meth : Method) (c : Code) (b : Nat) (dC : Nat → ClassId) (dI : Nat → Nat → Nat) (cy : Nat → ClassId) (adX adM : Nat → Nat) (R : St → St → Prop) (i pc : Nat) : Prop :=
  ∀ (d0 : Drawn), s.drawn.sameBut d0 lw_cs → ∀ (σX σM : St), R σX σM → ∀ (H : Heap) (locs : List Loc), va_P (dC, dI) vwCl (wd 93 adX (layX adX cy) σX) H → va_P (dC, dI) vwCl (wd 16 adM (layM adM cy) σM) H → va_S (fun q : Nat => s.heap.size ≤ q) s.heap H locs → ∀ (ls : Array Slot), lv_has ls 8 [(0, .ref b), (1, .ref (adX 0)), (2, .ref (adM 0)), (3, .int (nI i))] → W p l e room_1 (s.setDrawn d0) m #[Value.ref b] below meth c H locs 600000 7302250 (lw_Z below #[Value.ref b] s) (F0 m pc ls [])
theorem alike64_eq {x y : UInt64} (h : alike64 x y = true) (hn : isNaN64 y = false) : x = y := by
  unfold alike64 at h
  rw [hn] at h
  simpa using h
theorem alike32_eq {x y : UInt32} (h : alike32 x y = true) (hn : isNaN32 y = false) : x = y := by
  unfold alike32 at h
  rw [hn] at h
  simpa using h

theorem nan64_dec {b : UInt64} (h : isNaN64 b = true) : FP.Core.decode FP.Core.b64 b.toNat = .nan := by
  have h1 := isNaN64_iff.mp h
  have h3 : b.toNat &&& 0x7fffffffffffffff = b.toNat % 2 ^ 63 := Nat.and_two_pow_sub_one_eq_mod b.toNat 63
  rw [h3] at h1
  unfold FP.Core.decode
  have e1 : FP.Core.fieldE FP.Core.b64 b.toNat = FP.Core.b64.exps - 1 := by
    show b.toNat / 2 ^ 52 % 2 ^ 11 = 2 ^ 11 - 1
    omega
  have e2 : ¬ FP.Core.fieldT FP.Core.b64 b.toNat = 0 := by
    show ¬ b.toNat % 2 ^ 52 = 0
    omega
  rw [if_pos e1, if_neg e2]
theorem nan32_dec {b : UInt32} (h : isNaN32 b = true) : FP.Core.decode FP.Core.b32 b.toNat = .nan := by
  have h1 := isNaN32_iff.mp h
  have h3 : b.toNat &&& 0x7fffffff = b.toNat % 2 ^ 31 := Nat.and_two_pow_sub_one_eq_mod b.toNat 31
  rw [h3] at h1
  unfold FP.Core.decode
  have e1 : FP.Core.fieldE FP.Core.b32 b.toNat = FP.Core.b32.exps - 1 := by
    show b.toNat / 2 ^ 23 % 2 ^ 8 = 2 ^ 8 - 1
    omega
  have e2 : ¬ FP.Core.fieldT FP.Core.b32 b.toNat = 0 := by
    show ¬ b.toNat % 2 ^ 23 = 0
    omega
  rw [if_pos e1, if_neg e2]
theorem nan64_cmp {a b : UInt64} (h : isNaN64 a = true) : FP.dcmp a b = none := by
  show FP.Core.order (FP.Core.decode FP.Core.b64 a.toNat) _ = none
  rw [nan64_dec h]
  rfl
theorem nan32_f2d {b : UInt32} (h : isNaN32 b = true) : isNaN64 (FP.f2d b) = true := by
  have h1 : FP.Core.fIsNaN b = true := decide_eq_true (nan32_dec h)
  unfold FP.f2d
  rw [if_pos h1]
  exact isNaN64_or_left (isNaN64_or_right (by decide))
theorem alike64_two {x y v : UInt64} (hx : alike64 x v = true) (hy : alike64 y v = true) : x = y ∨ (isNaN64 x = true ∧ isNaN64 y = true) := by
  unfold alike64 at hx hy
  simp only [Bool.or_eq_true, decide_eq_true_eq, Bool.and_eq_true] at hx hy
  rcases hx with rfl | ⟨h1, h2⟩
  · rcases hy with rfl | ⟨h3, h4⟩
    · exact Or.inl rfl
    · exact Or.inr ⟨h4, h3⟩
  · rcases hy with rfl | ⟨h3, h4⟩
    · exact Or.inr ⟨h1, h2⟩
    · exact Or.inr ⟨h1, h3⟩
theorem alike32_two {x y v : UInt32} (hx : alike32 x v = true) (hy : alike32 y v = true) : x = y ∨ (isNaN32 x = true ∧ isNaN32 y = true) := by
  unfold alike32 at hx hy
  simp only [Bool.or_eq_true, decide_eq_true_eq, Bool.and_eq_true] at hx hy
  rcases hx with rfl | ⟨h1, h2⟩
  · rcases hy with rfl | ⟨h3, h4⟩
    · exact Or.inl rfl
    · exact Or.inr ⟨h4, h3⟩
  · rcases hy with rfl | ⟨h3, h4⟩
    · exact Or.inr ⟨h1, h2⟩
    · exact Or.inr ⟨h1, h3⟩
theorem alike64_nan {x v : UInt64} (h : alike64 x v = true) (hv : isNaN64 v = true) : isNaN64 x = true := by
  unfold alike64 at h
  simp only [Bool.or_eq_true, decide_eq_true_eq, Bool.and_eq_true] at h
  rcases h with rfl | ⟨h1, h2⟩
  · exact hv
  · exact h1

set_option maxHeartbeats 8000000 in
set_option maxRecDepth 100000 in
theorem lw_case_pier {p : Program} {l : Launch} {e : Env} {s : State} {m : MethodId} {below : List Frame} {meth : Method} {c : Code} {b L : Nat} {xs : Nat → Int32} {dC : Nat → ClassId} {dI : Nat → Nat → Nat} {cy : Nat → ClassId} {adX adM : Nat → Nat} {sa : SA} {R : St → St → Prop} (hL : L ≤ 1536) (C0 : LC p s m meth c b L xs dC dI cy adX adM sa) (hSim : Sim R) {i : Nat} (hi : i + 3 ≤ L) (nx : LN p l e s m below meth c b dC dI cy adX adM R i 966) : LN p l e s m below meth c b dC dI cy adX adM R i 176 := by
  obtain ⟨hx, hb, hml, hown, hts0, hX, hbl, hK, hJX, hJM, hAX, hAM, hdis, hE⟩ := C0
  have hbA : ¬ (fun q : Nat => s.heap.size ≤ q) b := Nat.not_le.mpr hbl
  intro d0 hd0 σX σM hRR H locs hPX hPM hS ls hl
  have hts := dr_words hts0 d0
  have hX : va_X b L xs (s.setDrawn d0) s.heap := hX
  obtain ⟨r, σX1, σM1, e1, e2, hRR⟩ := sim_pier hSim hRR (xs (i + 1))
  refine lv_aload_n hx hb dL_law_176 rfl (lv_at hl 1 rfl) ?_
  refine lv_aload_n hx hb dL_law_177 rfl (lv_at hl 0 rfl) ?_
  refine lv_iload_n hx hb dL_law_178 rfl (lv_at hl 3 rfl) ?_
  refine lv_iconst (v := nI 1) hx hb dL_law_179 (by decide) ?_
  refine lv_iadd hx hb dL_law_180 ?_
  rw [nI_add i 1]
  refine va_sld hx hb hX hbl hbA hS (vp_in_nI (n := i + 1) (by omega) (by omega)) dL_law_181 ?_
  rw [nI_clamp (n := i + 1) (by omega)]
  refine xl_callVi (As := [.int (xs (i + 1))]) (rest := []) (r := r) (C := RX6) (ci := 6) ⟨hx, hb, hml, hown, hts⟩ 0 (mX6_pier l dC dI adX cy hJX σX (xs (i + 1)) (r, σX1) e1) (cwV 1 hts gL_law_X6_pier rfl rfl rfl dmX6_pier ⟨Nat.le_of_ble_eq_true rfl, Nat.le_of_ble_eq_true rfl⟩) hK hPX hPM (disO hdis) hAX hS (by decide) (LX6_obj adX cy _) rfl rfl rfl hl.1 (Nat.le_of_ble_eq_true rfl) ⟨Nat.le_refl _, Nat.le_refl _⟩ dL_law_182 (fun H locs hPX hPM hS => ?_)
  have hPX : va_P (dC, dI) vwCl (wd 93 adX (layX adX cy) σX1) H := hPX
  refine lv_aload_n hx hb dL_law_185 rfl (lv_at hl 2 rfl) ?_
  refine lv_aload_n hx hb dL_law_186 rfl (lv_at hl 0 rfl) ?_
  refine lv_iload_n hx hb dL_law_187 rfl (lv_at hl 3 rfl) ?_
  refine lv_iconst (v := nI 1) hx hb dL_law_188 (by decide) ?_
  refine lv_iadd hx hb dL_law_189 ?_
  rw [nI_add i 1]
  refine va_sld hx hb hX hbl hbA hS (vp_in_nI (n := i + 1) (by omega) (by omega)) dL_law_190 ?_
  rw [nI_clamp (n := i + 1) (by omega)]
  refine xl_callVi (As := [.int (xs (i + 1))]) (rest := [.int r]) (r := r) (C := RX7) (ci := 7) ⟨hx, hb, hml, hown, hts⟩ 0 (mX7_pier l dC dI adM cy hJM σM (xs (i + 1)) (r, σM1) e2) (cwV 1 hts gL_law_X7_pier rfl rfl rfl dmX7_pier ⟨Nat.le_of_ble_eq_true rfl, Nat.le_of_ble_eq_true rfl⟩) hK hPM hPX (disO' hdis) hAM hS (by decide) (LX7_obj adM cy _) rfl rfl rfl hl.1 (Nat.le_of_ble_eq_true rfl) ⟨Nat.le_refl _, Nat.le_refl _⟩ dL_law_191 (fun H locs hPM hPX hS => ?_)
  have hPM : va_P (dC, dI) vwCl (wd 16 adM (layM adM cy) σM1) H := hPM
  refine lv_icmp_eq (tgt := 966) hx hb dL_law_194 (by decide) (fun _ => ?_) (fun h => absurd rfl h)
  exact nx d0 hd0 σX1 σM1 hRR H locs hPX hPM hS ls hl
set_option maxHeartbeats 8000000 in
set_option maxRecDepth 100000 in
theorem lw_case_close {p : Program} {l : Launch} {e : Env} {s : State} {m : MethodId} {below : List Frame} {meth : Method} {c : Code} {b L : Nat} {xs : Nat → Int32} {dC : Nat → ClassId} {dI : Nat → Nat → Nat} {cy : Nat → ClassId} {adX adM : Nat → Nat} {sa : SA} {R : St → St → Prop} (hL : L ≤ 1536) (C0 : LC p s m meth c b L xs dC dI cy adX adM sa) (hSim : Sim R) {i : Nat} (hi : i + 3 ≤ L) (nx : LN p l e s m below meth c b dC dI cy adX adM R i 966) : LN p l e s m below meth c b dC dI cy adX adM R i 199 := by
  obtain ⟨hx, hb, hml, hown, hts0, hX, hbl, hK, hJX, hJM, hAX, hAM, hdis, hE⟩ := C0
  have hbA : ¬ (fun q : Nat => s.heap.size ≤ q) b := Nat.not_le.mpr hbl
  intro d0 hd0 σX σM hRR H locs hPX hPM hS ls hl
  have hts := dr_words hts0 d0
  have hX : va_X b L xs (s.setDrawn d0) s.heap := hX
  obtain ⟨r, σX1, σM1, e1, e2, hRR⟩ := sim_close hSim hRR (xs (i + 1))
  refine lv_aload_n hx hb dL_law_199 rfl (lv_at hl 1 rfl) ?_
  refine lv_aload_n hx hb dL_law_200 rfl (lv_at hl 0 rfl) ?_
  refine lv_iload_n hx hb dL_law_201 rfl (lv_at hl 3 rfl) ?_
  refine lv_iconst (v := nI 1) hx hb dL_law_202 (by decide) ?_
  refine lv_iadd hx hb dL_law_203 ?_
  rw [nI_add i 1]
  refine va_sld hx hb hX hbl hbA hS (vp_in_nI (n := i + 1) (by omega) (by omega)) dL_law_204 ?_
  rw [nI_clamp (n := i + 1) (by omega)]
  refine xl_callVi (As := [.int (xs (i + 1))]) (rest := []) (r := r) (C := RX6) (ci := 6) ⟨hx, hb, hml, hown, hts⟩ 0 (mX6_close l dC dI adX cy hJX σX (xs (i + 1)) (r, σX1) e1) (cwV 1 hts gL_law_X6_close rfl rfl rfl dmX6_close ⟨Nat.le_of_ble_eq_true rfl, Nat.le_of_ble_eq_true rfl⟩) hK hPX hPM (disO hdis) hAX hS (by decide) (LX6_obj adX cy _) rfl rfl rfl hl.1 (Nat.le_of_ble_eq_true rfl) ⟨Nat.le_refl _, Nat.le_refl _⟩ dL_law_205 (fun H locs hPX hPM hS => ?_)
  have hPX : va_P (dC, dI) vwCl (wd 93 adX (layX adX cy) σX1) H := hPX
  refine lv_aload_n hx hb dL_law_208 rfl (lv_at hl 2 rfl) ?_
  refine lv_aload_n hx hb dL_law_209 rfl (lv_at hl 0 rfl) ?_
  refine lv_iload_n hx hb dL_law_210 rfl (lv_at hl 3 rfl) ?_
  refine lv_iconst (v := nI 1) hx hb dL_law_211 (by decide) ?_
  refine lv_iadd hx hb dL_law_212 ?_
  rw [nI_add i 1]
  refine va_sld hx hb hX hbl hbA hS (vp_in_nI (n := i + 1) (by omega) (by omega)) dL_law_213 ?_
  rw [nI_clamp (n := i + 1) (by omega)]
  refine xl_callVi (As := [.int (xs (i + 1))]) (rest := [.int r]) (r := r) (C := RX7) (ci := 7) ⟨hx, hb, hml, hown, hts⟩ 0 (mX7_close l dC dI adM cy hJM σM (xs (i + 1)) (r, σM1) e2) (cwV 1 hts gL_law_X7_close rfl rfl rfl dmX7_close ⟨Nat.le_of_ble_eq_true rfl, Nat.le_of_ble_eq_true rfl⟩) hK hPM hPX (disO' hdis) hAM hS (by decide) (LX7_obj adM cy _) rfl rfl rfl hl.1 (Nat.le_of_ble_eq_true rfl) ⟨Nat.le_refl _, Nat.le_refl _⟩ dL_law_214 (fun H locs hPM hPX hS => ?_)
  have hPM : va_P (dC, dI) vwCl (wd 16 adM (layM adM cy) σM1) H := hPM
  refine lv_icmp_eq (tgt := 966) hx hb dL_law_217 (by decide) (fun _ => ?_) (fun h => absurd rfl h)
  exact nx d0 hd0 σX1 σM1 hRR H locs hPX hPM hS ls hl
set_option maxHeartbeats 8000000 in
set_option maxRecDepth 100000 in
theorem lw_case_open {p : Program} {l : Launch} {e : Env} {s : State} {m : MethodId} {below : List Frame} {meth : Method} {c : Code} {b L : Nat} {xs : Nat → Int32} {dC : Nat → ClassId} {dI : Nat → Nat → Nat} {cy : Nat → ClassId} {adX adM : Nat → Nat} {sa : SA} {R : St → St → Prop} (hL : L ≤ 1536) (C0 : LC p s m meth c b L xs dC dI cy adX adM sa) (hSim : Sim R) {i : Nat} (hi : i + 3 ≤ L) (nx : LN p l e s m below meth c b dC dI cy adX adM R i 966) : LN p l e s m below meth c b dC dI cy adX adM R i 222 := by
  obtain ⟨hx, hb, hml, hown, hts0, hX, hbl, hK, hJX, hJM, hAX, hAM, hdis, hE⟩ := C0
  have hbA : ¬ (fun q : Nat => s.heap.size ≤ q) b := Nat.not_le.mpr hbl
  intro d0 hd0 σX σM hRR H locs hPX hPM hS ls hl
  have hts := dr_words hts0 d0
  have hX : va_X b L xs (s.setDrawn d0) s.heap := hX
  obtain ⟨r, σX1, σM1, e1, e2, hRR⟩ := sim_open hSim hRR (xs (i + 1))
  refine lv_aload_n hx hb dL_law_222 rfl (lv_at hl 1 rfl) ?_
  refine lv_aload_n hx hb dL_law_223 rfl (lv_at hl 0 rfl) ?_
  refine lv_iload_n hx hb dL_law_224 rfl (lv_at hl 3 rfl) ?_
  refine lv_iconst (v := nI 1) hx hb dL_law_225 (by decide) ?_
  refine lv_iadd hx hb dL_law_226 ?_
  rw [nI_add i 1]
  refine va_sld hx hb hX hbl hbA hS (vp_in_nI (n := i + 1) (by omega) (by omega)) dL_law_227 ?_
  rw [nI_clamp (n := i + 1) (by omega)]
  refine xl_callVi (As := [.int (xs (i + 1))]) (rest := []) (r := r) (C := RX6) (ci := 6) ⟨hx, hb, hml, hown, hts⟩ 0 (mX6_open l dC dI adX cy hJX σX (xs (i + 1)) (r, σX1) e1) (cwV 1 hts gL_law_X6_open rfl rfl rfl dmX6_open ⟨Nat.le_of_ble_eq_true rfl, Nat.le_of_ble_eq_true rfl⟩) hK hPX hPM (disO hdis) hAX hS (by decide) (LX6_obj adX cy _) rfl rfl rfl hl.1 (Nat.le_of_ble_eq_true rfl) ⟨Nat.le_refl _, Nat.le_refl _⟩ dL_law_228 (fun H locs hPX hPM hS => ?_)
  have hPX : va_P (dC, dI) vwCl (wd 93 adX (layX adX cy) σX1) H := hPX
  refine lv_aload_n hx hb dL_law_231 rfl (lv_at hl 2 rfl) ?_
  refine lv_aload_n hx hb dL_law_232 rfl (lv_at hl 0 rfl) ?_
  refine lv_iload_n hx hb dL_law_233 rfl (lv_at hl 3 rfl) ?_
  refine lv_iconst (v := nI 1) hx hb dL_law_234 (by decide) ?_
  refine lv_iadd hx hb dL_law_235 ?_
  rw [nI_add i 1]
  refine va_sld hx hb hX hbl hbA hS (vp_in_nI (n := i + 1) (by omega) (by omega)) dL_law_236 ?_
  rw [nI_clamp (n := i + 1) (by omega)]
  refine xl_callVi (As := [.int (xs (i + 1))]) (rest := [.int r]) (r := r) (C := RX7) (ci := 7) ⟨hx, hb, hml, hown, hts⟩ 0 (mX7_open l dC dI adM cy hJM σM (xs (i + 1)) (r, σM1) e2) (cwV 1 hts gL_law_X7_open rfl rfl rfl dmX7_open ⟨Nat.le_of_ble_eq_true rfl, Nat.le_of_ble_eq_true rfl⟩) hK hPM hPX (disO' hdis) hAM hS (by decide) (LX7_obj adM cy _) rfl rfl rfl hl.1 (Nat.le_of_ble_eq_true rfl) ⟨Nat.le_refl _, Nat.le_refl _⟩ dL_law_237 (fun H locs hPM hPX hS => ?_)
  have hPM : va_P (dC, dI) vwCl (wd 16 adM (layM adM cy) σM1) H := hPM
  refine lv_icmp_eq (tgt := 966) hx hb dL_law_240 (by decide) (fun _ => ?_) (fun h => absurd rfl h)
  exact nx d0 hd0 σX1 σM1 hRR H locs hPX hPM hS ls hl
set_option maxHeartbeats 8000000 in
set_option maxRecDepth 100000 in
theorem lw_case_weigh {p : Program} {l : Launch} {e : Env} {s : State} {m : MethodId} {below : List Frame} {meth : Method} {c : Code} {b L : Nat} {xs : Nat → Int32} {dC : Nat → ClassId} {dI : Nat → Nat → Nat} {cy : Nat → ClassId} {adX adM : Nat → Nat} {sa : SA} {R : St → St → Prop} (hL : L ≤ 1536) (C0 : LC p s m meth c b L xs dC dI cy adX adM sa) (hSim : Sim R) {i : Nat} (hi : i + 3 ≤ L) (nx : LN p l e s m below meth c b dC dI cy adX adM R i 966) : LN p l e s m below meth c b dC dI cy adX adM R i 245 := by
  obtain ⟨hx, hb, hml, hown, hts0, hX, hbl, hK, hJX, hJM, hAX, hAM, hdis, hE⟩ := C0
  have hbA : ¬ (fun q : Nat => s.heap.size ≤ q) b := Nat.not_le.mpr hbl
  intro d0 hd0 σX σM hRR H locs hPX hPM hS ls hl
  have hts := dr_words hts0 d0
  have hX : va_X b L xs (s.setDrawn d0) s.heap := hX
  obtain ⟨r, σX1, σM1, e1, e2, hRR⟩ := sim_weigh hSim hRR (xs (i + 1)) (xs (i + 2))
  refine lv_aload_n hx hb dL_law_245 rfl (lv_at hl 1 rfl) ?_
  refine lv_aload_n hx hb dL_law_246 rfl (lv_at hl 0 rfl) ?_
  refine lv_iload_n hx hb dL_law_247 rfl (lv_at hl 3 rfl) ?_
  refine lv_iconst (v := nI 1) hx hb dL_law_248 (by decide) ?_
  refine lv_iadd hx hb dL_law_249 ?_
  rw [nI_add i 1]
  refine va_sld hx hb hX hbl hbA hS (vp_in_nI (n := i + 1) (by omega) (by omega)) dL_law_250 ?_
  rw [nI_clamp (n := i + 1) (by omega)]
  refine lv_aload_n hx hb dL_law_251 rfl (lv_at hl 0 rfl) ?_
  refine lv_iload_n hx hb dL_law_252 rfl (lv_at hl 3 rfl) ?_
  refine lv_iconst (v := nI 2) hx hb dL_law_253 (by decide) ?_
  refine lv_iadd hx hb dL_law_254 ?_
  rw [nI_add i 2]
  refine va_sld hx hb hX hbl hbA hS (vp_in_nI (n := i + 2) (by omega) (by omega)) dL_law_255 ?_
  rw [nI_clamp (n := i + 2) (by omega)]
  refine xl_callVi (As := [.int (xs (i + 1)), .int (xs (i + 2))]) (rest := []) (r := r) (C := RX6) (ci := 6) ⟨hx, hb, hml, hown, hts⟩ 0 (mX6_weigh l dC dI adX cy hJX σX (xs (i + 1)) (xs (i + 2)) (r, σX1) e1) (cwV 2 hts gL_law_X6_weigh rfl rfl rfl dmX6_weigh ⟨Nat.le_of_ble_eq_true rfl, Nat.le_of_ble_eq_true rfl⟩) hK hPX hPM (disO hdis) hAX hS (by decide) (LX6_obj adX cy _) rfl rfl rfl hl.1 (Nat.le_of_ble_eq_true rfl) ⟨Nat.le_refl _, Nat.le_refl _⟩ dL_law_256 (fun H locs hPX hPM hS => ?_)
  have hPX : va_P (dC, dI) vwCl (wd 93 adX (layX adX cy) σX1) H := hPX
  refine lv_aload_n hx hb dL_law_259 rfl (lv_at hl 2 rfl) ?_
  refine lv_aload_n hx hb dL_law_260 rfl (lv_at hl 0 rfl) ?_
  refine lv_iload_n hx hb dL_law_261 rfl (lv_at hl 3 rfl) ?_
  refine lv_iconst (v := nI 1) hx hb dL_law_262 (by decide) ?_
  refine lv_iadd hx hb dL_law_263 ?_
  rw [nI_add i 1]
  refine va_sld hx hb hX hbl hbA hS (vp_in_nI (n := i + 1) (by omega) (by omega)) dL_law_264 ?_
  rw [nI_clamp (n := i + 1) (by omega)]
  refine lv_aload_n hx hb dL_law_265 rfl (lv_at hl 0 rfl) ?_
  refine lv_iload_n hx hb dL_law_266 rfl (lv_at hl 3 rfl) ?_
  refine lv_iconst (v := nI 2) hx hb dL_law_267 (by decide) ?_
  refine lv_iadd hx hb dL_law_268 ?_
  rw [nI_add i 2]
  refine va_sld hx hb hX hbl hbA hS (vp_in_nI (n := i + 2) (by omega) (by omega)) dL_law_269 ?_
  rw [nI_clamp (n := i + 2) (by omega)]
  refine xl_callVi (As := [.int (xs (i + 1)), .int (xs (i + 2))]) (rest := [.int r]) (r := r) (C := RX7) (ci := 7) ⟨hx, hb, hml, hown, hts⟩ 0 (mX7_weigh l dC dI adM cy hJM σM (xs (i + 1)) (xs (i + 2)) (r, σM1) e2) (cwV 2 hts gL_law_X7_weigh rfl rfl rfl dmX7_weigh ⟨Nat.le_of_ble_eq_true rfl, Nat.le_of_ble_eq_true rfl⟩) hK hPM hPX (disO' hdis) hAM hS (by decide) (LX7_obj adM cy _) rfl rfl rfl hl.1 (Nat.le_of_ble_eq_true rfl) ⟨Nat.le_refl _, Nat.le_refl _⟩ dL_law_270 (fun H locs hPM hPX hS => ?_)
  have hPM : va_P (dC, dI) vwCl (wd 16 adM (layM adM cy) σM1) H := hPM
  refine lv_icmp_eq (tgt := 966) hx hb dL_law_273 (by decide) (fun _ => ?_) (fun h => absurd rfl h)
  exact nx d0 hd0 σX1 σM1 hRR H locs hPX hPM hS ls hl
set_option maxHeartbeats 8000000 in
set_option maxRecDepth 100000 in
theorem lw_case_berth {p : Program} {l : Launch} {e : Env} {s : State} {m : MethodId} {below : List Frame} {meth : Method} {c : Code} {b L : Nat} {xs : Nat → Int32} {dC : Nat → ClassId} {dI : Nat → Nat → Nat} {cy : Nat → ClassId} {adX adM : Nat → Nat} {sa : SA} {R : St → St → Prop} (hL : L ≤ 1536) (C0 : LC p s m meth c b L xs dC dI cy adX adM sa) (hSim : Sim R) {i : Nat} (hi : i + 3 ≤ L) (nx : LN p l e s m below meth c b dC dI cy adX adM R i 966) : LN p l e s m below meth c b dC dI cy adX adM R i 278 := by
  obtain ⟨hx, hb, hml, hown, hts0, hX, hbl, hK, hJX, hJM, hAX, hAM, hdis, hE⟩ := C0
  have hbA : ¬ (fun q : Nat => s.heap.size ≤ q) b := Nat.not_le.mpr hbl
  intro d0 hd0 σX σM hRR H locs hPX hPM hS ls hl
  have hts := dr_words hts0 d0
  have hX : va_X b L xs (s.setDrawn d0) s.heap := hX
  obtain ⟨r, σX1, σM1, e1, e2, hRR⟩ := sim_berth hSim hRR (xs (i + 1))
  refine lv_aload_n hx hb dL_law_278 rfl (lv_at hl 1 rfl) ?_
  refine lv_aload_n hx hb dL_law_279 rfl (lv_at hl 0 rfl) ?_
  refine lv_iload_n hx hb dL_law_280 rfl (lv_at hl 3 rfl) ?_
  refine lv_iconst (v := nI 1) hx hb dL_law_281 (by decide) ?_
  refine lv_iadd hx hb dL_law_282 ?_
  rw [nI_add i 1]
  refine va_sld hx hb hX hbl hbA hS (vp_in_nI (n := i + 1) (by omega) (by omega)) dL_law_283 ?_
  rw [nI_clamp (n := i + 1) (by omega)]
  refine xl_callVi (As := [.int (xs (i + 1))]) (rest := []) (r := r) (C := RX6) (ci := 6) ⟨hx, hb, hml, hown, hts⟩ 0 (mX6_berth l dC dI adX cy hJX σX (xs (i + 1)) (r, σX1) e1) (cwV 1 hts gL_law_X6_berth rfl rfl rfl dmX6_berth ⟨Nat.le_of_ble_eq_true rfl, Nat.le_of_ble_eq_true rfl⟩) hK hPX hPM (disO hdis) hAX hS (by decide) (LX6_obj adX cy _) rfl rfl rfl hl.1 (Nat.le_of_ble_eq_true rfl) ⟨Nat.le_refl _, Nat.le_refl _⟩ dL_law_284 (fun H locs hPX hPM hS => ?_)
  have hPX : va_P (dC, dI) vwCl (wd 93 adX (layX adX cy) σX1) H := hPX
  refine lv_aload_n hx hb dL_law_287 rfl (lv_at hl 2 rfl) ?_
  refine lv_aload_n hx hb dL_law_288 rfl (lv_at hl 0 rfl) ?_
  refine lv_iload_n hx hb dL_law_289 rfl (lv_at hl 3 rfl) ?_
  refine lv_iconst (v := nI 1) hx hb dL_law_290 (by decide) ?_
  refine lv_iadd hx hb dL_law_291 ?_
  rw [nI_add i 1]
  refine va_sld hx hb hX hbl hbA hS (vp_in_nI (n := i + 1) (by omega) (by omega)) dL_law_292 ?_
  rw [nI_clamp (n := i + 1) (by omega)]
  refine xl_callVi (As := [.int (xs (i + 1))]) (rest := [.int r]) (r := r) (C := RX7) (ci := 7) ⟨hx, hb, hml, hown, hts⟩ 0 (mX7_berth l dC dI adM cy hJM σM (xs (i + 1)) (r, σM1) e2) (cwV 1 hts gL_law_X7_berth rfl rfl rfl dmX7_berth ⟨Nat.le_of_ble_eq_true rfl, Nat.le_of_ble_eq_true rfl⟩) hK hPM hPX (disO' hdis) hAM hS (by decide) (LX7_obj adM cy _) rfl rfl rfl hl.1 (Nat.le_of_ble_eq_true rfl) ⟨Nat.le_refl _, Nat.le_refl _⟩ dL_law_293 (fun H locs hPM hPX hS => ?_)
  have hPM : va_P (dC, dI) vwCl (wd 16 adM (layM adM cy) σM1) H := hPM
  refine lv_icmp_eq (tgt := 966) hx hb dL_law_296 (by decide) (fun _ => ?_) (fun h => absurd rfl h)
  exact nx d0 hd0 σX1 σM1 hRR H locs hPX hPM hS ls hl
set_option maxHeartbeats 8000000 in
set_option maxRecDepth 100000 in
theorem lw_case_pierOf {p : Program} {l : Launch} {e : Env} {s : State} {m : MethodId} {below : List Frame} {meth : Method} {c : Code} {b L : Nat} {xs : Nat → Int32} {dC : Nat → ClassId} {dI : Nat → Nat → Nat} {cy : Nat → ClassId} {adX adM : Nat → Nat} {sa : SA} {R : St → St → Prop} (hL : L ≤ 1536) (C0 : LC p s m meth c b L xs dC dI cy adX adM sa) (hSim : Sim R) {i : Nat} (hi : i + 3 ≤ L) (nx : LN p l e s m below meth c b dC dI cy adX adM R i 966) : LN p l e s m below meth c b dC dI cy adX adM R i 301 := by
  obtain ⟨hx, hb, hml, hown, hts0, hX, hbl, hK, hJX, hJM, hAX, hAM, hdis, hE⟩ := C0
  have hbA : ¬ (fun q : Nat => s.heap.size ≤ q) b := Nat.not_le.mpr hbl
  intro d0 hd0 σX σM hRR H locs hPX hPM hS ls hl
  have hts := dr_words hts0 d0
  have hX : va_X b L xs (s.setDrawn d0) s.heap := hX
  obtain ⟨r, σM1, e1, e2, hRR⟩ := sim_pierOf hSim hRR (xs (i + 1)) (xs (i + 2))
  refine lv_aload_n hx hb dL_law_301 rfl (lv_at hl 1 rfl) ?_
  refine lv_aload_n hx hb dL_law_302 rfl (lv_at hl 0 rfl) ?_
  refine lv_iload_n hx hb dL_law_303 rfl (lv_at hl 3 rfl) ?_
  refine lv_iconst (v := nI 1) hx hb dL_law_304 (by decide) ?_
  refine lv_iadd hx hb dL_law_305 ?_
  rw [nI_add i 1]
  refine va_sld hx hb hX hbl hbA hS (vp_in_nI (n := i + 1) (by omega) (by omega)) dL_law_306 ?_
  rw [nI_clamp (n := i + 1) (by omega)]
  refine lv_aload_n hx hb dL_law_307 rfl (lv_at hl 0 rfl) ?_
  refine lv_iload_n hx hb dL_law_308 rfl (lv_at hl 3 rfl) ?_
  refine lv_iconst (v := nI 2) hx hb dL_law_309 (by decide) ?_
  refine lv_iadd hx hb dL_law_310 ?_
  rw [nI_add i 2]
  refine va_sld hx hb hX hbl hbA hS (vp_in_nI (n := i + 2) (by omega) (by omega)) dL_law_311 ?_
  rw [nI_clamp (n := i + 2) (by omega)]
  refine xl_callVi (As := [.int (xs (i + 1)), .int (xs (i + 2))]) (rest := []) (r := r) (C := RX6) (ci := 6) ⟨hx, hb, hml, hown, hts⟩ 0 (mX6_pierOf l dC dI adX cy hJX σX (xs (i + 1)) (xs (i + 2)) r e1) (cwV 2 hts gL_law_X6_pierOf rfl rfl rfl dmX6_pierOf ⟨Nat.le_of_ble_eq_true rfl, Nat.le_of_ble_eq_true rfl⟩) hK hPX hPM (disO hdis) hAX hS (by decide) (LX6_obj adX cy _) rfl rfl rfl hl.1 (Nat.le_of_ble_eq_true rfl) ⟨Nat.le_refl _, Nat.le_refl _⟩ dL_law_312 (fun H locs hPX hPM hS => ?_)
  refine lv_aload_n hx hb dL_law_315 rfl (lv_at hl 2 rfl) ?_
  refine lv_aload_n hx hb dL_law_316 rfl (lv_at hl 0 rfl) ?_
  refine lv_iload_n hx hb dL_law_317 rfl (lv_at hl 3 rfl) ?_
  refine lv_iconst (v := nI 1) hx hb dL_law_318 (by decide) ?_
  refine lv_iadd hx hb dL_law_319 ?_
  rw [nI_add i 1]
  refine va_sld hx hb hX hbl hbA hS (vp_in_nI (n := i + 1) (by omega) (by omega)) dL_law_320 ?_
  rw [nI_clamp (n := i + 1) (by omega)]
  refine lv_aload_n hx hb dL_law_321 rfl (lv_at hl 0 rfl) ?_
  refine lv_iload_n hx hb dL_law_322 rfl (lv_at hl 3 rfl) ?_
  refine lv_iconst (v := nI 2) hx hb dL_law_323 (by decide) ?_
  refine lv_iadd hx hb dL_law_324 ?_
  rw [nI_add i 2]
  refine va_sld hx hb hX hbl hbA hS (vp_in_nI (n := i + 2) (by omega) (by omega)) dL_law_325 ?_
  rw [nI_clamp (n := i + 2) (by omega)]
  refine xl_callVi (As := [.int (xs (i + 1)), .int (xs (i + 2))]) (rest := [.int r]) (r := r) (C := RX7) (ci := 7) ⟨hx, hb, hml, hown, hts⟩ 0 (mX7_pierOf l dC dI adM cy hJM σM (xs (i + 1)) (xs (i + 2)) (r, σM1) e2) (cwV 2 hts gL_law_X7_pierOf rfl rfl rfl dmX7_pierOf ⟨Nat.le_of_ble_eq_true rfl, Nat.le_of_ble_eq_true rfl⟩) hK hPM hPX (disO' hdis) hAM hS (by decide) (LX7_obj adM cy _) rfl rfl rfl hl.1 (Nat.le_of_ble_eq_true rfl) ⟨Nat.le_refl _, Nat.le_refl _⟩ dL_law_326 (fun H locs hPM hPX hS => ?_)
  have hPM : va_P (dC, dI) vwCl (wd 16 adM (layM adM cy) σM1) H := hPM
  refine lv_icmp_eq (tgt := 966) hx hb dL_law_329 (by decide) (fun _ => ?_) (fun h => absurd rfl h)
  exact nx d0 hd0 σX σM1 hRR H locs hPX hPM hS ls hl
set_option maxHeartbeats 8000000 in
set_option maxRecDepth 100000 in
theorem lw_case_neighbours {p : Program} {l : Launch} {e : Env} {s : State} {m : MethodId} {below : List Frame} {meth : Method} {c : Code} {b L : Nat} {xs : Nat → Int32} {dC : Nat → ClassId} {dI : Nat → Nat → Nat} {cy : Nat → ClassId} {adX adM : Nat → Nat} {sa : SA} {R : St → St → Prop} (hL : L ≤ 1536) (C0 : LC p s m meth c b L xs dC dI cy adX adM sa) (hSim : Sim R) {i : Nat} (hi : i + 3 ≤ L) (nx : LN p l e s m below meth c b dC dI cy adX adM R i 966) : LN p l e s m below meth c b dC dI cy adX adM R i 334 := by
  obtain ⟨hx, hb, hml, hown, hts0, hX, hbl, hK, hJX, hJM, hAX, hAM, hdis, hE⟩ := C0
  have hbA : ¬ (fun q : Nat => s.heap.size ≤ q) b := Nat.not_le.mpr hbl
  intro d0 hd0 σX σM hRR H locs hPX hPM hS ls hl
  have hts := dr_words hts0 d0
  have hX : va_X b L xs (s.setDrawn d0) s.heap := hX
  obtain ⟨r, σM1, e1, e2, hRR⟩ := sim_neighbours hSim hRR (xs (i + 1))
  refine lv_aload_n hx hb dL_law_334 rfl (lv_at hl 1 rfl) ?_
  refine lv_aload_n hx hb dL_law_335 rfl (lv_at hl 0 rfl) ?_
  refine lv_iload_n hx hb dL_law_336 rfl (lv_at hl 3 rfl) ?_
  refine lv_iconst (v := nI 1) hx hb dL_law_337 (by decide) ?_
  refine lv_iadd hx hb dL_law_338 ?_
  rw [nI_add i 1]
  refine va_sld hx hb hX hbl hbA hS (vp_in_nI (n := i + 1) (by omega) (by omega)) dL_law_339 ?_
  rw [nI_clamp (n := i + 1) (by omega)]
  refine xl_callVi (As := [.int (xs (i + 1))]) (rest := []) (r := r) (C := RX6) (ci := 6) ⟨hx, hb, hml, hown, hts⟩ 0 (mX6_neighbours l dC dI adX cy hJX σX (xs (i + 1)) r e1) (cwV 1 hts gL_law_X6_neighbours rfl rfl rfl dmX6_neighbours ⟨Nat.le_of_ble_eq_true rfl, Nat.le_of_ble_eq_true rfl⟩) hK hPX hPM (disO hdis) hAX hS (by decide) (LX6_obj adX cy _) rfl rfl rfl hl.1 (Nat.le_of_ble_eq_true rfl) ⟨Nat.le_refl _, Nat.le_refl _⟩ dL_law_340 (fun H locs hPX hPM hS => ?_)
  refine lv_aload_n hx hb dL_law_343 rfl (lv_at hl 2 rfl) ?_
  refine lv_aload_n hx hb dL_law_344 rfl (lv_at hl 0 rfl) ?_
  refine lv_iload_n hx hb dL_law_345 rfl (lv_at hl 3 rfl) ?_
  refine lv_iconst (v := nI 1) hx hb dL_law_346 (by decide) ?_
  refine lv_iadd hx hb dL_law_347 ?_
  rw [nI_add i 1]
  refine va_sld hx hb hX hbl hbA hS (vp_in_nI (n := i + 1) (by omega) (by omega)) dL_law_348 ?_
  rw [nI_clamp (n := i + 1) (by omega)]
  refine xl_callVi (As := [.int (xs (i + 1))]) (rest := [.int r]) (r := r) (C := RX7) (ci := 7) ⟨hx, hb, hml, hown, hts⟩ 0 (mX7_neighbours l dC dI adM cy hJM σM (xs (i + 1)) (r, σM1) e2) (cwV 1 hts gL_law_X7_neighbours rfl rfl rfl dmX7_neighbours ⟨Nat.le_of_ble_eq_true rfl, Nat.le_of_ble_eq_true rfl⟩) hK hPM hPX (disO' hdis) hAM hS (by decide) (LX7_obj adM cy _) rfl rfl rfl hl.1 (Nat.le_of_ble_eq_true rfl) ⟨Nat.le_refl _, Nat.le_refl _⟩ dL_law_349 (fun H locs hPM hPX hS => ?_)
  have hPM : va_P (dC, dI) vwCl (wd 16 adM (layM adM cy) σM1) H := hPM
  refine lv_icmp_eq (tgt := 966) hx hb dL_law_352 (by decide) (fun _ => ?_) (fun h => absurd rfl h)
  exact nx d0 hd0 σX σM1 hRR H locs hPX hPM hS ls hl
set_option maxHeartbeats 8000000 in
set_option maxRecDepth 100000 in
theorem lw_case_barge {p : Program} {l : Launch} {e : Env} {s : State} {m : MethodId} {below : List Frame} {meth : Method} {c : Code} {b L : Nat} {xs : Nat → Int32} {dC : Nat → ClassId} {dI : Nat → Nat → Nat} {cy : Nat → ClassId} {adX adM : Nat → Nat} {sa : SA} {R : St → St → Prop} (hL : L ≤ 1536) (C0 : LC p s m meth c b L xs dC dI cy adX adM sa) (hSim : Sim R) {i : Nat} (hi : i + 3 ≤ L) (nx : LN p l e s m below meth c b dC dI cy adX adM R i 966) : LN p l e s m below meth c b dC dI cy adX adM R i 357 := by
  obtain ⟨hx, hb, hml, hown, hts0, hX, hbl, hK, hJX, hJM, hAX, hAM, hdis, hE⟩ := C0
  have hbA : ¬ (fun q : Nat => s.heap.size ≤ q) b := Nat.not_le.mpr hbl
  intro d0 hd0 σX σM hRR H locs hPX hPM hS ls hl
  have hts := dr_words hts0 d0
  have hX : va_X b L xs (s.setDrawn d0) s.heap := hX
  obtain ⟨r, σX1, σM1, e1, e2, hRR⟩ := sim_barge hSim hRR (xs (i + 1)) (xs (i + 2))
  refine lv_aload_n hx hb dL_law_357 rfl (lv_at hl 1 rfl) ?_
  refine lv_aload_n hx hb dL_law_358 rfl (lv_at hl 0 rfl) ?_
  refine lv_iload_n hx hb dL_law_359 rfl (lv_at hl 3 rfl) ?_
  refine lv_iconst (v := nI 1) hx hb dL_law_360 (by decide) ?_
  refine lv_iadd hx hb dL_law_361 ?_
  rw [nI_add i 1]
  refine va_sld hx hb hX hbl hbA hS (vp_in_nI (n := i + 1) (by omega) (by omega)) dL_law_362 ?_
  rw [nI_clamp (n := i + 1) (by omega)]
  refine lv_aload_n hx hb dL_law_363 rfl (lv_at hl 0 rfl) ?_
  refine lv_iload_n hx hb dL_law_364 rfl (lv_at hl 3 rfl) ?_
  refine lv_iconst (v := nI 2) hx hb dL_law_365 (by decide) ?_
  refine lv_iadd hx hb dL_law_366 ?_
  rw [nI_add i 2]
  refine va_sld hx hb hX hbl hbA hS (vp_in_nI (n := i + 2) (by omega) (by omega)) dL_law_367 ?_
  rw [nI_clamp (n := i + 2) (by omega)]
  refine xl_callVi (As := [.int (xs (i + 1)), .int (xs (i + 2))]) (rest := []) (r := r) (C := RX6) (ci := 6) ⟨hx, hb, hml, hown, hts⟩ 0 (mX6_barge l dC dI adX cy hJX σX (xs (i + 1)) (xs (i + 2)) (r, σX1) e1) (cwV 2 hts gL_law_X6_barge rfl rfl rfl dmX6_barge ⟨Nat.le_of_ble_eq_true rfl, Nat.le_of_ble_eq_true rfl⟩) hK hPX hPM (disO hdis) hAX hS (by decide) (LX6_obj adX cy _) rfl rfl rfl hl.1 (Nat.le_of_ble_eq_true rfl) ⟨Nat.le_refl _, Nat.le_refl _⟩ dL_law_368 (fun H locs hPX hPM hS => ?_)
  have hPX : va_P (dC, dI) vwCl (wd 93 adX (layX adX cy) σX1) H := hPX
  refine lv_aload_n hx hb dL_law_371 rfl (lv_at hl 2 rfl) ?_
  refine lv_aload_n hx hb dL_law_372 rfl (lv_at hl 0 rfl) ?_
  refine lv_iload_n hx hb dL_law_373 rfl (lv_at hl 3 rfl) ?_
  refine lv_iconst (v := nI 1) hx hb dL_law_374 (by decide) ?_
  refine lv_iadd hx hb dL_law_375 ?_
  rw [nI_add i 1]
  refine va_sld hx hb hX hbl hbA hS (vp_in_nI (n := i + 1) (by omega) (by omega)) dL_law_376 ?_
  rw [nI_clamp (n := i + 1) (by omega)]
  refine lv_aload_n hx hb dL_law_377 rfl (lv_at hl 0 rfl) ?_
  refine lv_iload_n hx hb dL_law_378 rfl (lv_at hl 3 rfl) ?_
  refine lv_iconst (v := nI 2) hx hb dL_law_379 (by decide) ?_
  refine lv_iadd hx hb dL_law_380 ?_
  rw [nI_add i 2]
  refine va_sld hx hb hX hbl hbA hS (vp_in_nI (n := i + 2) (by omega) (by omega)) dL_law_381 ?_
  rw [nI_clamp (n := i + 2) (by omega)]
  refine xl_callVi (As := [.int (xs (i + 1)), .int (xs (i + 2))]) (rest := [.int r]) (r := r) (C := RX7) (ci := 7) ⟨hx, hb, hml, hown, hts⟩ 0 (mX7_barge l dC dI adM cy hJM σM (xs (i + 1)) (xs (i + 2)) (r, σM1) e2) (cwV 2 hts gL_law_X7_barge rfl rfl rfl dmX7_barge ⟨Nat.le_of_ble_eq_true rfl, Nat.le_of_ble_eq_true rfl⟩) hK hPM hPX (disO' hdis) hAM hS (by decide) (LX7_obj adM cy _) rfl rfl rfl hl.1 (Nat.le_of_ble_eq_true rfl) ⟨Nat.le_refl _, Nat.le_refl _⟩ dL_law_382 (fun H locs hPM hPX hS => ?_)
  have hPM : va_P (dC, dI) vwCl (wd 16 adM (layM adM cy) σM1) H := hPM
  refine lv_icmp_eq (tgt := 966) hx hb dL_law_385 (by decide) (fun _ => ?_) (fun h => absurd rfl h)
  exact nx d0 hd0 σX1 σM1 hRR H locs hPX hPM hS ls hl
set_option maxHeartbeats 8000000 in
set_option maxRecDepth 100000 in
theorem lw_case_leave {p : Program} {l : Launch} {e : Env} {s : State} {m : MethodId} {below : List Frame} {meth : Method} {c : Code} {b L : Nat} {xs : Nat → Int32} {dC : Nat → ClassId} {dI : Nat → Nat → Nat} {cy : Nat → ClassId} {adX adM : Nat → Nat} {sa : SA} {R : St → St → Prop} (hL : L ≤ 1536) (C0 : LC p s m meth c b L xs dC dI cy adX adM sa) (hSim : Sim R) {i : Nat} (hi : i + 3 ≤ L) (nx : LN p l e s m below meth c b dC dI cy adX adM R i 966) : LN p l e s m below meth c b dC dI cy adX adM R i 390 := by
  obtain ⟨hx, hb, hml, hown, hts0, hX, hbl, hK, hJX, hJM, hAX, hAM, hdis, hE⟩ := C0
  have hbA : ¬ (fun q : Nat => s.heap.size ≤ q) b := Nat.not_le.mpr hbl
  intro d0 hd0 σX σM hRR H locs hPX hPM hS ls hl
  have hts := dr_words hts0 d0
  have hX : va_X b L xs (s.setDrawn d0) s.heap := hX
  obtain ⟨r, σX1, σM1, e1, e2, hRR⟩ := sim_leave hSim hRR (xs (i + 1))
  refine lv_aload_n hx hb dL_law_390 rfl (lv_at hl 1 rfl) ?_
  refine lv_aload_n hx hb dL_law_391 rfl (lv_at hl 0 rfl) ?_
  refine lv_iload_n hx hb dL_law_392 rfl (lv_at hl 3 rfl) ?_
  refine lv_iconst (v := nI 1) hx hb dL_law_393 (by decide) ?_
  refine lv_iadd hx hb dL_law_394 ?_
  rw [nI_add i 1]
  refine va_sld hx hb hX hbl hbA hS (vp_in_nI (n := i + 1) (by omega) (by omega)) dL_law_395 ?_
  rw [nI_clamp (n := i + 1) (by omega)]
  refine xl_callVi (As := [.int (xs (i + 1))]) (rest := []) (r := r) (C := RX6) (ci := 6) ⟨hx, hb, hml, hown, hts⟩ 0 (mX6_leave l dC dI adX cy hJX σX (xs (i + 1)) (r, σX1) e1) (cwV 1 hts gL_law_X6_leave rfl rfl rfl dmX6_leave ⟨Nat.le_of_ble_eq_true rfl, Nat.le_of_ble_eq_true rfl⟩) hK hPX hPM (disO hdis) hAX hS (by decide) (LX6_obj adX cy _) rfl rfl rfl hl.1 (Nat.le_of_ble_eq_true rfl) ⟨Nat.le_refl _, Nat.le_refl _⟩ dL_law_396 (fun H locs hPX hPM hS => ?_)
  have hPX : va_P (dC, dI) vwCl (wd 93 adX (layX adX cy) σX1) H := hPX
  refine lv_aload_n hx hb dL_law_399 rfl (lv_at hl 2 rfl) ?_
  refine lv_aload_n hx hb dL_law_400 rfl (lv_at hl 0 rfl) ?_
  refine lv_iload_n hx hb dL_law_401 rfl (lv_at hl 3 rfl) ?_
  refine lv_iconst (v := nI 1) hx hb dL_law_402 (by decide) ?_
  refine lv_iadd hx hb dL_law_403 ?_
  rw [nI_add i 1]
  refine va_sld hx hb hX hbl hbA hS (vp_in_nI (n := i + 1) (by omega) (by omega)) dL_law_404 ?_
  rw [nI_clamp (n := i + 1) (by omega)]
  refine xl_callVi (As := [.int (xs (i + 1))]) (rest := [.int r]) (r := r) (C := RX7) (ci := 7) ⟨hx, hb, hml, hown, hts⟩ 0 (mX7_leave l dC dI adM cy hJM σM (xs (i + 1)) (r, σM1) e2) (cwV 1 hts gL_law_X7_leave rfl rfl rfl dmX7_leave ⟨Nat.le_of_ble_eq_true rfl, Nat.le_of_ble_eq_true rfl⟩) hK hPM hPX (disO' hdis) hAM hS (by decide) (LX7_obj adM cy _) rfl rfl rfl hl.1 (Nat.le_of_ble_eq_true rfl) ⟨Nat.le_refl _, Nat.le_refl _⟩ dL_law_405 (fun H locs hPM hPX hS => ?_)
  have hPM : va_P (dC, dI) vwCl (wd 16 adM (layM adM cy) σM1) H := hPM
  refine lv_icmp_eq (tgt := 966) hx hb dL_law_408 (by decide) (fun _ => ?_) (fun h => absurd rfl h)
  exact nx d0 hd0 σX1 σM1 hRR H locs hPX hPM hS ls hl
set_option maxHeartbeats 8000000 in
set_option maxRecDepth 100000 in
theorem lw_case_load {p : Program} {l : Launch} {e : Env} {s : State} {m : MethodId} {below : List Frame} {meth : Method} {c : Code} {b L : Nat} {xs : Nat → Int32} {dC : Nat → ClassId} {dI : Nat → Nat → Nat} {cy : Nat → ClassId} {adX adM : Nat → Nat} {sa : SA} {R : St → St → Prop} (hL : L ≤ 1536) (C0 : LC p s m meth c b L xs dC dI cy adX adM sa) (hSim : Sim R) {i : Nat} (hi : i + 3 ≤ L) (nx : LN p l e s m below meth c b dC dI cy adX adM R i 966) : LN p l e s m below meth c b dC dI cy adX adM R i 413 := by
  obtain ⟨hx, hb, hml, hown, hts0, hX, hbl, hK, hJX, hJM, hAX, hAM, hdis, hE⟩ := C0
  have hbA : ¬ (fun q : Nat => s.heap.size ≤ q) b := Nat.not_le.mpr hbl
  intro d0 hd0 σX σM hRR H locs hPX hPM hS ls hl
  have hts := dr_words hts0 d0
  have hX : va_X b L xs (s.setDrawn d0) s.heap := hX
  obtain ⟨r, σX1, σM1, e1, e2, hRR⟩ := sim_load hSim hRR (xs (i + 1)) (xs (i + 2))
  refine lv_aload_n hx hb dL_law_413 rfl (lv_at hl 1 rfl) ?_
  refine lv_aload_n hx hb dL_law_414 rfl (lv_at hl 0 rfl) ?_
  refine lv_iload_n hx hb dL_law_415 rfl (lv_at hl 3 rfl) ?_
  refine lv_iconst (v := nI 1) hx hb dL_law_416 (by decide) ?_
  refine lv_iadd hx hb dL_law_417 ?_
  rw [nI_add i 1]
  refine va_sld hx hb hX hbl hbA hS (vp_in_nI (n := i + 1) (by omega) (by omega)) dL_law_418 ?_
  rw [nI_clamp (n := i + 1) (by omega)]
  refine lv_aload_n hx hb dL_law_419 rfl (lv_at hl 0 rfl) ?_
  refine lv_iload_n hx hb dL_law_420 rfl (lv_at hl 3 rfl) ?_
  refine lv_iconst (v := nI 2) hx hb dL_law_421 (by decide) ?_
  refine lv_iadd hx hb dL_law_422 ?_
  rw [nI_add i 2]
  refine va_sld hx hb hX hbl hbA hS (vp_in_nI (n := i + 2) (by omega) (by omega)) dL_law_423 ?_
  rw [nI_clamp (n := i + 2) (by omega)]
  refine xl_callVi (As := [.int (xs (i + 1)), .int (xs (i + 2))]) (rest := []) (r := r) (C := RX6) (ci := 6) ⟨hx, hb, hml, hown, hts⟩ 0 (mX6_load l dC dI adX cy hJX σX (xs (i + 1)) (xs (i + 2)) (r, σX1) e1) (cwV 2 hts gL_law_X6_load rfl rfl rfl dmX6_load ⟨Nat.le_of_ble_eq_true rfl, Nat.le_of_ble_eq_true rfl⟩) hK hPX hPM (disO hdis) hAX hS (by decide) (LX6_obj adX cy _) rfl rfl rfl hl.1 (Nat.le_of_ble_eq_true rfl) ⟨Nat.le_refl _, Nat.le_refl _⟩ dL_law_424 (fun H locs hPX hPM hS => ?_)
  have hPX : va_P (dC, dI) vwCl (wd 93 adX (layX adX cy) σX1) H := hPX
  refine lv_aload_n hx hb dL_law_427 rfl (lv_at hl 2 rfl) ?_
  refine lv_aload_n hx hb dL_law_428 rfl (lv_at hl 0 rfl) ?_
  refine lv_iload_n hx hb dL_law_429 rfl (lv_at hl 3 rfl) ?_
  refine lv_iconst (v := nI 1) hx hb dL_law_430 (by decide) ?_
  refine lv_iadd hx hb dL_law_431 ?_
  rw [nI_add i 1]
  refine va_sld hx hb hX hbl hbA hS (vp_in_nI (n := i + 1) (by omega) (by omega)) dL_law_432 ?_
  rw [nI_clamp (n := i + 1) (by omega)]
  refine lv_aload_n hx hb dL_law_433 rfl (lv_at hl 0 rfl) ?_
  refine lv_iload_n hx hb dL_law_434 rfl (lv_at hl 3 rfl) ?_
  refine lv_iconst (v := nI 2) hx hb dL_law_435 (by decide) ?_
  refine lv_iadd hx hb dL_law_436 ?_
  rw [nI_add i 2]
  refine va_sld hx hb hX hbl hbA hS (vp_in_nI (n := i + 2) (by omega) (by omega)) dL_law_437 ?_
  rw [nI_clamp (n := i + 2) (by omega)]
  refine xl_callVi (As := [.int (xs (i + 1)), .int (xs (i + 2))]) (rest := [.int r]) (r := r) (C := RX7) (ci := 7) ⟨hx, hb, hml, hown, hts⟩ 0 (mX7_load l dC dI adM cy hJM σM (xs (i + 1)) (xs (i + 2)) (r, σM1) e2) (cwV 2 hts gL_law_X7_load rfl rfl rfl dmX7_load ⟨Nat.le_of_ble_eq_true rfl, Nat.le_of_ble_eq_true rfl⟩) hK hPM hPX (disO' hdis) hAM hS (by decide) (LX7_obj adM cy _) rfl rfl rfl hl.1 (Nat.le_of_ble_eq_true rfl) ⟨Nat.le_refl _, Nat.le_refl _⟩ dL_law_438 (fun H locs hPM hPX hS => ?_)
  have hPM : va_P (dC, dI) vwCl (wd 16 adM (layM adM cy) σM1) H := hPM
  refine lv_icmp_eq (tgt := 966) hx hb dL_law_441 (by decide) (fun _ => ?_) (fun h => absurd rfl h)
  exact nx d0 hd0 σX1 σM1 hRR H locs hPX hPM hS ls hl
set_option maxHeartbeats 8000000 in
set_option maxRecDepth 100000 in
theorem lw_case_bargeOf {p : Program} {l : Launch} {e : Env} {s : State} {m : MethodId} {below : List Frame} {meth : Method} {c : Code} {b L : Nat} {xs : Nat → Int32} {dC : Nat → ClassId} {dI : Nat → Nat → Nat} {cy : Nat → ClassId} {adX adM : Nat → Nat} {sa : SA} {R : St → St → Prop} (hL : L ≤ 1536) (C0 : LC p s m meth c b L xs dC dI cy adX adM sa) (hSim : Sim R) {i : Nat} (hi : i + 3 ≤ L) (nx : LN p l e s m below meth c b dC dI cy adX adM R i 966) : LN p l e s m below meth c b dC dI cy adX adM R i 446 := by
  obtain ⟨hx, hb, hml, hown, hts0, hX, hbl, hK, hJX, hJM, hAX, hAM, hdis, hE⟩ := C0
  have hbA : ¬ (fun q : Nat => s.heap.size ≤ q) b := Nat.not_le.mpr hbl
  intro d0 hd0 σX σM hRR H locs hPX hPM hS ls hl
  have hts := dr_words hts0 d0
  have hX : va_X b L xs (s.setDrawn d0) s.heap := hX
  obtain ⟨r, σM1, e1, e2, hRR⟩ := sim_bargeOf hSim hRR (xs (i + 1)) (xs (i + 2))
  refine lv_aload_n hx hb dL_law_446 rfl (lv_at hl 1 rfl) ?_
  refine lv_aload_n hx hb dL_law_447 rfl (lv_at hl 0 rfl) ?_
  refine lv_iload_n hx hb dL_law_448 rfl (lv_at hl 3 rfl) ?_
  refine lv_iconst (v := nI 1) hx hb dL_law_449 (by decide) ?_
  refine lv_iadd hx hb dL_law_450 ?_
  rw [nI_add i 1]
  refine va_sld hx hb hX hbl hbA hS (vp_in_nI (n := i + 1) (by omega) (by omega)) dL_law_451 ?_
  rw [nI_clamp (n := i + 1) (by omega)]
  refine lv_aload_n hx hb dL_law_452 rfl (lv_at hl 0 rfl) ?_
  refine lv_iload_n hx hb dL_law_453 rfl (lv_at hl 3 rfl) ?_
  refine lv_iconst (v := nI 2) hx hb dL_law_454 (by decide) ?_
  refine lv_iadd hx hb dL_law_455 ?_
  rw [nI_add i 2]
  refine va_sld hx hb hX hbl hbA hS (vp_in_nI (n := i + 2) (by omega) (by omega)) dL_law_456 ?_
  rw [nI_clamp (n := i + 2) (by omega)]
  refine xl_callVi (As := [.int (xs (i + 1)), .int (xs (i + 2))]) (rest := []) (r := r) (C := RX6) (ci := 6) ⟨hx, hb, hml, hown, hts⟩ 0 (mX6_bargeOf l dC dI adX cy hJX σX (xs (i + 1)) (xs (i + 2)) r e1) (cwV 2 hts gL_law_X6_bargeOf rfl rfl rfl dmX6_bargeOf ⟨Nat.le_of_ble_eq_true rfl, Nat.le_of_ble_eq_true rfl⟩) hK hPX hPM (disO hdis) hAX hS (by decide) (LX6_obj adX cy _) rfl rfl rfl hl.1 (Nat.le_of_ble_eq_true rfl) ⟨Nat.le_refl _, Nat.le_refl _⟩ dL_law_457 (fun H locs hPX hPM hS => ?_)
  refine lv_aload_n hx hb dL_law_460 rfl (lv_at hl 2 rfl) ?_
  refine lv_aload_n hx hb dL_law_461 rfl (lv_at hl 0 rfl) ?_
  refine lv_iload_n hx hb dL_law_462 rfl (lv_at hl 3 rfl) ?_
  refine lv_iconst (v := nI 1) hx hb dL_law_463 (by decide) ?_
  refine lv_iadd hx hb dL_law_464 ?_
  rw [nI_add i 1]
  refine va_sld hx hb hX hbl hbA hS (vp_in_nI (n := i + 1) (by omega) (by omega)) dL_law_465 ?_
  rw [nI_clamp (n := i + 1) (by omega)]
  refine lv_aload_n hx hb dL_law_466 rfl (lv_at hl 0 rfl) ?_
  refine lv_iload_n hx hb dL_law_467 rfl (lv_at hl 3 rfl) ?_
  refine lv_iconst (v := nI 2) hx hb dL_law_468 (by decide) ?_
  refine lv_iadd hx hb dL_law_469 ?_
  rw [nI_add i 2]
  refine va_sld hx hb hX hbl hbA hS (vp_in_nI (n := i + 2) (by omega) (by omega)) dL_law_470 ?_
  rw [nI_clamp (n := i + 2) (by omega)]
  refine xl_callVi (As := [.int (xs (i + 1)), .int (xs (i + 2))]) (rest := [.int r]) (r := r) (C := RX7) (ci := 7) ⟨hx, hb, hml, hown, hts⟩ 0 (mX7_bargeOf l dC dI adM cy hJM σM (xs (i + 1)) (xs (i + 2)) (r, σM1) e2) (cwV 2 hts gL_law_X7_bargeOf rfl rfl rfl dmX7_bargeOf ⟨Nat.le_of_ble_eq_true rfl, Nat.le_of_ble_eq_true rfl⟩) hK hPM hPX (disO' hdis) hAM hS (by decide) (LX7_obj adM cy _) rfl rfl rfl hl.1 (Nat.le_of_ble_eq_true rfl) ⟨Nat.le_refl _, Nat.le_refl _⟩ dL_law_471 (fun H locs hPM hPX hS => ?_)
  have hPM : va_P (dC, dI) vwCl (wd 16 adM (layM adM cy) σM1) H := hPM
  refine lv_icmp_eq (tgt := 966) hx hb dL_law_474 (by decide) (fun _ => ?_) (fun h => absurd rfl h)
  exact nx d0 hd0 σX σM1 hRR H locs hPX hPM hS ls hl
set_option maxHeartbeats 8000000 in
set_option maxRecDepth 100000 in
theorem lw_case_home {p : Program} {l : Launch} {e : Env} {s : State} {m : MethodId} {below : List Frame} {meth : Method} {c : Code} {b L : Nat} {xs : Nat → Int32} {dC : Nat → ClassId} {dI : Nat → Nat → Nat} {cy : Nat → ClassId} {adX adM : Nat → Nat} {sa : SA} {R : St → St → Prop} (hL : L ≤ 1536) (C0 : LC p s m meth c b L xs dC dI cy adX adM sa) (hSim : Sim R) {i : Nat} (hi : i + 3 ≤ L) (nx : LN p l e s m below meth c b dC dI cy adX adM R i 966) : LN p l e s m below meth c b dC dI cy adX adM R i 479 := by
  obtain ⟨hx, hb, hml, hown, hts0, hX, hbl, hK, hJX, hJM, hAX, hAM, hdis, hE⟩ := C0
  have hbA : ¬ (fun q : Nat => s.heap.size ≤ q) b := Nat.not_le.mpr hbl
  intro d0 hd0 σX σM hRR H locs hPX hPM hS ls hl
  have hts := dr_words hts0 d0
  have hX : va_X b L xs (s.setDrawn d0) s.heap := hX
  obtain ⟨r, σM1, e1, e2, hRR⟩ := sim_home hSim hRR (xs (i + 1))
  refine lv_aload_n hx hb dL_law_479 rfl (lv_at hl 1 rfl) ?_
  refine lv_aload_n hx hb dL_law_480 rfl (lv_at hl 0 rfl) ?_
  refine lv_iload_n hx hb dL_law_481 rfl (lv_at hl 3 rfl) ?_
  refine lv_iconst (v := nI 1) hx hb dL_law_482 (by decide) ?_
  refine lv_iadd hx hb dL_law_483 ?_
  rw [nI_add i 1]
  refine va_sld hx hb hX hbl hbA hS (vp_in_nI (n := i + 1) (by omega) (by omega)) dL_law_484 ?_
  rw [nI_clamp (n := i + 1) (by omega)]
  refine xl_callVi (As := [.int (xs (i + 1))]) (rest := []) (r := r) (C := RX6) (ci := 6) ⟨hx, hb, hml, hown, hts⟩ 0 (mX6_home l dC dI adX cy hJX σX (xs (i + 1)) r e1) (cwV 1 hts gL_law_X6_home rfl rfl rfl dmX6_home ⟨Nat.le_of_ble_eq_true rfl, Nat.le_of_ble_eq_true rfl⟩) hK hPX hPM (disO hdis) hAX hS (by decide) (LX6_obj adX cy _) rfl rfl rfl hl.1 (Nat.le_of_ble_eq_true rfl) ⟨Nat.le_refl _, Nat.le_refl _⟩ dL_law_485 (fun H locs hPX hPM hS => ?_)
  refine lv_aload_n hx hb dL_law_488 rfl (lv_at hl 2 rfl) ?_
  refine lv_aload_n hx hb dL_law_489 rfl (lv_at hl 0 rfl) ?_
  refine lv_iload_n hx hb dL_law_490 rfl (lv_at hl 3 rfl) ?_
  refine lv_iconst (v := nI 1) hx hb dL_law_491 (by decide) ?_
  refine lv_iadd hx hb dL_law_492 ?_
  rw [nI_add i 1]
  refine va_sld hx hb hX hbl hbA hS (vp_in_nI (n := i + 1) (by omega) (by omega)) dL_law_493 ?_
  rw [nI_clamp (n := i + 1) (by omega)]
  refine xl_callVi (As := [.int (xs (i + 1))]) (rest := [.int r]) (r := r) (C := RX7) (ci := 7) ⟨hx, hb, hml, hown, hts⟩ 0 (mX7_home l dC dI adM cy hJM σM (xs (i + 1)) (r, σM1) e2) (cwV 1 hts gL_law_X7_home rfl rfl rfl dmX7_home ⟨Nat.le_of_ble_eq_true rfl, Nat.le_of_ble_eq_true rfl⟩) hK hPM hPX (disO' hdis) hAM hS (by decide) (LX7_obj adM cy _) rfl rfl rfl hl.1 (Nat.le_of_ble_eq_true rfl) ⟨Nat.le_refl _, Nat.le_refl _⟩ dL_law_494 (fun H locs hPM hPX hS => ?_)
  have hPM : va_P (dC, dI) vwCl (wd 16 adM (layM adM cy) σM1) H := hPM
  refine lv_icmp_eq (tgt := 966) hx hb dL_law_497 (by decide) (fun _ => ?_) (fun h => absurd rfl h)
  exact nx d0 hd0 σX σM1 hRR H locs hPX hPM hS ls hl
set_option maxHeartbeats 8000000 in
set_option maxRecDepth 100000 in
theorem lw_case_homeAgain {p : Program} {l : Launch} {e : Env} {s : State} {m : MethodId} {below : List Frame} {meth : Method} {c : Code} {b L : Nat} {xs : Nat → Int32} {dC : Nat → ClassId} {dI : Nat → Nat → Nat} {cy : Nat → ClassId} {adX adM : Nat → Nat} {sa : SA} {R : St → St → Prop} (hL : L ≤ 1536) (C0 : LC p s m meth c b L xs dC dI cy adX adM sa) (hSim : Sim R) {i : Nat} (hi : i + 3 ≤ L) (nx : LN p l e s m below meth c b dC dI cy adX adM R i 966) : LN p l e s m below meth c b dC dI cy adX adM R i 502 := by
  obtain ⟨hx, hb, hml, hown, hts0, hX, hbl, hK, hJX, hJM, hAX, hAM, hdis, hE⟩ := C0
  have hbA : ¬ (fun q : Nat => s.heap.size ≤ q) b := Nat.not_le.mpr hbl
  intro d0 hd0 σX σM hRR H locs hPX hPM hS ls hl
  have hts := dr_words hts0 d0
  have hX : va_X b L xs (s.setDrawn d0) s.heap := hX
  obtain ⟨r, σM1, e1, e2, hRR⟩ := sim_homeAgain hSim hRR (xs (i + 1))
  refine lv_aload_n hx hb dL_law_502 rfl (lv_at hl 1 rfl) ?_
  refine lv_aload_n hx hb dL_law_503 rfl (lv_at hl 0 rfl) ?_
  refine lv_iload_n hx hb dL_law_504 rfl (lv_at hl 3 rfl) ?_
  refine lv_iconst (v := nI 1) hx hb dL_law_505 (by decide) ?_
  refine lv_iadd hx hb dL_law_506 ?_
  rw [nI_add i 1]
  refine va_sld hx hb hX hbl hbA hS (vp_in_nI (n := i + 1) (by omega) (by omega)) dL_law_507 ?_
  rw [nI_clamp (n := i + 1) (by omega)]
  refine xl_callVi (As := [.int (xs (i + 1))]) (rest := []) (r := r) (C := RX6) (ci := 6) ⟨hx, hb, hml, hown, hts⟩ 0 (mX6_homeAgain l dC dI adX cy hJX σX (xs (i + 1)) r e1) (cwV 1 hts gL_law_X6_homeAgain rfl rfl rfl dmX6_homeAgain ⟨Nat.le_of_ble_eq_true rfl, Nat.le_of_ble_eq_true rfl⟩) hK hPX hPM (disO hdis) hAX hS (by decide) (LX6_obj adX cy _) rfl rfl rfl hl.1 (Nat.le_of_ble_eq_true rfl) ⟨Nat.le_refl _, Nat.le_refl _⟩ dL_law_508 (fun H locs hPX hPM hS => ?_)
  refine lv_aload_n hx hb dL_law_511 rfl (lv_at hl 2 rfl) ?_
  refine lv_aload_n hx hb dL_law_512 rfl (lv_at hl 0 rfl) ?_
  refine lv_iload_n hx hb dL_law_513 rfl (lv_at hl 3 rfl) ?_
  refine lv_iconst (v := nI 1) hx hb dL_law_514 (by decide) ?_
  refine lv_iadd hx hb dL_law_515 ?_
  rw [nI_add i 1]
  refine va_sld hx hb hX hbl hbA hS (vp_in_nI (n := i + 1) (by omega) (by omega)) dL_law_516 ?_
  rw [nI_clamp (n := i + 1) (by omega)]
  refine xl_callVi (As := [.int (xs (i + 1))]) (rest := [.int r]) (r := r) (C := RX7) (ci := 7) ⟨hx, hb, hml, hown, hts⟩ 0 (mX7_homeAgain l dC dI adM cy hJM σM (xs (i + 1)) (r, σM1) e2) (cwV 1 hts gL_law_X7_homeAgain rfl rfl rfl dmX7_homeAgain ⟨Nat.le_of_ble_eq_true rfl, Nat.le_of_ble_eq_true rfl⟩) hK hPM hPX (disO' hdis) hAM hS (by decide) (LX7_obj adM cy _) rfl rfl rfl hl.1 (Nat.le_of_ble_eq_true rfl) ⟨Nat.le_refl _, Nat.le_refl _⟩ dL_law_517 (fun H locs hPM hPX hS => ?_)
  have hPM : va_P (dC, dI) vwCl (wd 16 adM (layM adM cy) σM1) H := hPM
  refine lv_icmp_eq (tgt := 966) hx hb dL_law_520 (by decide) (fun _ => ?_) (fun h => absurd rfl h)
  exact nx d0 hd0 σX σM1 hRR H locs hPX hPM hS ls hl
set_option maxHeartbeats 8000000 in
set_option maxRecDepth 100000 in
theorem lw_case_homeOf {p : Program} {l : Launch} {e : Env} {s : State} {m : MethodId} {below : List Frame} {meth : Method} {c : Code} {b L : Nat} {xs : Nat → Int32} {dC : Nat → ClassId} {dI : Nat → Nat → Nat} {cy : Nat → ClassId} {adX adM : Nat → Nat} {sa : SA} {R : St → St → Prop} (hL : L ≤ 1536) (C0 : LC p s m meth c b L xs dC dI cy adX adM sa) (hSim : Sim R) {i : Nat} (hi : i + 3 ≤ L) (nx : LN p l e s m below meth c b dC dI cy adX adM R i 966) : LN p l e s m below meth c b dC dI cy adX adM R i 525 := by
  obtain ⟨hx, hb, hml, hown, hts0, hX, hbl, hK, hJX, hJM, hAX, hAM, hdis, hE⟩ := C0
  have hbA : ¬ (fun q : Nat => s.heap.size ≤ q) b := Nat.not_le.mpr hbl
  intro d0 hd0 σX σM hRR H locs hPX hPM hS ls hl
  have hts := dr_words hts0 d0
  have hX : va_X b L xs (s.setDrawn d0) s.heap := hX
  obtain ⟨r, σM1, e1, e2, hRR⟩ := sim_homeOf hSim hRR (xs (i + 1))
  refine lv_aload_n hx hb dL_law_525 rfl (lv_at hl 1 rfl) ?_
  refine lv_aload_n hx hb dL_law_526 rfl (lv_at hl 0 rfl) ?_
  refine lv_iload_n hx hb dL_law_527 rfl (lv_at hl 3 rfl) ?_
  refine lv_iconst (v := nI 1) hx hb dL_law_528 (by decide) ?_
  refine lv_iadd hx hb dL_law_529 ?_
  rw [nI_add i 1]
  refine va_sld hx hb hX hbl hbA hS (vp_in_nI (n := i + 1) (by omega) (by omega)) dL_law_530 ?_
  rw [nI_clamp (n := i + 1) (by omega)]
  refine xl_callVi (As := [.int (xs (i + 1))]) (rest := []) (r := r) (C := RX6) (ci := 6) ⟨hx, hb, hml, hown, hts⟩ 0 (mX6_homeOf l dC dI adX cy hJX σX (xs (i + 1)) r e1) (cwV 1 hts gL_law_X6_homeOf rfl rfl rfl dmX6_homeOf ⟨Nat.le_of_ble_eq_true rfl, Nat.le_of_ble_eq_true rfl⟩) hK hPX hPM (disO hdis) hAX hS (by decide) (LX6_obj adX cy _) rfl rfl rfl hl.1 (Nat.le_of_ble_eq_true rfl) ⟨Nat.le_refl _, Nat.le_refl _⟩ dL_law_531 (fun H locs hPX hPM hS => ?_)
  refine lv_aload_n hx hb dL_law_534 rfl (lv_at hl 2 rfl) ?_
  refine lv_aload_n hx hb dL_law_535 rfl (lv_at hl 0 rfl) ?_
  refine lv_iload_n hx hb dL_law_536 rfl (lv_at hl 3 rfl) ?_
  refine lv_iconst (v := nI 1) hx hb dL_law_537 (by decide) ?_
  refine lv_iadd hx hb dL_law_538 ?_
  rw [nI_add i 1]
  refine va_sld hx hb hX hbl hbA hS (vp_in_nI (n := i + 1) (by omega) (by omega)) dL_law_539 ?_
  rw [nI_clamp (n := i + 1) (by omega)]
  refine xl_callVi (As := [.int (xs (i + 1))]) (rest := [.int r]) (r := r) (C := RX7) (ci := 7) ⟨hx, hb, hml, hown, hts⟩ 0 (mX7_homeOf l dC dI adM cy hJM σM (xs (i + 1)) (r, σM1) e2) (cwV 1 hts gL_law_X7_homeOf rfl rfl rfl dmX7_homeOf ⟨Nat.le_of_ble_eq_true rfl, Nat.le_of_ble_eq_true rfl⟩) hK hPM hPX (disO' hdis) hAM hS (by decide) (LX7_obj adM cy _) rfl rfl rfl hl.1 (Nat.le_of_ble_eq_true rfl) ⟨Nat.le_refl _, Nat.le_refl _⟩ dL_law_540 (fun H locs hPM hPX hS => ?_)
  have hPM : va_P (dC, dI) vwCl (wd 16 adM (layM adM cy) σM1) H := hPM
  refine lv_icmp_eq (tgt := 966) hx hb dL_law_543 (by decide) (fun _ => ?_) (fun h => absurd rfl h)
  exact nx d0 hd0 σX σM1 hRR H locs hPX hPM hS ls hl
set_option maxHeartbeats 8000000 in
set_option maxRecDepth 100000 in
theorem lw_case_ring {p : Program} {l : Launch} {e : Env} {s : State} {m : MethodId} {below : List Frame} {meth : Method} {c : Code} {b L : Nat} {xs : Nat → Int32} {dC : Nat → ClassId} {dI : Nat → Nat → Nat} {cy : Nat → ClassId} {adX adM : Nat → Nat} {sa : SA} {R : St → St → Prop} (hL : L ≤ 1536) (C0 : LC p s m meth c b L xs dC dI cy adX adM sa) (hSim : Sim R) {i : Nat} (hi : i + 3 ≤ L) (nx : LN p l e s m below meth c b dC dI cy adX adM R i 966) : LN p l e s m below meth c b dC dI cy adX adM R i 548 := by
  obtain ⟨hx, hb, hml, hown, hts0, hX, hbl, hK, hJX, hJM, hAX, hAM, hdis, hE⟩ := C0
  have hbA : ¬ (fun q : Nat => s.heap.size ≤ q) b := Nat.not_le.mpr hbl
  intro d0 hd0 σX σM hRR H locs hPX hPM hS ls hl
  have hts := dr_words hts0 d0
  have hX : va_X b L xs (s.setDrawn d0) s.heap := hX
  obtain ⟨r, σM1, e1, e2, hRR⟩ := sim_ring hSim hRR (xs (i + 1)) (xs (i + 2))
  refine lv_aload_n hx hb dL_law_548 rfl (lv_at hl 1 rfl) ?_
  refine lv_aload_n hx hb dL_law_549 rfl (lv_at hl 0 rfl) ?_
  refine lv_iload_n hx hb dL_law_550 rfl (lv_at hl 3 rfl) ?_
  refine lv_iconst (v := nI 1) hx hb dL_law_551 (by decide) ?_
  refine lv_iadd hx hb dL_law_552 ?_
  rw [nI_add i 1]
  refine va_sld hx hb hX hbl hbA hS (vp_in_nI (n := i + 1) (by omega) (by omega)) dL_law_553 ?_
  rw [nI_clamp (n := i + 1) (by omega)]
  refine lv_aload_n hx hb dL_law_554 rfl (lv_at hl 0 rfl) ?_
  refine lv_iload_n hx hb dL_law_555 rfl (lv_at hl 3 rfl) ?_
  refine lv_iconst (v := nI 2) hx hb dL_law_556 (by decide) ?_
  refine lv_iadd hx hb dL_law_557 ?_
  rw [nI_add i 2]
  refine va_sld hx hb hX hbl hbA hS (vp_in_nI (n := i + 2) (by omega) (by omega)) dL_law_558 ?_
  rw [nI_clamp (n := i + 2) (by omega)]
  refine xl_callVi (As := [.int (xs (i + 1)), .int (xs (i + 2))]) (rest := []) (r := r) (C := RX6) (ci := 6) ⟨hx, hb, hml, hown, hts⟩ 0 (mX6_ring l dC dI adX cy hJX σX (xs (i + 1)) (xs (i + 2)) r e1) (cwV 2 hts gL_law_X6_ring rfl rfl rfl dmX6_ring ⟨Nat.le_of_ble_eq_true rfl, Nat.le_of_ble_eq_true rfl⟩) hK hPX hPM (disO hdis) hAX hS (by decide) (LX6_obj adX cy _) rfl rfl rfl hl.1 (Nat.le_of_ble_eq_true rfl) ⟨Nat.le_refl _, Nat.le_refl _⟩ dL_law_559 (fun H locs hPX hPM hS => ?_)
  refine lv_aload_n hx hb dL_law_562 rfl (lv_at hl 2 rfl) ?_
  refine lv_aload_n hx hb dL_law_563 rfl (lv_at hl 0 rfl) ?_
  refine lv_iload_n hx hb dL_law_564 rfl (lv_at hl 3 rfl) ?_
  refine lv_iconst (v := nI 1) hx hb dL_law_565 (by decide) ?_
  refine lv_iadd hx hb dL_law_566 ?_
  rw [nI_add i 1]
  refine va_sld hx hb hX hbl hbA hS (vp_in_nI (n := i + 1) (by omega) (by omega)) dL_law_567 ?_
  rw [nI_clamp (n := i + 1) (by omega)]
  refine lv_aload_n hx hb dL_law_568 rfl (lv_at hl 0 rfl) ?_
  refine lv_iload_n hx hb dL_law_569 rfl (lv_at hl 3 rfl) ?_
  refine lv_iconst (v := nI 2) hx hb dL_law_570 (by decide) ?_
  refine lv_iadd hx hb dL_law_571 ?_
  rw [nI_add i 2]
  refine va_sld hx hb hX hbl hbA hS (vp_in_nI (n := i + 2) (by omega) (by omega)) dL_law_572 ?_
  rw [nI_clamp (n := i + 2) (by omega)]
  refine xl_callVi (As := [.int (xs (i + 1)), .int (xs (i + 2))]) (rest := [.int r]) (r := r) (C := RX7) (ci := 7) ⟨hx, hb, hml, hown, hts⟩ 0 (mX7_ring l dC dI adM cy hJM σM (xs (i + 1)) (xs (i + 2)) (r, σM1) e2) (cwV 2 hts gL_law_X7_ring rfl rfl rfl dmX7_ring ⟨Nat.le_of_ble_eq_true rfl, Nat.le_of_ble_eq_true rfl⟩) hK hPM hPX (disO' hdis) hAM hS (by decide) (LX7_obj adM cy _) rfl rfl rfl hl.1 (Nat.le_of_ble_eq_true rfl) ⟨Nat.le_refl _, Nat.le_refl _⟩ dL_law_573 (fun H locs hPM hPX hS => ?_)
  have hPM : va_P (dC, dI) vwCl (wd 16 adM (layM adM cy) σM1) H := hPM
  refine lv_icmp_eq (tgt := 966) hx hb dL_law_576 (by decide) (fun _ => ?_) (fun h => absurd rfl h)
  exact nx d0 hd0 σX σM1 hRR H locs hPX hPM hS ls hl
set_option maxHeartbeats 8000000 in
set_option maxRecDepth 100000 in
theorem lw_case_deep {p : Program} {l : Launch} {e : Env} {s : State} {m : MethodId} {below : List Frame} {meth : Method} {c : Code} {b L : Nat} {xs : Nat → Int32} {dC : Nat → ClassId} {dI : Nat → Nat → Nat} {cy : Nat → ClassId} {adX adM : Nat → Nat} {sa : SA} {R : St → St → Prop} (hL : L ≤ 1536) (C0 : LC p s m meth c b L xs dC dI cy adX adM sa) (hSim : Sim R) {i : Nat} (hi : i + 3 ≤ L) (nx : LN p l e s m below meth c b dC dI cy adX adM R i 966) : LN p l e s m below meth c b dC dI cy adX adM R i 581 := by
  obtain ⟨hx, hb, hml, hown, hts0, hX, hbl, hK, hJX, hJM, hAX, hAM, hdis, hE⟩ := C0
  have hbA : ¬ (fun q : Nat => s.heap.size ≤ q) b := Nat.not_le.mpr hbl
  intro d0 hd0 σX σM hRR H locs hPX hPM hS ls hl
  have hts := dr_words hts0 d0
  have hX : va_X b L xs (s.setDrawn d0) s.heap := hX
  obtain ⟨r, σM1, e1, e2, hRR⟩ := sim_deep hSim hRR
  refine lv_aload_n hx hb dL_law_581 rfl (lv_at hl 1 rfl) ?_
  refine xl_callVi (As := []) (rest := []) (r := r) (C := RX6) (ci := 6) ⟨hx, hb, hml, hown, hts⟩ 0 (mX6_deep l dC dI adX cy hJX σX r e1) (cwV 0 hts gL_law_X6_deep rfl rfl rfl dmX6_deep ⟨Nat.le_of_ble_eq_true rfl, Nat.le_of_ble_eq_true rfl⟩) hK hPX hPM (disO hdis) hAX hS (by decide) (LX6_obj adX cy _) rfl rfl rfl hl.1 (Nat.le_of_ble_eq_true rfl) ⟨Nat.le_refl _, Nat.le_refl _⟩ dL_law_582 (fun H locs hPX hPM hS => ?_)
  refine lv_aload_n hx hb dL_law_585 rfl (lv_at hl 2 rfl) ?_
  refine xl_callVi (As := []) (rest := [.int r]) (r := r) (C := RX7) (ci := 7) ⟨hx, hb, hml, hown, hts⟩ 0 (mX7_deep l dC dI adM cy hJM σM (r, σM1) e2) (cwV 0 hts gL_law_X7_deep rfl rfl rfl dmX7_deep ⟨Nat.le_of_ble_eq_true rfl, Nat.le_of_ble_eq_true rfl⟩) hK hPM hPX (disO' hdis) hAM hS (by decide) (LX7_obj adM cy _) rfl rfl rfl hl.1 (Nat.le_of_ble_eq_true rfl) ⟨Nat.le_refl _, Nat.le_refl _⟩ dL_law_586 (fun H locs hPM hPX hS => ?_)
  have hPM : va_P (dC, dI) vwCl (wd 16 adM (layM adM cy) σM1) H := hPM
  refine lv_icmp_eq (tgt := 966) hx hb dL_law_589 (by decide) (fun _ => ?_) (fun h => absurd rfl h)
  exact nx d0 hd0 σX σM1 hRR H locs hPX hPM hS ls hl
set_option maxHeartbeats 8000000 in
set_option maxRecDepth 100000 in
theorem lw_case_wouldMove {p : Program} {l : Launch} {e : Env} {s : State} {m : MethodId} {below : List Frame} {meth : Method} {c : Code} {b L : Nat} {xs : Nat → Int32} {dC : Nat → ClassId} {dI : Nat → Nat → Nat} {cy : Nat → ClassId} {adX adM : Nat → Nat} {sa : SA} {R : St → St → Prop} (hL : L ≤ 1536) (C0 : LC p s m meth c b L xs dC dI cy adX adM sa) (hSim : Sim R) {i : Nat} (hi : i + 3 ≤ L) (nx : LN p l e s m below meth c b dC dI cy adX adM R i 966) : LN p l e s m below meth c b dC dI cy adX adM R i 594 := by
  obtain ⟨hx, hb, hml, hown, hts0, hX, hbl, hK, hJX, hJM, hAX, hAM, hdis, hE⟩ := C0
  have hbA : ¬ (fun q : Nat => s.heap.size ≤ q) b := Nat.not_le.mpr hbl
  intro d0 hd0 σX σM hRR H locs hPX hPM hS ls hl
  have hts := dr_words hts0 d0
  have hX : va_X b L xs (s.setDrawn d0) s.heap := hX
  obtain ⟨r, σX1, σM1, e1, e2, hRR⟩ := sim_wouldMove hSim hRR (xs (i + 1))
  refine lv_aload_n hx hb dL_law_594 rfl (lv_at hl 1 rfl) ?_
  refine lv_aload_n hx hb dL_law_595 rfl (lv_at hl 0 rfl) ?_
  refine lv_iload_n hx hb dL_law_596 rfl (lv_at hl 3 rfl) ?_
  refine lv_iconst (v := nI 1) hx hb dL_law_597 (by decide) ?_
  refine lv_iadd hx hb dL_law_598 ?_
  rw [nI_add i 1]
  refine va_sld hx hb hX hbl hbA hS (vp_in_nI (n := i + 1) (by omega) (by omega)) dL_law_599 ?_
  rw [nI_clamp (n := i + 1) (by omega)]
  refine xl_callVi (As := [.int (xs (i + 1))]) (rest := []) (r := r) (C := RX6) (ci := 6) ⟨hx, hb, hml, hown, hts⟩ 0 (mX6_wouldMove l dC dI adX cy hJX σX (xs (i + 1)) (r, σX1) e1) (cwV 1 hts gL_law_X6_wouldMove rfl rfl rfl dmX6_wouldMove ⟨Nat.le_of_ble_eq_true rfl, Nat.le_of_ble_eq_true rfl⟩) hK hPX hPM (disO hdis) hAX hS (by decide) (LX6_obj adX cy _) rfl rfl rfl hl.1 (Nat.le_of_ble_eq_true rfl) ⟨Nat.le_refl _, Nat.le_refl _⟩ dL_law_600 (fun H locs hPX hPM hS => ?_)
  have hPX : va_P (dC, dI) vwCl (wd 93 adX (layX adX cy) σX1) H := hPX
  refine lv_aload_n hx hb dL_law_603 rfl (lv_at hl 2 rfl) ?_
  refine lv_aload_n hx hb dL_law_604 rfl (lv_at hl 0 rfl) ?_
  refine lv_iload_n hx hb dL_law_605 rfl (lv_at hl 3 rfl) ?_
  refine lv_iconst (v := nI 1) hx hb dL_law_606 (by decide) ?_
  refine lv_iadd hx hb dL_law_607 ?_
  rw [nI_add i 1]
  refine va_sld hx hb hX hbl hbA hS (vp_in_nI (n := i + 1) (by omega) (by omega)) dL_law_608 ?_
  rw [nI_clamp (n := i + 1) (by omega)]
  refine xl_callVi (As := [.int (xs (i + 1))]) (rest := [.int r]) (r := r) (C := RX7) (ci := 7) ⟨hx, hb, hml, hown, hts⟩ 0 (mX7_wouldMove l dC dI adM cy hJM σM (xs (i + 1)) (r, σM1) e2) (cwV 1 hts gL_law_X7_wouldMove rfl rfl rfl dmX7_wouldMove ⟨Nat.le_of_ble_eq_true rfl, Nat.le_of_ble_eq_true rfl⟩) hK hPM hPX (disO' hdis) hAM hS (by decide) (LX7_obj adM cy _) rfl rfl rfl hl.1 (Nat.le_of_ble_eq_true rfl) ⟨Nat.le_refl _, Nat.le_refl _⟩ dL_law_609 (fun H locs hPM hPX hS => ?_)
  have hPM : va_P (dC, dI) vwCl (wd 16 adM (layM adM cy) σM1) H := hPM
  refine lv_icmp_eq (tgt := 966) hx hb dL_law_612 (by decide) (fun _ => ?_) (fun h => absurd rfl h)
  exact nx d0 hd0 σX1 σM1 hRR H locs hPX hPM hS ls hl
set_option maxHeartbeats 8000000 in
set_option maxRecDepth 100000 in
theorem lw_case_wouldClose {p : Program} {l : Launch} {e : Env} {s : State} {m : MethodId} {below : List Frame} {meth : Method} {c : Code} {b L : Nat} {xs : Nat → Int32} {dC : Nat → ClassId} {dI : Nat → Nat → Nat} {cy : Nat → ClassId} {adX adM : Nat → Nat} {sa : SA} {R : St → St → Prop} (hL : L ≤ 1536) (C0 : LC p s m meth c b L xs dC dI cy adX adM sa) (hSim : Sim R) {i : Nat} (hi : i + 3 ≤ L) (nx : LN p l e s m below meth c b dC dI cy adX adM R i 966) : LN p l e s m below meth c b dC dI cy adX adM R i 617 := by
  obtain ⟨hx, hb, hml, hown, hts0, hX, hbl, hK, hJX, hJM, hAX, hAM, hdis, hE⟩ := C0
  have hbA : ¬ (fun q : Nat => s.heap.size ≤ q) b := Nat.not_le.mpr hbl
  intro d0 hd0 σX σM hRR H locs hPX hPM hS ls hl
  have hts := dr_words hts0 d0
  have hX : va_X b L xs (s.setDrawn d0) s.heap := hX
  obtain ⟨r, σX1, σM1, e1, e2, hRR⟩ := sim_wouldClose hSim hRR (xs (i + 1))
  refine lv_aload_n hx hb dL_law_617 rfl (lv_at hl 1 rfl) ?_
  refine lv_aload_n hx hb dL_law_618 rfl (lv_at hl 0 rfl) ?_
  refine lv_iload_n hx hb dL_law_619 rfl (lv_at hl 3 rfl) ?_
  refine lv_iconst (v := nI 1) hx hb dL_law_620 (by decide) ?_
  refine lv_iadd hx hb dL_law_621 ?_
  rw [nI_add i 1]
  refine va_sld hx hb hX hbl hbA hS (vp_in_nI (n := i + 1) (by omega) (by omega)) dL_law_622 ?_
  rw [nI_clamp (n := i + 1) (by omega)]
  refine xl_callVi (As := [.int (xs (i + 1))]) (rest := []) (r := r) (C := RX6) (ci := 6) ⟨hx, hb, hml, hown, hts⟩ 0 (mX6_wouldClose l dC dI adX cy hJX σX (xs (i + 1)) (r, σX1) e1) (cwV 1 hts gL_law_X6_wouldClose rfl rfl rfl dmX6_wouldClose ⟨Nat.le_of_ble_eq_true rfl, Nat.le_of_ble_eq_true rfl⟩) hK hPX hPM (disO hdis) hAX hS (by decide) (LX6_obj adX cy _) rfl rfl rfl hl.1 (Nat.le_of_ble_eq_true rfl) ⟨Nat.le_refl _, Nat.le_refl _⟩ dL_law_623 (fun H locs hPX hPM hS => ?_)
  have hPX : va_P (dC, dI) vwCl (wd 93 adX (layX adX cy) σX1) H := hPX
  refine lv_aload_n hx hb dL_law_626 rfl (lv_at hl 2 rfl) ?_
  refine lv_aload_n hx hb dL_law_627 rfl (lv_at hl 0 rfl) ?_
  refine lv_iload_n hx hb dL_law_628 rfl (lv_at hl 3 rfl) ?_
  refine lv_iconst (v := nI 1) hx hb dL_law_629 (by decide) ?_
  refine lv_iadd hx hb dL_law_630 ?_
  rw [nI_add i 1]
  refine va_sld hx hb hX hbl hbA hS (vp_in_nI (n := i + 1) (by omega) (by omega)) dL_law_631 ?_
  rw [nI_clamp (n := i + 1) (by omega)]
  refine xl_callVi (As := [.int (xs (i + 1))]) (rest := [.int r]) (r := r) (C := RX7) (ci := 7) ⟨hx, hb, hml, hown, hts⟩ 0 (mX7_wouldClose l dC dI adM cy hJM σM (xs (i + 1)) (r, σM1) e2) (cwV 1 hts gL_law_X7_wouldClose rfl rfl rfl dmX7_wouldClose ⟨Nat.le_of_ble_eq_true rfl, Nat.le_of_ble_eq_true rfl⟩) hK hPM hPX (disO' hdis) hAM hS (by decide) (LX7_obj adM cy _) rfl rfl rfl hl.1 (Nat.le_of_ble_eq_true rfl) ⟨Nat.le_refl _, Nat.le_refl _⟩ dL_law_632 (fun H locs hPM hPX hS => ?_)
  have hPM : va_P (dC, dI) vwCl (wd 16 adM (layM adM cy) σM1) H := hPM
  refine lv_icmp_eq (tgt := 966) hx hb dL_law_635 (by decide) (fun _ => ?_) (fun h => absurd rfl h)
  exact nx d0 hd0 σX1 σM1 hRR H locs hPX hPM hS ls hl
set_option maxHeartbeats 8000000 in
set_option maxRecDepth 100000 in
theorem lw_case_hottest {p : Program} {l : Launch} {e : Env} {s : State} {m : MethodId} {below : List Frame} {meth : Method} {c : Code} {b L : Nat} {xs : Nat → Int32} {dC : Nat → ClassId} {dI : Nat → Nat → Nat} {cy : Nat → ClassId} {adX adM : Nat → Nat} {sa : SA} {R : St → St → Prop} (hL : L ≤ 1536) (C0 : LC p s m meth c b L xs dC dI cy adX adM sa) (hSim : Sim R) {i : Nat} (hi : i + 3 ≤ L) (nx : LN p l e s m below meth c b dC dI cy adX adM R i 966) : LN p l e s m below meth c b dC dI cy adX adM R i 640 := by
  obtain ⟨hx, hb, hml, hown, hts0, hX, hbl, hK, hJX, hJM, hAX, hAM, hdis, hE⟩ := C0
  have hbA : ¬ (fun q : Nat => s.heap.size ≤ q) b := Nat.not_le.mpr hbl
  intro d0 hd0 σX σM hRR H locs hPX hPM hS ls hl
  have hts := dr_words hts0 d0
  have hX : va_X b L xs (s.setDrawn d0) s.heap := hX
  obtain ⟨r, σM1, e1, e2, hRR⟩ := sim_hottest hSim hRR (xs (i + 1))
  refine lv_aload_n hx hb dL_law_640 rfl (lv_at hl 1 rfl) ?_
  refine lv_aload_n hx hb dL_law_641 rfl (lv_at hl 0 rfl) ?_
  refine lv_iload_n hx hb dL_law_642 rfl (lv_at hl 3 rfl) ?_
  refine lv_iconst (v := nI 1) hx hb dL_law_643 (by decide) ?_
  refine lv_iadd hx hb dL_law_644 ?_
  rw [nI_add i 1]
  refine va_sld hx hb hX hbl hbA hS (vp_in_nI (n := i + 1) (by omega) (by omega)) dL_law_645 ?_
  rw [nI_clamp (n := i + 1) (by omega)]
  refine xl_callVi (As := [.int (xs (i + 1))]) (rest := []) (r := r) (C := RX6) (ci := 6) ⟨hx, hb, hml, hown, hts⟩ 0 (mX6_hottest l dC dI adX cy hJX σX (xs (i + 1)) r e1) (cwV 1 hts gL_law_X6_hottest rfl rfl rfl dmX6_hottest ⟨Nat.le_of_ble_eq_true rfl, Nat.le_of_ble_eq_true rfl⟩) hK hPX hPM (disO hdis) hAX hS (by decide) (LX6_obj adX cy _) rfl rfl rfl hl.1 (Nat.le_of_ble_eq_true rfl) ⟨Nat.le_refl _, Nat.le_refl _⟩ dL_law_646 (fun H locs hPX hPM hS => ?_)
  refine lv_aload_n hx hb dL_law_649 rfl (lv_at hl 2 rfl) ?_
  refine lv_aload_n hx hb dL_law_650 rfl (lv_at hl 0 rfl) ?_
  refine lv_iload_n hx hb dL_law_651 rfl (lv_at hl 3 rfl) ?_
  refine lv_iconst (v := nI 1) hx hb dL_law_652 (by decide) ?_
  refine lv_iadd hx hb dL_law_653 ?_
  rw [nI_add i 1]
  refine va_sld hx hb hX hbl hbA hS (vp_in_nI (n := i + 1) (by omega) (by omega)) dL_law_654 ?_
  rw [nI_clamp (n := i + 1) (by omega)]
  refine xl_callVi (As := [.int (xs (i + 1))]) (rest := [.int r]) (r := r) (C := RX7) (ci := 7) ⟨hx, hb, hml, hown, hts⟩ 0 (mX7_hottest l dC dI adM cy hJM σM (xs (i + 1)) (r, σM1) e2) (cwV 1 hts gL_law_X7_hottest rfl rfl rfl dmX7_hottest ⟨Nat.le_of_ble_eq_true rfl, Nat.le_of_ble_eq_true rfl⟩) hK hPM hPX (disO' hdis) hAM hS (by decide) (LX7_obj adM cy _) rfl rfl rfl hl.1 (Nat.le_of_ble_eq_true rfl) ⟨Nat.le_refl _, Nat.le_refl _⟩ dL_law_655 (fun H locs hPM hPX hS => ?_)
  have hPM : va_P (dC, dI) vwCl (wd 16 adM (layM adM cy) σM1) H := hPM
  refine lv_icmp_eq (tgt := 966) hx hb dL_law_658 (by decide) (fun _ => ?_) (fun h => absurd rfl h)
  exact nx d0 hd0 σX σM1 hRR H locs hPX hPM hS ls hl
set_option maxHeartbeats 8000000 in
set_option maxRecDepth 100000 in
theorem lw_case_append {p : Program} {l : Launch} {e : Env} {s : State} {m : MethodId} {below : List Frame} {meth : Method} {c : Code} {b L : Nat} {xs : Nat → Int32} {dC : Nat → ClassId} {dI : Nat → Nat → Nat} {cy : Nat → ClassId} {adX adM : Nat → Nat} {sa : SA} {R : St → St → Prop} (hL : L ≤ 1536) (C0 : LC p s m meth c b L xs dC dI cy adX adM sa) (hSim : Sim R) {i : Nat} (hi : i + 3 ≤ L) (nx : LN p l e s m below meth c b dC dI cy adX adM R i 966) : LN p l e s m below meth c b dC dI cy adX adM R i 663 := by
  obtain ⟨hx, hb, hml, hown, hts0, hX, hbl, hK, hJX, hJM, hAX, hAM, hdis, hE⟩ := C0
  have hbA : ¬ (fun q : Nat => s.heap.size ≤ q) b := Nat.not_le.mpr hbl
  intro d0 hd0 σX σM hRR H locs hPX hPM hS ls hl
  have hts := dr_words hts0 d0
  have hX : va_X b L xs (s.setDrawn d0) s.heap := hX
  obtain ⟨r, σX1, σM1, e1, e2, hRR⟩ := sim_append hSim hRR (xs (i + 1))
  refine lv_aload_n hx hb dL_law_663 rfl (lv_at hl 1 rfl) ?_
  refine lv_aload_n hx hb dL_law_664 rfl (lv_at hl 0 rfl) ?_
  refine lv_iload_n hx hb dL_law_665 rfl (lv_at hl 3 rfl) ?_
  refine lv_iconst (v := nI 1) hx hb dL_law_666 (by decide) ?_
  refine lv_iadd hx hb dL_law_667 ?_
  rw [nI_add i 1]
  refine va_sld hx hb hX hbl hbA hS (vp_in_nI (n := i + 1) (by omega) (by omega)) dL_law_668 ?_
  rw [nI_clamp (n := i + 1) (by omega)]
  refine xl_callVi (As := [.int (xs (i + 1))]) (rest := []) (r := r) (C := RX6) (ci := 6) ⟨hx, hb, hml, hown, hts⟩ 0 (mX6_append l dC dI adX cy hJX σX (xs (i + 1)) (r, σX1) e1) (cwV 1 hts gL_law_X6_append rfl rfl rfl dmX6_append ⟨Nat.le_of_ble_eq_true rfl, Nat.le_of_ble_eq_true rfl⟩) hK hPX hPM (disO hdis) hAX hS (by decide) (LX6_obj adX cy _) rfl rfl rfl hl.1 (Nat.le_of_ble_eq_true rfl) ⟨Nat.le_refl _, Nat.le_refl _⟩ dL_law_669 (fun H locs hPX hPM hS => ?_)
  have hPX : va_P (dC, dI) vwCl (wd 93 adX (layX adX cy) σX1) H := hPX
  refine lv_aload_n hx hb dL_law_672 rfl (lv_at hl 2 rfl) ?_
  refine lv_aload_n hx hb dL_law_673 rfl (lv_at hl 0 rfl) ?_
  refine lv_iload_n hx hb dL_law_674 rfl (lv_at hl 3 rfl) ?_
  refine lv_iconst (v := nI 1) hx hb dL_law_675 (by decide) ?_
  refine lv_iadd hx hb dL_law_676 ?_
  rw [nI_add i 1]
  refine va_sld hx hb hX hbl hbA hS (vp_in_nI (n := i + 1) (by omega) (by omega)) dL_law_677 ?_
  rw [nI_clamp (n := i + 1) (by omega)]
  refine xl_callVi (As := [.int (xs (i + 1))]) (rest := [.int r]) (r := r) (C := RX7) (ci := 7) ⟨hx, hb, hml, hown, hts⟩ 0 (mX7_append l dC dI adM cy hJM σM (xs (i + 1)) (r, σM1) e2) (cwV 1 hts gL_law_X7_append rfl rfl rfl dmX7_append ⟨Nat.le_of_ble_eq_true rfl, Nat.le_of_ble_eq_true rfl⟩) hK hPM hPX (disO' hdis) hAM hS (by decide) (LX7_obj adM cy _) rfl rfl rfl hl.1 (Nat.le_of_ble_eq_true rfl) ⟨Nat.le_refl _, Nat.le_refl _⟩ dL_law_678 (fun H locs hPM hPX hS => ?_)
  have hPM : va_P (dC, dI) vwCl (wd 16 adM (layM adM cy) σM1) H := hPM
  refine lv_icmp_eq (tgt := 966) hx hb dL_law_681 (by decide) (fun _ => ?_) (fun h => absurd rfl h)
  exact nx d0 hd0 σX1 σM1 hRR H locs hPX hPM hS ls hl
set_option maxHeartbeats 8000000 in
set_option maxRecDepth 100000 in
theorem lw_case_run {p : Program} {l : Launch} {e : Env} {s : State} {m : MethodId} {below : List Frame} {meth : Method} {c : Code} {b L : Nat} {xs : Nat → Int32} {dC : Nat → ClassId} {dI : Nat → Nat → Nat} {cy : Nat → ClassId} {adX adM : Nat → Nat} {sa : SA} {R : St → St → Prop} (hL : L ≤ 1536) (C0 : LC p s m meth c b L xs dC dI cy adX adM sa) (hSim : Sim R) {i : Nat} (hi : i + 3 ≤ L) (nx : LN p l e s m below meth c b dC dI cy adX adM R i 966) : LN p l e s m below meth c b dC dI cy adX adM R i 686 := by
  obtain ⟨hx, hb, hml, hown, hts0, hX, hbl, hK, hJX, hJM, hAX, hAM, hdis, hE⟩ := C0
  have hbA : ¬ (fun q : Nat => s.heap.size ≤ q) b := Nat.not_le.mpr hbl
  intro d0 hd0 σX σM hRR H locs hPX hPM hS ls hl
  have hts := dr_words hts0 d0
  have hX : va_X b L xs (s.setDrawn d0) s.heap := hX
  obtain ⟨r, σX1, σM1, e1, e2, hRR⟩ := sim_run hSim hRR
  refine lv_aload_n hx hb dL_law_686 rfl (lv_at hl 1 rfl) ?_
  refine xl_callViE (As := []) (rest := []) (r := r) (C := RX6) (ci := 6) ⟨hx, hb, hml, hown, hts⟩ 0 (mX6_run l dC dI adX cy sa hJX σX (r, σX1) e1) (cwV 0 hts gL_law_X6_run rfl rfl rfl dmX6_run ⟨Nat.le_of_ble_eq_true rfl, Nat.le_of_ble_eq_true rfl⟩) hK hE hPX hPM (disO hdis) hAX hS (by decide) (LX6_obj adX cy _) rfl rfl rfl hl.1 (Nat.le_of_ble_eq_true rfl) ⟨Nat.le_refl _, Nat.le_refl _⟩ dL_law_687 (fun H locs hPX hPM hS => ?_)
  have hPX : va_P (dC, dI) vwCl (wd 93 adX (layX adX cy) σX1) H := hPX
  refine lv_aload_n hx hb dL_law_690 rfl (lv_at hl 2 rfl) ?_
  refine xl_callVi (As := []) (rest := [.int r]) (r := r) (C := RX7) (ci := 7) ⟨hx, hb, hml, hown, hts⟩ 0 (mX7_run l dC dI adM cy hJM σM (r, σM1) e2) (cwV 0 hts gL_law_X7_run rfl rfl rfl dmX7_run ⟨Nat.le_of_ble_eq_true rfl, Nat.le_of_ble_eq_true rfl⟩) hK hPM hPX (disO' hdis) hAM hS (by decide) (LX7_obj adM cy _) rfl rfl rfl hl.1 (Nat.le_of_ble_eq_true rfl) ⟨Nat.le_refl _, Nat.le_refl _⟩ dL_law_691 (fun H locs hPM hPX hS => ?_)
  have hPM : va_P (dC, dI) vwCl (wd 16 adM (layM adM cy) σM1) H := hPM
  refine lv_icmp_eq (tgt := 966) hx hb dL_law_694 (by decide) (fun _ => ?_) (fun h => absurd rfl h)
  exact nx d0 hd0 σX1 σM1 hRR H locs hPX hPM hS ls hl
set_option maxHeartbeats 8000000 in
set_option maxRecDepth 100000 in
theorem lw_case_tell {p : Program} {l : Launch} {e : Env} {s : State} {m : MethodId} {below : List Frame} {meth : Method} {c : Code} {b L : Nat} {xs : Nat → Int32} {dC : Nat → ClassId} {dI : Nat → Nat → Nat} {cy : Nat → ClassId} {adX adM : Nat → Nat} {sa : SA} {R : St → St → Prop} (hL : L ≤ 1536) (C0 : LC p s m meth c b L xs dC dI cy adX adM sa) (hSim : Sim R) {i : Nat} (hi : i + 3 ≤ L) (nx : LN p l e s m below meth c b dC dI cy adX adM R i 966) : LN p l e s m below meth c b dC dI cy adX adM R i 699 := by
  obtain ⟨hx, hb, hml, hown, hts0, hX, hbl, hK, hJX, hJM, hAX, hAM, hdis, hE⟩ := C0
  have hbA : ¬ (fun q : Nat => s.heap.size ≤ q) b := Nat.not_le.mpr hbl
  intro d0 hd0 σX σM hRR H locs hPX hPM hS ls hl
  have hts := dr_words hts0 d0
  have hX : va_X b L xs (s.setDrawn d0) s.heap := hX
  obtain ⟨r, σX1, σM1, e1, e2, hRR⟩ := sim_tell hSim hRR (xs (i + 1))
  refine lv_aload_n hx hb dL_law_699 rfl (lv_at hl 1 rfl) ?_
  refine lv_aload_n hx hb dL_law_700 rfl (lv_at hl 0 rfl) ?_
  refine lv_iload_n hx hb dL_law_701 rfl (lv_at hl 3 rfl) ?_
  refine lv_iconst (v := nI 1) hx hb dL_law_702 (by decide) ?_
  refine lv_iadd hx hb dL_law_703 ?_
  rw [nI_add i 1]
  refine va_sld hx hb hX hbl hbA hS (vp_in_nI (n := i + 1) (by omega) (by omega)) dL_law_704 ?_
  rw [nI_clamp (n := i + 1) (by omega)]
  refine xl_callVi (As := [.int (xs (i + 1))]) (rest := []) (r := r) (C := RX6) (ci := 6) ⟨hx, hb, hml, hown, hts⟩ 0 (mX6_tell l dC dI adX cy hJX σX (xs (i + 1)) (r, σX1) e1) (cwV 1 hts gL_law_X6_tell rfl rfl rfl dmX6_tell ⟨Nat.le_of_ble_eq_true rfl, Nat.le_of_ble_eq_true rfl⟩) hK hPX hPM (disO hdis) hAX hS (by decide) (LX6_obj adX cy _) rfl rfl rfl hl.1 (Nat.le_of_ble_eq_true rfl) ⟨Nat.le_refl _, Nat.le_refl _⟩ dL_law_705 (fun H locs hPX hPM hS => ?_)
  have hPX : va_P (dC, dI) vwCl (wd 93 adX (layX adX cy) σX1) H := hPX
  refine lv_aload_n hx hb dL_law_708 rfl (lv_at hl 2 rfl) ?_
  refine lv_aload_n hx hb dL_law_709 rfl (lv_at hl 0 rfl) ?_
  refine lv_iload_n hx hb dL_law_710 rfl (lv_at hl 3 rfl) ?_
  refine lv_iconst (v := nI 1) hx hb dL_law_711 (by decide) ?_
  refine lv_iadd hx hb dL_law_712 ?_
  rw [nI_add i 1]
  refine va_sld hx hb hX hbl hbA hS (vp_in_nI (n := i + 1) (by omega) (by omega)) dL_law_713 ?_
  rw [nI_clamp (n := i + 1) (by omega)]
  refine xl_callVi (As := [.int (xs (i + 1))]) (rest := [.int r]) (r := r) (C := RX7) (ci := 7) ⟨hx, hb, hml, hown, hts⟩ 0 (mX7_tell l dC dI adM cy hJM σM (xs (i + 1)) (r, σM1) e2) (cwV 1 hts gL_law_X7_tell rfl rfl rfl dmX7_tell ⟨Nat.le_of_ble_eq_true rfl, Nat.le_of_ble_eq_true rfl⟩) hK hPM hPX (disO' hdis) hAM hS (by decide) (LX7_obj adM cy _) rfl rfl rfl hl.1 (Nat.le_of_ble_eq_true rfl) ⟨Nat.le_refl _, Nat.le_refl _⟩ dL_law_714 (fun H locs hPM hPX hS => ?_)
  have hPM : va_P (dC, dI) vwCl (wd 16 adM (layM adM cy) σM1) H := hPM
  refine lv_icmp_eq (tgt := 966) hx hb dL_law_717 (by decide) (fun _ => ?_) (fun h => absurd rfl h)
  exact nx d0 hd0 σX1 σM1 hRR H locs hPX hPM hS ls hl
set_option maxHeartbeats 8000000 in
set_option maxRecDepth 100000 in
theorem lw_case_tellBarge {p : Program} {l : Launch} {e : Env} {s : State} {m : MethodId} {below : List Frame} {meth : Method} {c : Code} {b L : Nat} {xs : Nat → Int32} {dC : Nat → ClassId} {dI : Nat → Nat → Nat} {cy : Nat → ClassId} {adX adM : Nat → Nat} {sa : SA} {R : St → St → Prop} (hL : L ≤ 1536) (C0 : LC p s m meth c b L xs dC dI cy adX adM sa) (hSim : Sim R) {i : Nat} (hi : i + 3 ≤ L) (nx : LN p l e s m below meth c b dC dI cy adX adM R i 966) : LN p l e s m below meth c b dC dI cy adX adM R i 722 := by
  obtain ⟨hx, hb, hml, hown, hts0, hX, hbl, hK, hJX, hJM, hAX, hAM, hdis, hE⟩ := C0
  have hbA : ¬ (fun q : Nat => s.heap.size ≤ q) b := Nat.not_le.mpr hbl
  intro d0 hd0 σX σM hRR H locs hPX hPM hS ls hl
  have hts := dr_words hts0 d0
  have hX : va_X b L xs (s.setDrawn d0) s.heap := hX
  obtain ⟨r, σX1, σM1, e1, e2, hRR⟩ := sim_tellBarge hSim hRR (xs (i + 1))
  refine lv_aload_n hx hb dL_law_722 rfl (lv_at hl 1 rfl) ?_
  refine lv_aload_n hx hb dL_law_723 rfl (lv_at hl 0 rfl) ?_
  refine lv_iload_n hx hb dL_law_724 rfl (lv_at hl 3 rfl) ?_
  refine lv_iconst (v := nI 1) hx hb dL_law_725 (by decide) ?_
  refine lv_iadd hx hb dL_law_726 ?_
  rw [nI_add i 1]
  refine va_sld hx hb hX hbl hbA hS (vp_in_nI (n := i + 1) (by omega) (by omega)) dL_law_727 ?_
  rw [nI_clamp (n := i + 1) (by omega)]
  refine xl_callVi (As := [.int (xs (i + 1))]) (rest := []) (r := r) (C := RX6) (ci := 6) ⟨hx, hb, hml, hown, hts⟩ 0 (mX6_tellBarge l dC dI adX cy hJX σX (xs (i + 1)) (r, σX1) e1) (cwV 1 hts gL_law_X6_tellBarge rfl rfl rfl dmX6_tellBarge ⟨Nat.le_of_ble_eq_true rfl, Nat.le_of_ble_eq_true rfl⟩) hK hPX hPM (disO hdis) hAX hS (by decide) (LX6_obj adX cy _) rfl rfl rfl hl.1 (Nat.le_of_ble_eq_true rfl) ⟨Nat.le_refl _, Nat.le_refl _⟩ dL_law_728 (fun H locs hPX hPM hS => ?_)
  have hPX : va_P (dC, dI) vwCl (wd 93 adX (layX adX cy) σX1) H := hPX
  refine lv_aload_n hx hb dL_law_731 rfl (lv_at hl 2 rfl) ?_
  refine lv_aload_n hx hb dL_law_732 rfl (lv_at hl 0 rfl) ?_
  refine lv_iload_n hx hb dL_law_733 rfl (lv_at hl 3 rfl) ?_
  refine lv_iconst (v := nI 1) hx hb dL_law_734 (by decide) ?_
  refine lv_iadd hx hb dL_law_735 ?_
  rw [nI_add i 1]
  refine va_sld hx hb hX hbl hbA hS (vp_in_nI (n := i + 1) (by omega) (by omega)) dL_law_736 ?_
  rw [nI_clamp (n := i + 1) (by omega)]
  refine xl_callVi (As := [.int (xs (i + 1))]) (rest := [.int r]) (r := r) (C := RX7) (ci := 7) ⟨hx, hb, hml, hown, hts⟩ 0 (mX7_tellBarge l dC dI adM cy hJM σM (xs (i + 1)) (r, σM1) e2) (cwV 1 hts gL_law_X7_tellBarge rfl rfl rfl dmX7_tellBarge ⟨Nat.le_of_ble_eq_true rfl, Nat.le_of_ble_eq_true rfl⟩) hK hPM hPX (disO' hdis) hAM hS (by decide) (LX7_obj adM cy _) rfl rfl rfl hl.1 (Nat.le_of_ble_eq_true rfl) ⟨Nat.le_refl _, Nat.le_refl _⟩ dL_law_737 (fun H locs hPM hPX hS => ?_)
  have hPM : va_P (dC, dI) vwCl (wd 16 adM (layM adM cy) σM1) H := hPM
  refine lv_icmp_eq (tgt := 966) hx hb dL_law_740 (by decide) (fun _ => ?_) (fun h => absurd rfl h)
  exact nx d0 hd0 σX1 σM1 hRR H locs hPX hPM hS ls hl
set_option maxHeartbeats 8000000 in
set_option maxRecDepth 100000 in
theorem lw_case_character {p : Program} {l : Launch} {e : Env} {s : State} {m : MethodId} {below : List Frame} {meth : Method} {c : Code} {b L : Nat} {xs : Nat → Int32} {dC : Nat → ClassId} {dI : Nat → Nat → Nat} {cy : Nat → ClassId} {adX adM : Nat → Nat} {sa : SA} {R : St → St → Prop} (hL : L ≤ 1536) (C0 : LC p s m meth c b L xs dC dI cy adX adM sa) (hSim : Sim R) {i : Nat} (hi : i + 3 ≤ L) (nx : LN p l e s m below meth c b dC dI cy adX adM R i 966) : LN p l e s m below meth c b dC dI cy adX adM R i 745 := by
  obtain ⟨hx, hb, hml, hown, hts0, hX, hbl, hK, hJX, hJM, hAX, hAM, hdis, hE⟩ := C0
  have hbA : ¬ (fun q : Nat => s.heap.size ≤ q) b := Nat.not_le.mpr hbl
  intro d0 hd0 σX σM hRR H locs hPX hPM hS ls hl
  have hts := dr_words hts0 d0
  have hX : va_X b L xs (s.setDrawn d0) s.heap := hX
  obtain ⟨r, e1, e2⟩ := sim_character hSim hRR (xs (i + 1))
  refine lv_aload_n hx hb dL_law_745 rfl (lv_at hl 1 rfl) ?_
  refine lv_aload_n hx hb dL_law_746 rfl (lv_at hl 0 rfl) ?_
  refine lv_iload_n hx hb dL_law_747 rfl (lv_at hl 3 rfl) ?_
  refine lv_iconst (v := nI 1) hx hb dL_law_748 (by decide) ?_
  refine lv_iadd hx hb dL_law_749 ?_
  rw [nI_add i 1]
  refine va_sld hx hb hX hbl hbA hS (vp_in_nI (n := i + 1) (by omega) (by omega)) dL_law_750 ?_
  rw [nI_clamp (n := i + 1) (by omega)]
  refine xl_callVi (As := [.int (xs (i + 1))]) (rest := []) (r := r) (C := RX6) (ci := 6) ⟨hx, hb, hml, hown, hts⟩ 0 (mX6_character l dC dI adX cy hJX σX (xs (i + 1)) r e1) (cwV 1 hts gL_law_X6_character rfl rfl rfl dmX6_character ⟨Nat.le_of_ble_eq_true rfl, Nat.le_of_ble_eq_true rfl⟩) hK hPX hPM (disO hdis) hAX hS (by decide) (LX6_obj adX cy _) rfl rfl rfl hl.1 (Nat.le_of_ble_eq_true rfl) ⟨Nat.le_refl _, Nat.le_refl _⟩ dL_law_751 (fun H locs hPX hPM hS => ?_)
  refine lv_aload_n hx hb dL_law_754 rfl (lv_at hl 2 rfl) ?_
  refine lv_aload_n hx hb dL_law_755 rfl (lv_at hl 0 rfl) ?_
  refine lv_iload_n hx hb dL_law_756 rfl (lv_at hl 3 rfl) ?_
  refine lv_iconst (v := nI 1) hx hb dL_law_757 (by decide) ?_
  refine lv_iadd hx hb dL_law_758 ?_
  rw [nI_add i 1]
  refine va_sld hx hb hX hbl hbA hS (vp_in_nI (n := i + 1) (by omega) (by omega)) dL_law_759 ?_
  rw [nI_clamp (n := i + 1) (by omega)]
  refine xl_callVi (As := [.int (xs (i + 1))]) (rest := [.int r]) (r := r) (C := RX7) (ci := 7) ⟨hx, hb, hml, hown, hts⟩ 0 (mX7_character l dC dI adM cy hJM σM (xs (i + 1)) r e2) (cwV 1 hts gL_law_X7_character rfl rfl rfl dmX7_character ⟨Nat.le_of_ble_eq_true rfl, Nat.le_of_ble_eq_true rfl⟩) hK hPM hPX (disO' hdis) hAM hS (by decide) (LX7_obj adM cy _) rfl rfl rfl hl.1 (Nat.le_of_ble_eq_true rfl) ⟨Nat.le_refl _, Nat.le_refl _⟩ dL_law_760 (fun H locs hPM hPX hS => ?_)
  refine lv_icmp_eq (tgt := 966) hx hb dL_law_763 (by decide) (fun _ => ?_) (fun h => absurd rfl h)
  exact nx d0 hd0 σX σM hRR H locs hPX hPM hS ls hl
set_option maxHeartbeats 8000000 in
set_option maxRecDepth 100000 in
theorem lw_case_reason {p : Program} {l : Launch} {e : Env} {s : State} {m : MethodId} {below : List Frame} {meth : Method} {c : Code} {b L : Nat} {xs : Nat → Int32} {dC : Nat → ClassId} {dI : Nat → Nat → Nat} {cy : Nat → ClassId} {adX adM : Nat → Nat} {sa : SA} {R : St → St → Prop} (hL : L ≤ 1536) (C0 : LC p s m meth c b L xs dC dI cy adX adM sa) (hSim : Sim R) {i : Nat} (hi : i + 3 ≤ L) (nx : LN p l e s m below meth c b dC dI cy adX adM R i 966) : LN p l e s m below meth c b dC dI cy adX adM R i 768 := by
  obtain ⟨hx, hb, hml, hown, hts0, hX, hbl, hK, hJX, hJM, hAX, hAM, hdis, hE⟩ := C0
  have hbA : ¬ (fun q : Nat => s.heap.size ≤ q) b := Nat.not_le.mpr hbl
  intro d0 hd0 σX σM hRR H locs hPX hPM hS ls hl
  have hts := dr_words hts0 d0
  have hX : va_X b L xs (s.setDrawn d0) s.heap := hX
  by_cases c0 : xs (i + 1) = 0
  · obtain ⟨r, e1, e2⟩ := sim_reason hSim hRR 0 (by decide)
    refine lv_aload_n hx hb dL_law_768 rfl (lv_at hl 1 rfl) ?_
    refine lv_aload_n hx hb dL_law_769 rfl (lv_at hl 0 rfl) ?_
    refine lv_iload_n hx hb dL_law_770 rfl (lv_at hl 3 rfl) ?_
    refine lv_iconst (v := nI 1) hx hb dL_law_771 (by decide) ?_
    refine lv_iadd hx hb dL_law_772 ?_
    rw [nI_add i 1]
    refine va_sld hx hb hX hbl hbA hS (vp_in_nI (n := i + 1) (by omega) (by omega)) dL_law_773 ?_
    rw [nI_clamp (n := i + 1) (by omega)]
    refine lv_if_eq (tgt := 781) hx hb dL_law_774 (by decide) (fun _ => ?_) (fun h => absurd c0 h)
    refine lv_iconst (v := 0) hx hb dL_law_781 (by decide) ?_
    refine xl_callVi (As := [.int 0]) (rest := []) (r := r) (C := RX6) (ci := 6) ⟨hx, hb, hml, hown, hts⟩ 0 (mX6_reason l dC dI adX cy hJX σX 0 r e1) (cwV 1 hts gL_law_X6_reason rfl rfl rfl dmX6_reason ⟨Nat.le_of_ble_eq_true rfl, Nat.le_of_ble_eq_true rfl⟩) hK hPX hPM (disO hdis) hAX hS (by decide) (LX6_obj adX cy _) rfl rfl rfl hl.1 (Nat.le_of_ble_eq_true rfl) ⟨Nat.le_refl _, Nat.le_refl _⟩ dL_law_782 (fun H locs hPX hPM hS => ?_)
    refine lv_aload_n hx hb dL_law_785 rfl (lv_at hl 2 rfl) ?_
    refine lv_aload_n hx hb dL_law_786 rfl (lv_at hl 0 rfl) ?_
    refine lv_iload_n hx hb dL_law_787 rfl (lv_at hl 3 rfl) ?_
    refine lv_iconst (v := nI 1) hx hb dL_law_788 (by decide) ?_
    refine lv_iadd hx hb dL_law_789 ?_
    rw [nI_add i 1]
    refine va_sld hx hb hX hbl hbA hS (vp_in_nI (n := i + 1) (by omega) (by omega)) dL_law_790 ?_
    rw [nI_clamp (n := i + 1) (by omega)]
    refine lv_if_eq (tgt := 798) hx hb dL_law_791 (by decide) (fun _ => ?_) (fun h => absurd c0 h)
    refine lv_iconst (v := 0) hx hb dL_law_798 (by decide) ?_
    refine xl_callVi (As := [.int 0]) (rest := [.int r]) (r := r) (C := RX7) (ci := 7) ⟨hx, hb, hml, hown, hts⟩ 0 (mX7_reason l dC dI adM cy hJM σM 0 r e2) (cwV 1 hts gL_law_X7_reason rfl rfl rfl dmX7_reason ⟨Nat.le_of_ble_eq_true rfl, Nat.le_of_ble_eq_true rfl⟩) hK hPM hPX (disO' hdis) hAM hS (by decide) (LX7_obj adM cy _) rfl rfl rfl hl.1 (Nat.le_of_ble_eq_true rfl) ⟨Nat.le_refl _, Nat.le_refl _⟩ dL_law_799 (fun H locs hPM hPX hS => ?_)
    refine lv_icmp_eq (tgt := 966) hx hb dL_law_802 (by decide) (fun _ => ?_) (fun h => absurd rfl h)
    exact nx d0 hd0 σX σM hRR H locs hPX hPM hS ls hl
  · obtain ⟨r, e1, e2⟩ := sim_reason hSim hRR 1 (by decide)
    refine lv_aload_n hx hb dL_law_768 rfl (lv_at hl 1 rfl) ?_
    refine lv_aload_n hx hb dL_law_769 rfl (lv_at hl 0 rfl) ?_
    refine lv_iload_n hx hb dL_law_770 rfl (lv_at hl 3 rfl) ?_
    refine lv_iconst (v := nI 1) hx hb dL_law_771 (by decide) ?_
    refine lv_iadd hx hb dL_law_772 ?_
    rw [nI_add i 1]
    refine va_sld hx hb hX hbl hbA hS (vp_in_nI (n := i + 1) (by omega) (by omega)) dL_law_773 ?_
    rw [nI_clamp (n := i + 1) (by omega)]
    refine lv_if_eq (tgt := 781) hx hb dL_law_774 (by decide) (fun h => absurd h c0) (fun _ => ?_)
    refine lv_iconst (v := 1) hx hb dL_law_777 (by decide) ?_
    refine lv_goto (tgt := 782) hx hb dL_law_778 (by decide) ?_
    refine xl_callVi (As := [.int 1]) (rest := []) (r := r) (C := RX6) (ci := 6) ⟨hx, hb, hml, hown, hts⟩ 0 (mX6_reason l dC dI adX cy hJX σX 1 r e1) (cwV 1 hts gL_law_X6_reason rfl rfl rfl dmX6_reason ⟨Nat.le_of_ble_eq_true rfl, Nat.le_of_ble_eq_true rfl⟩) hK hPX hPM (disO hdis) hAX hS (by decide) (LX6_obj adX cy _) rfl rfl rfl hl.1 (Nat.le_of_ble_eq_true rfl) ⟨Nat.le_refl _, Nat.le_refl _⟩ dL_law_782 (fun H locs hPX hPM hS => ?_)
    refine lv_aload_n hx hb dL_law_785 rfl (lv_at hl 2 rfl) ?_
    refine lv_aload_n hx hb dL_law_786 rfl (lv_at hl 0 rfl) ?_
    refine lv_iload_n hx hb dL_law_787 rfl (lv_at hl 3 rfl) ?_
    refine lv_iconst (v := nI 1) hx hb dL_law_788 (by decide) ?_
    refine lv_iadd hx hb dL_law_789 ?_
    rw [nI_add i 1]
    refine va_sld hx hb hX hbl hbA hS (vp_in_nI (n := i + 1) (by omega) (by omega)) dL_law_790 ?_
    rw [nI_clamp (n := i + 1) (by omega)]
    refine lv_if_eq (tgt := 798) hx hb dL_law_791 (by decide) (fun h => absurd h c0) (fun _ => ?_)
    refine lv_iconst (v := 1) hx hb dL_law_794 (by decide) ?_
    refine lv_goto (tgt := 799) hx hb dL_law_795 (by decide) ?_
    refine xl_callVi (As := [.int 1]) (rest := [.int r]) (r := r) (C := RX7) (ci := 7) ⟨hx, hb, hml, hown, hts⟩ 0 (mX7_reason l dC dI adM cy hJM σM 1 r e2) (cwV 1 hts gL_law_X7_reason rfl rfl rfl dmX7_reason ⟨Nat.le_of_ble_eq_true rfl, Nat.le_of_ble_eq_true rfl⟩) hK hPM hPX (disO' hdis) hAM hS (by decide) (LX7_obj adM cy _) rfl rfl rfl hl.1 (Nat.le_of_ble_eq_true rfl) ⟨Nat.le_refl _, Nat.le_refl _⟩ dL_law_799 (fun H locs hPM hPX hS => ?_)
    refine lv_icmp_eq (tgt := 966) hx hb dL_law_802 (by decide) (fun _ => ?_) (fun h => absurd rfl h)
    exact nx d0 hd0 σX σM hRR H locs hPX hPM hS ls hl
set_option maxHeartbeats 8000000 in
set_option maxRecDepth 100000 in
theorem lw_case_account {p : Program} {l : Launch} {e : Env} {s : State} {m : MethodId} {below : List Frame} {meth : Method} {c : Code} {b L : Nat} {xs : Nat → Int32} {dC : Nat → ClassId} {dI : Nat → Nat → Nat} {cy : Nat → ClassId} {adX adM : Nat → Nat} {sa : SA} {R : St → St → Prop} (hL : L ≤ 1536) (C0 : LC p s m meth c b L xs dC dI cy adX adM sa) (hSim : Sim R) {i : Nat} (hi : i + 3 ≤ L) (nx : LN p l e s m below meth c b dC dI cy adX adM R i 966) : LN p l e s m below meth c b dC dI cy adX adM R i 807 := by
  obtain ⟨hx, hb, hml, hown, hts0, hX, hbl, hK, hJX, hJM, hAX, hAM, hdis, hE⟩ := C0
  have hbA : ¬ (fun q : Nat => s.heap.size ≤ q) b := Nat.not_le.mpr hbl
  intro d0 hd0 σX σM hRR H locs hPX hPM hS ls hl
  have hts := dr_words hts0 d0
  have hX : va_X b L xs (s.setDrawn d0) s.heap := hX
  obtain ⟨r, σM1, e1, e2, hRR⟩ := sim_account hSim hRR (xs (i + 1))
  refine lv_aload_n hx hb dL_law_807 rfl (lv_at hl 1 rfl) ?_
  refine lv_aload_n hx hb dL_law_808 rfl (lv_at hl 0 rfl) ?_
  refine lv_iload_n hx hb dL_law_809 rfl (lv_at hl 3 rfl) ?_
  refine lv_iconst (v := nI 1) hx hb dL_law_810 (by decide) ?_
  refine lv_iadd hx hb dL_law_811 ?_
  rw [nI_add i 1]
  refine va_sld hx hb hX hbl hbA hS (vp_in_nI (n := i + 1) (by omega) (by omega)) dL_law_812 ?_
  rw [nI_clamp (n := i + 1) (by omega)]
  refine xl_callVi (As := [.int (xs (i + 1))]) (rest := []) (r := r) (C := RX6) (ci := 6) ⟨hx, hb, hml, hown, hts⟩ 0 (mX6_account l dC dI adX cy hJX σX (xs (i + 1)) r e1) (cwV 1 hts gL_law_X6_account rfl rfl rfl dmX6_account ⟨Nat.le_of_ble_eq_true rfl, Nat.le_of_ble_eq_true rfl⟩) hK hPX hPM (disO hdis) hAX hS (by decide) (LX6_obj adX cy _) rfl rfl rfl hl.1 (Nat.le_of_ble_eq_true rfl) ⟨Nat.le_refl _, Nat.le_refl _⟩ dL_law_813 (fun H locs hPX hPM hS => ?_)
  refine lv_aload_n hx hb dL_law_816 rfl (lv_at hl 2 rfl) ?_
  refine lv_aload_n hx hb dL_law_817 rfl (lv_at hl 0 rfl) ?_
  refine lv_iload_n hx hb dL_law_818 rfl (lv_at hl 3 rfl) ?_
  refine lv_iconst (v := nI 1) hx hb dL_law_819 (by decide) ?_
  refine lv_iadd hx hb dL_law_820 ?_
  rw [nI_add i 1]
  refine va_sld hx hb hX hbl hbA hS (vp_in_nI (n := i + 1) (by omega) (by omega)) dL_law_821 ?_
  rw [nI_clamp (n := i + 1) (by omega)]
  refine xl_callVi (As := [.int (xs (i + 1))]) (rest := [.int r]) (r := r) (C := RX7) (ci := 7) ⟨hx, hb, hml, hown, hts⟩ 0 (mX7_account l dC dI adM cy hJM σM (xs (i + 1)) (r, σM1) e2) (cwV 1 hts gL_law_X7_account rfl rfl rfl dmX7_account ⟨Nat.le_of_ble_eq_true rfl, Nat.le_of_ble_eq_true rfl⟩) hK hPM hPX (disO' hdis) hAM hS (by decide) (LX7_obj adM cy _) rfl rfl rfl hl.1 (Nat.le_of_ble_eq_true rfl) ⟨Nat.le_refl _, Nat.le_refl _⟩ dL_law_822 (fun H locs hPM hPX hS => ?_)
  have hPM : va_P (dC, dI) vwCl (wd 16 adM (layM adM cy) σM1) H := hPM
  refine lv_icmp_eq (tgt := 966) hx hb dL_law_825 (by decide) (fun _ => ?_) (fun h => absurd rfl h)
  exact nx d0 hd0 σX σM1 hRR H locs hPX hPM hS ls hl
set_option maxHeartbeats 8000000 in
set_option maxRecDepth 100000 in
theorem lw_case_isBalanced {p : Program} {l : Launch} {e : Env} {s : State} {m : MethodId} {below : List Frame} {meth : Method} {c : Code} {b L : Nat} {xs : Nat → Int32} {dC : Nat → ClassId} {dI : Nat → Nat → Nat} {cy : Nat → ClassId} {adX adM : Nat → Nat} {sa : SA} {R : St → St → Prop} (hL : L ≤ 1536) (C0 : LC p s m meth c b L xs dC dI cy adX adM sa) (hSim : Sim R) {i : Nat} (hi : i + 3 ≤ L) (nx : LN p l e s m below meth c b dC dI cy adX adM R i 966) : LN p l e s m below meth c b dC dI cy adX adM R i 830 := by
  obtain ⟨hx, hb, hml, hown, hts0, hX, hbl, hK, hJX, hJM, hAX, hAM, hdis, hE⟩ := C0
  have hbA : ¬ (fun q : Nat => s.heap.size ≤ q) b := Nat.not_le.mpr hbl
  intro d0 hd0 σX σM hRR H locs hPX hPM hS ls hl
  have hts := dr_words hts0 d0
  have hX : va_X b L xs (s.setDrawn d0) s.heap := hX
  obtain ⟨r, σX1, e1, e2, hRR⟩ := sim_isBalanced hSim hRR
  refine lv_aload_n hx hb dL_law_830 rfl (lv_at hl 1 rfl) ?_
  refine xl_callVi (As := []) (rest := []) (r := r) (C := RX6) (ci := 6) ⟨hx, hb, hml, hown, hts⟩ 0 (mX6_isBalanced l dC dI adX cy hJX σX (r, σX1) e1) (cwV 0 hts gL_law_X6_isBalanced rfl rfl rfl dmX6_isBalanced ⟨Nat.le_of_ble_eq_true rfl, Nat.le_of_ble_eq_true rfl⟩) hK hPX hPM (disO hdis) hAX hS (by decide) (LX6_obj adX cy _) rfl rfl rfl hl.1 (Nat.le_of_ble_eq_true rfl) ⟨Nat.le_refl _, Nat.le_refl _⟩ dL_law_831 (fun H locs hPX hPM hS => ?_)
  have hPX : va_P (dC, dI) vwCl (wd 93 adX (layX adX cy) σX1) H := hPX
  refine lv_aload_n hx hb dL_law_834 rfl (lv_at hl 2 rfl) ?_
  refine xl_callVi (As := []) (rest := [.int r]) (r := r) (C := RX7) (ci := 7) ⟨hx, hb, hml, hown, hts⟩ 0 (mX7_isBalanced l dC dI adM cy hJM σM r e2) (cwV 0 hts gL_law_X7_isBalanced rfl rfl rfl dmX7_isBalanced ⟨Nat.le_of_ble_eq_true rfl, Nat.le_of_ble_eq_true rfl⟩) hK hPM hPX (disO' hdis) hAM hS (by decide) (LX7_obj adM cy _) rfl rfl rfl hl.1 (Nat.le_of_ble_eq_true rfl) ⟨Nat.le_refl _, Nat.le_refl _⟩ dL_law_835 (fun H locs hPM hPX hS => ?_)
  refine lv_icmp_eq (tgt := 966) hx hb dL_law_838 (by decide) (fun _ => ?_) (fun h => absurd rfl h)
  exact nx d0 hd0 σX1 σM hRR H locs hPX hPM hS ls hl
set_option maxHeartbeats 8000000 in
set_option maxRecDepth 100000 in
theorem lw_case_meanStretch {p : Program} {l : Launch} {e : Env} {s : State} {m : MethodId} {below : List Frame} {meth : Method} {c : Code} {b L : Nat} {xs : Nat → Int32} {dC : Nat → ClassId} {dI : Nat → Nat → Nat} {cy : Nat → ClassId} {adX adM : Nat → Nat} {sa : SA} {R : St → St → Prop} (hL : L ≤ 1536) (C0 : LC p s m meth c b L xs dC dI cy adX adM sa) (hSim : Sim R) {i : Nat} (hi : i + 3 ≤ L) (nx : LN p l e s m below meth c b dC dI cy adX adM R i 966) : LN p l e s m below meth c b dC dI cy adX adM R i 843 := by
  obtain ⟨hx, hb, hml, hown, hts0, hX, hbl, hK, hJX, hJM, hAX, hAM, hdis, hE⟩ := C0
  have hbA : ¬ (fun q : Nat => s.heap.size ≤ q) b := Nat.not_le.mpr hbl
  intro d0 hd0 σX σM hRR H locs hPX hPM hS ls hl
  have hts := dr_words hts0 d0
  have hX : va_X b L xs (s.setDrawn d0) s.heap := hX
  obtain ⟨z, e1, e2⟩ := sim_meanStretch hSim hRR
  refine lv_aload_n hx hb dL_law_843 rfl (lv_at hl 1 rfl) ?_
  refine xl_callVd (z := z) (C := RX6) (ci := 6) hd0 ⟨hx, hb, hml, hown, dr_words hts0 d0⟩ 0 (mX6_meanStretch l dC dI adX cy hJX σX z e1) (cwV 0 (dr_words hts0 d0) gL_law_X6_meanStretch rfl rfl rfl dmX6_meanStretch ⟨Nat.le_of_ble_eq_true rfl, Nat.le_of_ble_eq_true rfl⟩) hK hPX hPM (disO hdis) hAX hS (by decide) (LX6_obj adX cy _) rfl rfl rfl hl.1 (Nat.le_of_ble_eq_true rfl) ⟨Nat.le_refl _, Nat.le_refl _⟩ dL_law_844 (fun vX d1 hd1 hvX H locs hPX hPM hS => ?_)
  refine lv_dstore (lv' := [(4, .double vX), (0, .ref b), (1, .ref (adX 0)), (2, .ref (adM 0)), (3, .int (nI i))]) hx hb dL_law_847 hl (by decide) rfl (fun ls hl => ?_)
  refine lv_aload_n hx hb dL_law_849 rfl (lv_at hl 3 rfl) ?_
  refine xl_callVd (z := z) (C := RX7) (ci := 7) hd1 ⟨hx, hb, hml, hown, dr_words hts0 d1⟩ 0 (mX7_meanStretch l dC dI adM cy hJM σM z e2) (cwV 0 (dr_words hts0 d1) gL_law_X7_meanStretch rfl rfl rfl dmX7_meanStretch ⟨Nat.le_of_ble_eq_true rfl, Nat.le_of_ble_eq_true rfl⟩) hK hPM hPX (disO' hdis) hAM hS (by decide) (LX7_obj adM cy _) rfl rfl rfl hl.1 (Nat.le_of_ble_eq_true rfl) ⟨Nat.le_refl _, Nat.le_refl _⟩ dL_law_850 (fun vM d2 hd2 hvM H locs hPM hPX hS => ?_)
  refine lv_dstore (lv' := [(6, .double vM), (4, .double vX), (0, .ref b), (1, .ref (adX 0)), (2, .ref (adM 0)), (3, .int (nI i))]) hx hb dL_law_853 hl (by decide) rfl (fun ls hl => ?_)
  have hv : vX = vM ∨ (isNaN64 vX = true ∧ isNaN64 vM = true) := by
    by_cases c0 : z.1 = 0
    · left; rw [hvX.1 c0, hvM.1 c0]
    · exact alike64_two (hvX.2 c0) (hvM.2 c0)
  rcases hv with hv | ⟨n1, n2⟩
  · subst hv
    refine lv_dload hx hb dL_law_855 (lv_at hl 1 rfl) ?_
    refine lv_dload hx hb dL_law_857 (lv_at hl 0 rfl) ?_
    refine lv_dcmp hx hb dL_law_859 ?_
    obtain ⟨u, hu⟩ : ∃ u : Int32, u = Op.cmpValue (FP.dcmp vX vX) CmpOp.l := ⟨_, rfl⟩
    rw [← hu]
    refine lv_if_eq (tgt := 881) hx hb dL_law_860 (by decide) (fun _ => ?_) (fun hne => ?_)
    · refine lv_goto (tgt := 966) hx hb dL_law_881 (by decide) ?_
      exact nx d2 hd2 σX σM hRR H locs hPX hPM hS ls (lv_sub hl [2, 3, 4, 5] rfl)
    · refine lv_dload hx hb dL_law_863 (lv_at hl 1 rfl) ?_
      refine lv_dload hx hb dL_law_865 (lv_at hl 1 rfl) ?_
      refine lv_dcmp hx hb dL_law_867 ?_
      rw [← hu]
      refine lv_if_eq (tgt := 879) hx hb dL_law_868 (by decide) (fun h => absurd h hne) (fun _ => ?_)
      refine lv_dload hx hb dL_law_871 (lv_at hl 0 rfl) ?_
      refine lv_dload hx hb dL_law_873 (lv_at hl 0 rfl) ?_
      refine lv_dcmp hx hb dL_law_875 ?_
      rw [← hu]
      refine lv_if_ne (tgt := 881) hx hb dL_law_876 (by decide) (fun _ => ?_) (fun h => absurd h hne)
      refine lv_goto (tgt := 966) hx hb dL_law_881 (by decide) ?_
      exact nx d2 hd2 σX σM hRR H locs hPX hPM hS ls (lv_sub hl [2, 3, 4, 5] rfl)
  · refine lv_dload hx hb dL_law_855 (lv_at hl 1 rfl) ?_
    refine lv_dload hx hb dL_law_857 (lv_at hl 0 rfl) ?_
    refine lv_dcmp hx hb dL_law_859 ?_
    rw [nan64_cmp n1]
    refine lv_if_eq (tgt := 881) hx hb dL_law_860 (by decide) (fun h => absurd h (by decide)) (fun hne => ?_)
    refine lv_dload hx hb dL_law_863 (lv_at hl 1 rfl) ?_
    refine lv_dload hx hb dL_law_865 (lv_at hl 1 rfl) ?_
    refine lv_dcmp hx hb dL_law_867 ?_
    rw [nan64_cmp n1]
    refine lv_if_eq (tgt := 879) hx hb dL_law_868 (by decide) (fun h => absurd h (by decide)) (fun _ => ?_)
    refine lv_dload hx hb dL_law_871 (lv_at hl 0 rfl) ?_
    refine lv_dload hx hb dL_law_873 (lv_at hl 0 rfl) ?_
    refine lv_dcmp hx hb dL_law_875 ?_
    rw [nan64_cmp n2]
    refine lv_if_ne (tgt := 881) hx hb dL_law_876 (by decide) (fun _ => ?_) (fun h => absurd h (by decide))
    refine lv_goto (tgt := 966) hx hb dL_law_881 (by decide) ?_
    exact nx d2 hd2 σX σM hRR H locs hPX hPM hS ls (lv_sub hl [2, 3, 4, 5] rfl)
set_option maxHeartbeats 8000000 in
set_option maxRecDepth 100000 in
theorem lw_case_takenShare {p : Program} {l : Launch} {e : Env} {s : State} {m : MethodId} {below : List Frame} {meth : Method} {c : Code} {b L : Nat} {xs : Nat → Int32} {dC : Nat → ClassId} {dI : Nat → Nat → Nat} {cy : Nat → ClassId} {adX adM : Nat → Nat} {sa : SA} {R : St → St → Prop} (hL : L ≤ 1536) (C0 : LC p s m meth c b L xs dC dI cy adX adM sa) (hSim : Sim R) {i : Nat} (hi : i + 3 ≤ L) (nx : LN p l e s m below meth c b dC dI cy adX adM R i 966) : LN p l e s m below meth c b dC dI cy adX adM R i 884 := by
  obtain ⟨hx, hb, hml, hown, hts0, hX, hbl, hK, hJX, hJM, hAX, hAM, hdis, hE⟩ := C0
  have hbA : ¬ (fun q : Nat => s.heap.size ≤ q) b := Nat.not_le.mpr hbl
  intro d0 hd0 σX σM hRR H locs hPX hPM hS ls hl
  have hts := dr_words hts0 d0
  have hX : va_X b L xs (s.setDrawn d0) s.heap := hX
  obtain ⟨z, σM1, e1, e2, hRR⟩ := sim_takenShare hSim hRR
  refine lv_aload_n hx hb dL_law_884 rfl (lv_at hl 1 rfl) ?_
  refine xl_callVf (z := z) (C := RX6) (ci := 6) hd0 ⟨hx, hb, hml, hown, dr_words hts0 d0⟩ 0 (mX6_takenShare l dC dI adX cy hJX σX z e1) (cwV 0 (dr_words hts0 d0) gL_law_X6_takenShare rfl rfl rfl dmX6_takenShare ⟨Nat.le_of_ble_eq_true rfl, Nat.le_of_ble_eq_true rfl⟩) hK hPX hPM (disO hdis) hAX hS (by decide) (LX6_obj adX cy _) rfl rfl rfl hl.1 (Nat.le_of_ble_eq_true rfl) ⟨Nat.le_refl _, Nat.le_refl _⟩ dL_law_885 (fun vX d1 hd1 hvX H locs hPX hPM hS => ?_)
  refine lv_f2d_any hd1 lw_bits hx hb dL_law_888 (fun wX d2 hwX hd2 => ?_)
  refine lv_dstore (lv' := [(4, .double wX), (0, .ref b), (1, .ref (adX 0)), (2, .ref (adM 0)), (3, .int (nI i))]) hx hb dL_law_889 hl (by decide) rfl (fun ls hl => ?_)
  refine lv_aload_n hx hb dL_law_891 rfl (lv_at hl 3 rfl) ?_
  refine xl_callVf (z := z) (C := RX7) (ci := 7) hd2 ⟨hx, hb, hml, hown, dr_words hts0 d2⟩ 0 (mX7_takenShare l dC dI adM cy hJM σM (z, σM1) e2) (cwV 0 (dr_words hts0 d2) gL_law_X7_takenShare rfl rfl rfl dmX7_takenShare ⟨Nat.le_of_ble_eq_true rfl, Nat.le_of_ble_eq_true rfl⟩) hK hPM hPX (disO' hdis) hAM hS (by decide) (LX7_obj adM cy _) rfl rfl rfl hl.1 (Nat.le_of_ble_eq_true rfl) ⟨Nat.le_refl _, Nat.le_refl _⟩ dL_law_892 (fun vM d3 hd3 hvM H locs hPM hPX hS => ?_)
  have hPM : va_P (dC, dI) vwCl (wd 16 adM (layM adM cy) σM1) H := hPM
  refine lv_f2d_any hd3 lw_bits hx hb dL_law_895 (fun wM d4 hwM hd4 => ?_)
  refine lv_dstore (lv' := [(6, .double wM), (4, .double wX), (0, .ref b), (1, .ref (adX 0)), (2, .ref (adM 0)), (3, .int (nI i))]) hx hb dL_law_896 hl (by decide) rfl (fun ls hl => ?_)
  have hv : wX = wM ∨ (isNaN64 wX = true ∧ isNaN64 wM = true) := by
    have hv0 : vX = vM ∨ (isNaN32 vX = true ∧ isNaN32 vM = true) := by
      by_cases c0 : z.1 = 0
      · left; rw [hvX.1 c0, hvM.1 c0]
      · exact alike32_two (hvX.2 c0) (hvM.2 c0)
    rcases hv0 with rfl | ⟨n1, n2⟩
    · exact alike64_two hwX hwM
    · exact Or.inr ⟨alike64_nan hwX (nan32_f2d n1), alike64_nan hwM (nan32_f2d n2)⟩
  rcases hv with hv | ⟨n1, n2⟩
  · subst hv
    refine lv_dload hx hb dL_law_898 (lv_at hl 1 rfl) ?_
    refine lv_dload hx hb dL_law_900 (lv_at hl 0 rfl) ?_
    refine lv_dcmp hx hb dL_law_902 ?_
    obtain ⟨u, hu⟩ : ∃ u : Int32, u = Op.cmpValue (FP.dcmp wX wX) CmpOp.l := ⟨_, rfl⟩
    rw [← hu]
    refine lv_if_eq (tgt := 924) hx hb dL_law_903 (by decide) (fun _ => ?_) (fun hne => ?_)
    · refine lv_goto (tgt := 966) hx hb dL_law_924 (by decide) ?_
      exact nx d4 hd4 σX σM1 hRR H locs hPX hPM hS ls (lv_sub hl [2, 3, 4, 5] rfl)
    · refine lv_dload hx hb dL_law_906 (lv_at hl 1 rfl) ?_
      refine lv_dload hx hb dL_law_908 (lv_at hl 1 rfl) ?_
      refine lv_dcmp hx hb dL_law_910 ?_
      rw [← hu]
      refine lv_if_eq (tgt := 922) hx hb dL_law_911 (by decide) (fun h => absurd h hne) (fun _ => ?_)
      refine lv_dload hx hb dL_law_914 (lv_at hl 0 rfl) ?_
      refine lv_dload hx hb dL_law_916 (lv_at hl 0 rfl) ?_
      refine lv_dcmp hx hb dL_law_918 ?_
      rw [← hu]
      refine lv_if_ne (tgt := 924) hx hb dL_law_919 (by decide) (fun _ => ?_) (fun h => absurd h hne)
      refine lv_goto (tgt := 966) hx hb dL_law_924 (by decide) ?_
      exact nx d4 hd4 σX σM1 hRR H locs hPX hPM hS ls (lv_sub hl [2, 3, 4, 5] rfl)
  · refine lv_dload hx hb dL_law_898 (lv_at hl 1 rfl) ?_
    refine lv_dload hx hb dL_law_900 (lv_at hl 0 rfl) ?_
    refine lv_dcmp hx hb dL_law_902 ?_
    rw [nan64_cmp n1]
    refine lv_if_eq (tgt := 924) hx hb dL_law_903 (by decide) (fun h => absurd h (by decide)) (fun hne => ?_)
    refine lv_dload hx hb dL_law_906 (lv_at hl 1 rfl) ?_
    refine lv_dload hx hb dL_law_908 (lv_at hl 1 rfl) ?_
    refine lv_dcmp hx hb dL_law_910 ?_
    rw [nan64_cmp n1]
    refine lv_if_eq (tgt := 922) hx hb dL_law_911 (by decide) (fun h => absurd h (by decide)) (fun _ => ?_)
    refine lv_dload hx hb dL_law_914 (lv_at hl 0 rfl) ?_
    refine lv_dload hx hb dL_law_916 (lv_at hl 0 rfl) ?_
    refine lv_dcmp hx hb dL_law_918 ?_
    rw [nan64_cmp n2]
    refine lv_if_ne (tgt := 924) hx hb dL_law_919 (by decide) (fun _ => ?_) (fun h => absurd h (by decide))
    refine lv_goto (tgt := 966) hx hb dL_law_924 (by decide) ?_
    exact nx d4 hd4 σX σM1 hRR H locs hPX hPM hS ls (lv_sub hl [2, 3, 4, 5] rfl)
set_option maxHeartbeats 8000000 in
set_option maxRecDepth 100000 in
theorem lw_case_undo {p : Program} {l : Launch} {e : Env} {s : State} {m : MethodId} {below : List Frame} {meth : Method} {c : Code} {b L : Nat} {xs : Nat → Int32} {dC : Nat → ClassId} {dI : Nat → Nat → Nat} {cy : Nat → ClassId} {adX adM : Nat → Nat} {sa : SA} {R : St → St → Prop} (hL : L ≤ 1536) (C0 : LC p s m meth c b L xs dC dI cy adX adM sa) (hSim : Sim R) {i : Nat} (hi : i + 3 ≤ L) (nx : LN p l e s m below meth c b dC dI cy adX adM R i 966) : LN p l e s m below meth c b dC dI cy adX adM R i 927 := by
  obtain ⟨hx, hb, hml, hown, hts0, hX, hbl, hK, hJX, hJM, hAX, hAM, hdis, hE⟩ := C0
  have hbA : ¬ (fun q : Nat => s.heap.size ≤ q) b := Nat.not_le.mpr hbl
  intro d0 hd0 σX σM hRR H locs hPX hPM hS ls hl
  have hts := dr_words hts0 d0
  have hX : va_X b L xs (s.setDrawn d0) s.heap := hX
  obtain ⟨r, σX1, σM1, e1, e2, hRR⟩ := sim_undo hSim hRR
  refine lv_aload_n hx hb dL_law_927 rfl (lv_at hl 1 rfl) ?_
  refine xl_callVi (As := []) (rest := []) (r := r) (C := RX6) (ci := 6) ⟨hx, hb, hml, hown, hts⟩ 0 (mX6_undo l dC dI adX cy hJX σX (r, σX1) e1) (cwV 0 hts gL_law_X6_undo rfl rfl rfl dmX6_undo ⟨Nat.le_of_ble_eq_true rfl, Nat.le_of_ble_eq_true rfl⟩) hK hPX hPM (disO hdis) hAX hS (by decide) (LX6_obj adX cy _) rfl rfl rfl hl.1 (Nat.le_of_ble_eq_true rfl) ⟨Nat.le_refl _, Nat.le_refl _⟩ dL_law_928 (fun H locs hPX hPM hS => ?_)
  have hPX : va_P (dC, dI) vwCl (wd 93 adX (layX adX cy) σX1) H := hPX
  refine lv_aload_n hx hb dL_law_931 rfl (lv_at hl 2 rfl) ?_
  refine xl_callVi (As := []) (rest := [.int r]) (r := r) (C := RX7) (ci := 7) ⟨hx, hb, hml, hown, hts⟩ 0 (mX7_undo l dC dI adM cy hJM σM (r, σM1) e2) (cwV 0 hts gL_law_X7_undo rfl rfl rfl dmX7_undo ⟨Nat.le_of_ble_eq_true rfl, Nat.le_of_ble_eq_true rfl⟩) hK hPM hPX (disO' hdis) hAM hS (by decide) (LX7_obj adM cy _) rfl rfl rfl hl.1 (Nat.le_of_ble_eq_true rfl) ⟨Nat.le_refl _, Nat.le_refl _⟩ dL_law_932 (fun H locs hPM hPX hS => ?_)
  have hPM : va_P (dC, dI) vwCl (wd 16 adM (layM adM cy) σM1) H := hPM
  refine lv_icmp_eq (tgt := 966) hx hb dL_law_935 (by decide) (fun _ => ?_) (fun h => absurd rfl h)
  exact nx d0 hd0 σX1 σM1 hRR H locs hPX hPM hS ls hl
set_option maxHeartbeats 8000000 in
set_option maxRecDepth 100000 in
theorem lw_case_save {p : Program} {l : Launch} {e : Env} {s : State} {m : MethodId} {below : List Frame} {meth : Method} {c : Code} {b L : Nat} {xs : Nat → Int32} {dC : Nat → ClassId} {dI : Nat → Nat → Nat} {cy : Nat → ClassId} {adX adM : Nat → Nat} {sa : SA} {R : St → St → Prop} (hL : L ≤ 1536) (C0 : LC p s m meth c b L xs dC dI cy adX adM sa) (hSim : Sim R) {i : Nat} (hi : i + 3 ≤ L) (nx : LN p l e s m below meth c b dC dI cy adX adM R i 966) : LN p l e s m below meth c b dC dI cy adX adM R i 940 := by
  obtain ⟨hx, hb, hml, hown, hts0, hX, hbl, hK, hJX, hJM, hAX, hAM, hdis, hE⟩ := C0
  have hbA : ¬ (fun q : Nat => s.heap.size ≤ q) b := Nat.not_le.mpr hbl
  intro d0 hd0 σX σM hRR H locs hPX hPM hS ls hl
  have hts := dr_words hts0 d0
  have hX : va_X b L xs (s.setDrawn d0) s.heap := hX
  obtain ⟨r, σX1, σM1, e1, e2, hRR⟩ := sim_save hSim hRR
  refine lv_aload_n hx hb dL_law_940 rfl (lv_at hl 1 rfl) ?_
  refine xl_callVi (As := []) (rest := []) (r := r) (C := RX6) (ci := 6) ⟨hx, hb, hml, hown, hts⟩ 0 (mX6_save l dC dI adX cy hJX σX (r, σX1) e1) (cwV 0 hts gL_law_X6_save rfl rfl rfl dmX6_save ⟨Nat.le_of_ble_eq_true rfl, Nat.le_of_ble_eq_true rfl⟩) hK hPX hPM (disO hdis) hAX hS (by decide) (LX6_obj adX cy _) rfl rfl rfl hl.1 (Nat.le_of_ble_eq_true rfl) ⟨Nat.le_refl _, Nat.le_refl _⟩ dL_law_941 (fun H locs hPX hPM hS => ?_)
  have hPX : va_P (dC, dI) vwCl (wd 93 adX (layX adX cy) σX1) H := hPX
  refine lv_aload_n hx hb dL_law_944 rfl (lv_at hl 2 rfl) ?_
  refine xl_callVi (As := []) (rest := [.int r]) (r := r) (C := RX7) (ci := 7) ⟨hx, hb, hml, hown, hts⟩ 0 (mX7_save l dC dI adM cy hJM σM (r, σM1) e2) (cwV 0 hts gL_law_X7_save rfl rfl rfl dmX7_save ⟨Nat.le_of_ble_eq_true rfl, Nat.le_of_ble_eq_true rfl⟩) hK hPM hPX (disO' hdis) hAM hS (by decide) (LX7_obj adM cy _) rfl rfl rfl hl.1 (Nat.le_of_ble_eq_true rfl) ⟨Nat.le_refl _, Nat.le_refl _⟩ dL_law_945 (fun H locs hPM hPX hS => ?_)
  have hPM : va_P (dC, dI) vwCl (wd 16 adM (layM adM cy) σM1) H := hPM
  refine lv_icmp_eq (tgt := 966) hx hb dL_law_948 (by decide) (fun _ => ?_) (fun h => absurd rfl h)
  exact nx d0 hd0 σX1 σM1 hRR H locs hPX hPM hS ls hl
set_option maxHeartbeats 8000000 in
set_option maxRecDepth 100000 in
theorem lw_case_restore {p : Program} {l : Launch} {e : Env} {s : State} {m : MethodId} {below : List Frame} {meth : Method} {c : Code} {b L : Nat} {xs : Nat → Int32} {dC : Nat → ClassId} {dI : Nat → Nat → Nat} {cy : Nat → ClassId} {adX adM : Nat → Nat} {sa : SA} {R : St → St → Prop} (hL : L ≤ 1536) (C0 : LC p s m meth c b L xs dC dI cy adX adM sa) (hSim : Sim R) {i : Nat} (hi : i + 3 ≤ L) (nx : LN p l e s m below meth c b dC dI cy adX adM R i 966) : LN p l e s m below meth c b dC dI cy adX adM R i 953 := by
  obtain ⟨hx, hb, hml, hown, hts0, hX, hbl, hK, hJX, hJM, hAX, hAM, hdis, hE⟩ := C0
  have hbA : ¬ (fun q : Nat => s.heap.size ≤ q) b := Nat.not_le.mpr hbl
  intro d0 hd0 σX σM hRR H locs hPX hPM hS ls hl
  have hts := dr_words hts0 d0
  have hX : va_X b L xs (s.setDrawn d0) s.heap := hX
  obtain ⟨r, σX1, σM1, e1, e2, hRR⟩ := sim_restore hSim hRR
  refine lv_aload_n hx hb dL_law_953 rfl (lv_at hl 1 rfl) ?_
  refine xl_callVi (As := []) (rest := []) (r := r) (C := RX6) (ci := 6) ⟨hx, hb, hml, hown, hts⟩ 0 (mX6_restore l dC dI adX cy hJX σX (r, σX1) e1) (cwV 0 hts gL_law_X6_restore rfl rfl rfl dmX6_restore ⟨Nat.le_of_ble_eq_true rfl, Nat.le_of_ble_eq_true rfl⟩) hK hPX hPM (disO hdis) hAX hS (by decide) (LX6_obj adX cy _) rfl rfl rfl hl.1 (Nat.le_of_ble_eq_true rfl) ⟨Nat.le_refl _, Nat.le_refl _⟩ dL_law_954 (fun H locs hPX hPM hS => ?_)
  have hPX : va_P (dC, dI) vwCl (wd 93 adX (layX adX cy) σX1) H := hPX
  refine lv_aload_n hx hb dL_law_957 rfl (lv_at hl 2 rfl) ?_
  refine xl_callVi (As := []) (rest := [.int r]) (r := r) (C := RX7) (ci := 7) ⟨hx, hb, hml, hown, hts⟩ 0 (mX7_restore l dC dI adM cy hJM σM (r, σM1) e2) (cwV 0 hts gL_law_X7_restore rfl rfl rfl dmX7_restore ⟨Nat.le_of_ble_eq_true rfl, Nat.le_of_ble_eq_true rfl⟩) hK hPM hPX (disO' hdis) hAM hS (by decide) (LX7_obj adM cy _) rfl rfl rfl hl.1 (Nat.le_of_ble_eq_true rfl) ⟨Nat.le_refl _, Nat.le_refl _⟩ dL_law_958 (fun H locs hPM hPX hS => ?_)
  have hPM : va_P (dC, dI) vwCl (wd 16 adM (layM adM cy) σM1) H := hPM
  refine lv_icmp_eq (tgt := 966) hx hb dL_law_961 (by decide) (fun _ => ?_) (fun h => absurd rfl h)
  exact nx d0 hd0 σX1 σM1 hRR H locs hPX hPM hS ls hl
