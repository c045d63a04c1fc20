/-! The law: words of its own, the row of the lines, their heads (170 to 253). -/
theorem jl_J4 : ∀ w ∈ wsJ40, w ∈ wsL_law := by decide +kernel
theorem jl_J0 : ∀ w ∈ wsJ00, w ∈ wsL_law := by decide +kernel
theorem jl_1 : Cond.classLink RL 112 RJ4 ∈ wsL_law := by decide +kernel
theorem jl_2 : Cond.instantiable RJ4 4 ∈ wsL_law := by decide +kernel
theorem jl_3 : Cond.initialized RJ4 ∈ wsL_law := by decide +kernel
theorem jl_4 : Cond.methodLink RL 114 yJ4_init_da8c8 ∈ wsL_law := by decide +kernel
theorem jl_5 : Cond.instanceMethod yJ4_init_da8c8 ∈ wsL_law := by decide +kernel
theorem jl_6 : Cond.classLink RL 20 RJ0 ∈ wsL_law := by decide +kernel
theorem jl_8 : Cond.arrayClass .int ∈ wsL_law := by decide +kernel
theorem kch_len : ∀ i, i < 10 → (kch i).length ≤ 1 := by decide +kernel
theorem tl_int {t : List Nat} {n : Nat} (h : t.length ≤ n) (v : Nat) : (t ++ dg v).length ≤ n + 4 := by
  rw [List.length_append]
  have := dg_len v
  omega
theorem tl_const {t : List Nat} {n : Nat} (h : t.length ≤ n) (i : Nat) (hi : i < 10) : (t ++ kch i).length ≤ n + 1 := by
  rw [List.length_append]
  have := kch_len i hi
  omega
theorem tl_made {t w : List Nat} {n k : Nat} (h : t.length ≤ n) (hw : w.length ≤ k) : (t ++ w).length ≤ n + k := by
  rw [List.length_append]
  omega
theorem LnA.congr {D : va_G} {cy : Nat → ClassId} {aL n : Nat} {qs vs : Nat → Nat} {T T' : Nat → List Nat} {lo hi : Nat} {s : State} {H : Heap} (h : LnA D cy aL n qs vs T lo hi s H) (e : ∀ j, j < n → T j = T' j) : LnA D cy aL n qs vs T' lo hi s H := ⟨h.1, h.2.1, fun j hj => by rw [← e j hj]; exact h.2.2 j hj⟩
section LB
variable {p : Program} {l : Launch} {e : Env} {s : State} {m : MethodId} {below : List Frame} {meth : Method} {c : Code} {Q : State → Prop}
variable {dC : Nat → ClassId} {dI : Nat → Nat → Nat} {cy : Nat → ClassId} {tb : Nat × Nat} {aK aV : Nat → Nat} {b bL : Nat} {xs : Nat → Int32}
variable {adX adT : Nat → Nat} {σ : St} {zX zT : Nat} {G : Heap → Prop} {d : HD} {turn nc ns : Nat}
variable {τ : St} {H : Heap} {locs : List Loc} {ls : Array Slot} {rest : List Value} {pc index : Nat} {R : Room} {cells slots : Nat}
theorem LWd.gmap {G2 : Heap → Prop} (hw : LWd s dC dI cy adX 8 adT zT G σ (τ) H locs) (f : ∀ H, G H → G2 H) : LWd s dC dI cy adX 8 adT zT G2 σ (τ) H locs := ⟨hw.X, hw.T, f _ hw.g, hw.S, hw.z⟩
theorem lb_anew (hAO : va_AO RJ0 s) (F : LF p s m c dC dI cy tb adX aK aV zX b bL xs) (T : LT 8 adT zX zT) {Tx : Nat → List Nat} (hw : LWd s dC dI cy adX 8 adT zT G σ (τ) H locs) (hf : cells + 1 ≤ R.cells ∧ slots + 8 ≤ R.slots) (hdg : decode cL_law pc = .ok (.anewarray 20, 3))
    (kk : ∀ (aL : Nat) (H : Heap) (locs : List Loc), LWd s dC dI cy adX 8 adT zT (GL dC dI cy s zT aL 0 (fun _ => 0) (fun _ => 0) Tx) σ (τ) H locs → W p l e R s m #[Value.ref b] below meth c H locs (cells + 1) (slots + 8) Q (F0 m (pc + 3) ls (.ref aL :: rest))) : W p l e R s m #[Value.ref b] below meth c H locs cells slots Q (F0 m pc ls (.int 8 :: rest)) := by
  refine va_forget hw.S.2.2 ?_
  refine xt_newq (A := fun q => H.size ≤ q) (H0 := H) (ws := []) (n := 8) (N' := 8) F.S.1 F.S.2.1 F.S.2.2.2.1 (F.S.2.2.2.2 _ jl_6) hAO 5 rfl F.K (fun k q h => by simp at h) ⟨fun i j p q h => by simp at h, fun k q h => by simp at h⟩ va_S.rf (fun q h => h) (by decide) (by decide) (Nat.le_of_ble_eq_true rfl) hf.1 hf.2 hdg (fun aL H1 hP hD hS => ?_)
  have ha : H.size ≤ aL := hD.2 0 _ rfl
  have hk : ∀ q, q < H.size → H1[q]? = H[q]? := fun q h => hS.2.1 q h (Nat.not_le.mpr h)
  have h0 := hw.S.1
  refine kk aL H1 [] (hw.above F T hw.z hS.1 (fun q h _ => hk q h) (S_trans hw.S hS rfl (fun q h => Nat.le_trans h0 h)) ⟨⟨Nat.le_trans hw.z ha, (hP 0 _ rfl).lt⟩, ?_, fun j hj => absurd hj (Nat.not_lt_zero j)⟩)
  have e : (fun j => if j < 0 then some ((fun _ => 0 : Nat → Nat) j) else none) = (fun _ => none : Nat → Option Nat) := funext fun j => if_neg (Nat.not_lt_zero j)
  unfold LnE
  rw [e]
  exact hP

end LB
