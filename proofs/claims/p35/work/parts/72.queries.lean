/-! The class's answers, in the data's words. -/
def CX (σ : St) (d : HD) : Prop := dOk d ∧ XH 0 σ d ∧ cirOk 0 σ d ∧ moorX σ d (dB d)
def CI (σ : St) (d : HD) : Prop := CX σ d ∧ ∃ σM, allD σ σM d
theorem CI.of {σ σM : St} {d : HD} (h : allD σ σM d) : CI σ d := ⟨⟨h.1.1.1, h.1.1.2.1, h.1.2.1, h.1.2.2⟩, σM, h⟩
theorem CI.lined {σ σ' : St} {d : HD} {l : List Nat} (h : CI σ d) (hx : frP σ σ') (l1 : lnX σ' l) (l3 : l.length ≤ 80) (l4 : ∀ c ∈ l, c < 128) : CI σ' d := by
  obtain ⟨-, σM, a1, a2, ⟨k, nx, a3⟩, a4, a5, a6⟩ := h
  have x0 : σ' 0 = σ 0 := hx 0 (by omega) (by omega)
  refine CI.of (σM := fun a => if a = 15 then (fun i => nI (l.getD i 0)) else if a = 0 then upd (σM 0) 24 (nI l.length) else σM a) ⟨a1.congr (fun a _ _ => hx a (by omega) (by omega)) (fun a _ _ => hx a (by omega) (by omega)) (fun j _ => rfl), a2.congr (by rw [x0]) (by rw [x0]) rfl rfl, ⟨k, nx, a3.congr (hx 1 (by omega) (by omega)) rfl (fun a ha => hx a (by omega) (by omega)) (fun j _ _ => rfl)⟩, a4.congr (by rw [x0]) rfl (fun a _ _ => hx a (by omega) (by omega)) (fun j _ _ => rfl), a5.congr (by rw [hx 3 (by omega) (by omega)]) rfl (hx 4 (by omega) (by omega)) rfl, ⟨l.length, l3, l1.1, rfl, fun i hi => ⟨l.getD i 0, ?_, l1.2 i hi, rfl⟩⟩⟩
  rw [List.getD_eq_getElem?_getD, List.getElem?_eq_getElem hi]
  exact l4 _ (List.getElem_mem hi)
theorem CI.scratch {σ σ' : St} {d : HD} (h : CI σ d) (hx : scr σ σ') : CI σ' d := by
  obtain ⟨-, σM, a1, a2, ⟨k, nx, a3⟩, a4, a5, a6⟩ := h
  have x0 : σ' 0 = σ 0 := hx 0 (by omega)
  exact CI.of (σM := σM) ⟨a1.congr (fun a _ _ => hx a (by omega)) (fun a _ _ => hx a (by omega)) (fun j _ => rfl), a2.congr (by rw [x0]) (by rw [x0]) rfl rfl, ⟨k, nx, a3.congr (hx 1 (by omega)) rfl (fun a ha => hx a (by omega)) (fun j _ _ => rfl)⟩, a4.congr (by rw [x0]) rfl (fun a _ _ => hx a (by omega)) (fun j _ _ => rfl), a5.congr (by rw [hx 3 (by omega)]) rfl (hx 4 (by omega)) rfl, a6.congr (hx 5 (by omega)) rfl (hx 6 (by omega)) rfl⟩
theorem cq_p0 {σ : St} {d : HD} (hC : CX σ d) {p : Nat} (hp : p < dP d) : fX6_pierOf σ (nI p) 0 = some (nI (dbe d p)) := by
  obtain ⟨hd, h2, h3, h4⟩ := hC
  have h8 := hd.1
  have e66 : (6 : Int32) = nI 6 := by decide
  unfold fX6_pierOf
  simp only [pz_n0, pz_n1, pz_n2, pz_n3, pz_n4, pz_n5, e66, pz_n7, pz_n8, pz_n9, pz_n10, pz_n11, pz_n12, pz_n13, pz_n14, pz_neg]
  rw [pz_hasPier1 (h := 0) h2.1 (by omega) hp, pz_bd, if_neg pz_10, if_pos trivial, pz_gd (by omega) (by omega), pz_cl (by omega), show σ 34 p = nI (dbe d p) from h2.2.2.2.2.1 p hp]
theorem cq_p1 {σ : St} {d : HD} (hC : CX σ d) {p : Nat} (hp : p < dP d) : fX6_pierOf σ (nI p) 1 = some (bI (dop d p)) := by
  obtain ⟨hd, h2, h3, h4⟩ := hC
  have h8 := hd.1
  have e66 : (6 : Int32) = nI 6 := by decide
  unfold fX6_pierOf
  simp only [pz_n0, pz_n1, pz_n2, pz_n3, pz_n4, pz_n5, e66, pz_n7, pz_n8, pz_n9, pz_n10, pz_n11, pz_n12, pz_n13, pz_n14, pz_neg]
  rw [pz_hasPier1 (h := 0) h2.1 (by omega) hp, pz_bd, if_neg pz_10, if_neg (show ¬ nI 1 = nI 0 by decide), if_pos trivial, pz_gd (by omega) (by omega), pz_cl (by omega), show σ 35 p = bI (dop d p) from h2.2.2.2.2.2.1 p hp]
  cases dop d p with
  | true => rw [if_neg (show ¬ bI true = nI 0 from pz_10)]; rfl
  | false => rw [if_pos (show bI false = nI 0 from rfl)]; rfl
theorem cq_p2 {σ : St} {d : HD} (hC : CX σ d) {p : Nat} (hp : p < dP d) : fX6_pierOf σ (nI p) 2 = some (nI (nptD d p)) := by
  obtain ⟨hd, h2, h3, h4⟩ := hC
  have h8 := hd.1
  have e66 : (6 : Int32) = nI 6 := by decide
  unfold fX6_pierOf
  simp only [pz_n0, pz_n1, pz_n2, pz_n3, pz_n4, pz_n5, e66, pz_n7, pz_n8, pz_n9, pz_n10, pz_n11, pz_n12, pz_n13, pz_n14, pz_neg]
  rw [pz_hasPier1 (h := 0) h2.1 (by omega) hp, pz_bd, if_neg pz_10, if_neg (show ¬ nI 2 = nI 0 by decide), if_neg (show ¬ nI 2 = nI 1 by decide), if_pos trivial, pz_pointsOf hd h2 hp, pz_bd]
theorem cq_p3 {σ : St} {d : HD} (hC : CX σ d) {p : Nat} (hp : p < dP d) : fX6_pierOf σ (nI p) 3 = some (nI (stD d p)) := by
  obtain ⟨hd, h2, h3, h4⟩ := hC
  have h8 := hd.1
  have e66 : (6 : Int32) = nI 6 := by decide
  unfold fX6_pierOf
  simp only [pz_n0, pz_n1, pz_n2, pz_n3, pz_n4, pz_n5, e66, pz_n7, pz_n8, pz_n9, pz_n10, pz_n11, pz_n12, pz_n13, pz_n14, pz_neg]
  rw [pz_hasPier1 (h := 0) h2.1 (by omega) hp, pz_bd, if_neg pz_10, if_neg (show ¬ nI 3 = nI 0 by decide), if_neg (show ¬ nI 3 = nI 1 by decide), if_neg (show ¬ nI 3 = nI 2 by decide), if_pos trivial, pz_stretch hd h3 hp, pz_bd]
theorem cq_p4 {σ : St} {d : HD} (hC : CX σ d) {p : Nat} (hp : p < dP d) : fX6_pierOf σ (nI p) 4 = some (nI (hcD d (dB d) p)) := by
  obtain ⟨hd, h2, h3, h4⟩ := hC
  have h8 := hd.1
  have e66 : (6 : Int32) = nI 6 := by decide
  unfold fX6_pierOf
  simp only [pz_n0, pz_n1, pz_n2, pz_n3, pz_n4, pz_n5, e66, pz_n7, pz_n8, pz_n9, pz_n10, pz_n11, pz_n12, pz_n13, pz_n14, pz_neg]
  rw [pz_hasPier1 (h := 0) h2.1 (by omega) hp, pz_bd, if_neg pz_10, if_neg (show ¬ nI 4 = nI 0 by decide), if_neg (show ¬ nI 4 = nI 1 by decide), if_neg (show ¬ nI 4 = nI 2 by decide), if_neg (show ¬ nI 4 = nI 3 by decide), if_pos trivial, pz_gd (by omega) (by omega), pz_cl (by omega), (h4.2.1 p (by omega)).1]
theorem cq_p5 {σ : St} {d : HD} (hC : CX σ d) {p : Nat} (hp : p < dP d) : fX6_pierOf σ (nI p) 5 = some (nI (htD d (dB d) p)) := by
  obtain ⟨hd, h2, h3, h4⟩ := hC
  have h8 := hd.1
  have e66 : (6 : Int32) = nI 6 := by decide
  unfold fX6_pierOf
  simp only [pz_n0, pz_n1, pz_n2, pz_n3, pz_n4, pz_n5, e66, pz_n7, pz_n8, pz_n9, pz_n10, pz_n11, pz_n12, pz_n13, pz_n14, pz_neg]
  rw [pz_hasPier1 (h := 0) h2.1 (by omega) hp, pz_bd, if_neg pz_10, if_neg (show ¬ nI 5 = nI 0 by decide), if_neg (show ¬ nI 5 = nI 1 by decide), if_neg (show ¬ nI 5 = nI 2 by decide), if_neg (show ¬ nI 5 = nI 3 by decide), if_neg (show ¬ nI 5 = nI 4 by decide), if_pos trivial, pz_gd (by omega) (by omega), pz_cl (by omega), (h4.2.1 p (by omega)).2.1]
theorem cq_p6 {σ : St} {d : HD} (hC : CX σ d) {p : Nat} (hp : p < dP d) : fX6_pierOf σ (nI p) 6 = some (nI (lcD d (dB d) p)) := by
  obtain ⟨hd, h2, h3, h4⟩ := hC
  have h8 := hd.1
  have e66 : (6 : Int32) = nI 6 := by decide
  unfold fX6_pierOf
  simp only [pz_n0, pz_n1, pz_n2, pz_n3, pz_n4, pz_n5, e66, pz_n7, pz_n8, pz_n9, pz_n10, pz_n11, pz_n12, pz_n13, pz_n14, pz_neg]
  rw [pz_hasPier1 (h := 0) h2.1 (by omega) hp, pz_bd, if_neg pz_10, if_neg (show ¬ nI 6 = nI 0 by decide), if_neg (show ¬ nI 6 = nI 1 by decide), if_neg (show ¬ nI 6 = nI 2 by decide), if_neg (show ¬ nI 6 = nI 3 by decide), if_neg (show ¬ nI 6 = nI 4 by decide), if_neg (show ¬ nI 6 = nI 5 by decide), if_pos trivial, pz_gd (by omega) (by omega), pz_cl (by omega), (h4.2.1 p (by omega)).2.2.1]
theorem cq_p7 {σ : St} {d : HD} (hC : CX σ d) {p : Nat} (hp : p < dP d) : fX6_pierOf σ (nI p) 7 = some (nI (tkD d (dB d) p)) := by
  obtain ⟨hd, h2, h3, h4⟩ := hC
  have h8 := hd.1
  have e66 : (6 : Int32) = nI 6 := by decide
  unfold fX6_pierOf
  simp only [pz_n0, pz_n1, pz_n2, pz_n3, pz_n4, pz_n5, e66, pz_n7, pz_n8, pz_n9, pz_n10, pz_n11, pz_n12, pz_n13, pz_n14, pz_neg]
  rw [pz_hasPier1 (h := 0) h2.1 (by omega) hp, pz_bd, if_neg pz_10, if_neg (show ¬ nI 7 = nI 0 by decide), if_neg (show ¬ nI 7 = nI 1 by decide), if_neg (show ¬ nI 7 = nI 2 by decide), if_neg (show ¬ nI 7 = nI 3 by decide), if_neg (show ¬ nI 7 = nI 4 by decide), if_neg (show ¬ nI 7 = nI 5 by decide), if_neg (show ¬ nI 7 = nI 6 by decide), if_pos trivial, pz_gd (by omega) (by omega), pz_cl (by omega), (h4.2.1 p (by omega)).2.2.2]
theorem cq_p8 {σ : St} {d : HD} (hC : CX σ d) {p : Nat} (hp : p < dP d) : fX6_pierOf σ (nI p) 8 = some (nI (roomD d p)) := by
  obtain ⟨hd, h2, h3, h4⟩ := hC
  have h8 := hd.1
  have e66 : (6 : Int32) = nI 6 := by decide
  unfold fX6_pierOf
  simp only [pz_n0, pz_n1, pz_n2, pz_n3, pz_n4, pz_n5, e66, pz_n7, pz_n8, pz_n9, pz_n10, pz_n11, pz_n12, pz_n13, pz_n14, pz_neg]
  rw [pz_hasPier1 (h := 0) h2.1 (by omega) hp, pz_bd, if_neg pz_10, if_neg (show ¬ nI 8 = nI 0 by decide), if_neg (show ¬ nI 8 = nI 1 by decide), if_neg (show ¬ nI 8 = nI 2 by decide), if_neg (show ¬ nI 8 = nI 3 by decide), if_neg (show ¬ nI 8 = nI 4 by decide), if_neg (show ¬ nI 8 = nI 5 by decide), if_neg (show ¬ nI 8 = nI 6 by decide), if_neg (show ¬ nI 8 = nI 7 by decide), if_pos trivial, pz_roomOf hd h2 hp, pz_bd]
theorem cq_p9 {σ : St} {d : HD} (hC : CX σ d) {p : Nat} (hp : p < dP d) : fX6_pierOf σ (nI p) 9 = some (bI (hotD d p)) := by
  obtain ⟨hd, h2, h3, h4⟩ := hC
  have h8 := hd.1
  have e66 : (6 : Int32) = nI 6 := by decide
  unfold fX6_pierOf
  simp only [pz_n0, pz_n1, pz_n2, pz_n3, pz_n4, pz_n5, e66, pz_n7, pz_n8, pz_n9, pz_n10, pz_n11, pz_n12, pz_n13, pz_n14, pz_neg]
  rw [pz_hasPier1 (h := 0) h2.1 (by omega) hp, pz_bd, if_neg pz_10, if_neg (show ¬ nI 9 = nI 0 by decide), if_neg (show ¬ nI 9 = nI 1 by decide), if_neg (show ¬ nI 9 = nI 2 by decide), if_neg (show ¬ nI 9 = nI 3 by decide), if_neg (show ¬ nI 9 = nI 4 by decide), if_neg (show ¬ nI 9 = nI 5 by decide), if_neg (show ¬ nI 9 = nI 6 by decide), if_neg (show ¬ nI 9 = nI 7 by decide), if_neg (show ¬ nI 9 = nI 8 by decide), if_pos trivial, pz_isHot hd h2 h4 hp, pz_bd]
  cases hotD d p with
  | true => rw [if_neg (show ¬ bI true = nI 0 from pz_10)]; rfl
  | false => rw [if_pos (show bI false = nI 0 from rfl)]; rfl
theorem cq_b0 {σ : St} {d : HD} (hC : CX σ d) {b : Nat} (hb : b < dB d) : fX6_bargeOf σ (nI b) 0 = some (nI (dna d b)) := by
  obtain ⟨hd, h2, h3, h4⟩ := hC
  have h8 := hd.2.1
  have e66 : (6 : Int32) = nI 6 := by decide
  unfold fX6_bargeOf
  simp only [pz_n0, pz_n1, pz_n2, pz_n3, pz_n4, pz_n5, e66, pz_n7, pz_n8, pz_n9, pz_n10, pz_n11, pz_n12, pz_n13, pz_n14, pz_neg]
  rw [pz_hasBarge1 (h := 0) h2.2.1 (by omega) hb, pz_bd, if_neg pz_10, if_pos trivial, pz_gd (by omega) (by omega), pz_cl (by omega), show σ 36 b = nI (dna d b) from h2.2.2.2.2.2.2.1 b hb]
theorem cq_b1 {σ : St} {d : HD} (hC : CX σ d) {b : Nat} (hb : b < dB d) : fX6_bargeOf σ (nI b) 1 = some (nI (dto d b)) := by
  obtain ⟨hd, h2, h3, h4⟩ := hC
  have h8 := hd.2.1
  have e66 : (6 : Int32) = nI 6 := by decide
  unfold fX6_bargeOf
  simp only [pz_n0, pz_n1, pz_n2, pz_n3, pz_n4, pz_n5, e66, pz_n7, pz_n8, pz_n9, pz_n10, pz_n11, pz_n12, pz_n13, pz_n14, pz_neg]
  rw [pz_hasBarge1 (h := 0) h2.2.1 (by omega) hb, pz_bd, if_neg pz_10, if_neg (show ¬ nI 1 = nI 0 by decide), if_pos trivial, pz_gd (by omega) (by omega), pz_cl (by omega), show σ 37 b = nI (dto d b) from h2.2.2.2.2.2.2.2.1 b hb]
theorem cq_b2 {σ : St} {d : HD} (hC : CX σ d) {b : Nat} (hb : b < dB d) : fX6_bargeOf σ (nI b) 2 = some (nI (pbD d b)) := by
  obtain ⟨hd, h2, h3, h4⟩ := hC
  have h8 := hd.2.1
  have e66 : (6 : Int32) = nI 6 := by decide
  unfold fX6_bargeOf
  simp only [pz_n0, pz_n1, pz_n2, pz_n3, pz_n4, pz_n5, e66, pz_n7, pz_n8, pz_n9, pz_n10, pz_n11, pz_n12, pz_n13, pz_n14, pz_neg]
  rw [pz_hasBarge1 (h := 0) h2.2.1 (by omega) hb, pz_bd, if_neg pz_10, if_neg (show ¬ nI 2 = nI 0 by decide), if_neg (show ¬ nI 2 = nI 1 by decide), if_pos trivial, pz_pointOf hd h2 hb, pz_bd]
theorem cq_b3 {σ : St} {d : HD} (hC : CX σ d) {b : Nat} (hb : b < dB d) : fX6_bargeOf σ (nI b) 3 = some (oX (lieD d b)) := by
  obtain ⟨hd, h2, h3, h4⟩ := hC
  have h8 := hd.2.1
  have e66 : (6 : Int32) = nI 6 := by decide
  unfold fX6_bargeOf
  simp only [pz_n0, pz_n1, pz_n2, pz_n3, pz_n4, pz_n5, e66, pz_n7, pz_n8, pz_n9, pz_n10, pz_n11, pz_n12, pz_n13, pz_n14, pz_neg]
  rw [pz_hasBarge1 (h := 0) h2.2.1 (by omega) hb, pz_bd, if_neg pz_10, if_neg (show ¬ nI 3 = nI 0 by decide), if_neg (show ¬ nI 3 = nI 1 by decide), if_neg (show ¬ nI 3 = nI 2 by decide), if_pos trivial, pz_gd (by omega) (by omega), pz_cl (by omega), (h4.1 b hb).2.1]
theorem cq_b4 {σ : St} {d : HD} (hC : CX σ d) {b : Nat} (hb : b < dB d) : fX6_bargeOf σ (nI b) 4 = some (nI (pasD d b)) := by
  obtain ⟨hd, h2, h3, h4⟩ := hC
  have h8 := hd.2.1
  have e66 : (6 : Int32) = nI 6 := by decide
  unfold fX6_bargeOf
  simp only [pz_n0, pz_n1, pz_n2, pz_n3, pz_n4, pz_n5, e66, pz_n7, pz_n8, pz_n9, pz_n10, pz_n11, pz_n12, pz_n13, pz_n14, pz_neg]
  rw [pz_hasBarge1 (h := 0) h2.2.1 (by omega) hb, pz_bd, if_neg pz_10, if_neg (show ¬ nI 4 = nI 0 by decide), if_neg (show ¬ nI 4 = nI 1 by decide), if_neg (show ¬ nI 4 = nI 2 by decide), if_neg (show ¬ nI 4 = nI 3 by decide), if_pos trivial, pz_gd (by omega) (by omega), pz_cl (by omega), (h4.1 b hb).2.2]
theorem cq_a0 {σ : St} {d : HD} (hC : CX σ d) : fX6_account σ 0 = some (nI (dP d)) := by
  obtain ⟨hd, h2, h3, h4⟩ := hC
  have hall := lie_all d (dB d)
  have e66 : (6 : Int32) = nI 6 := by decide
  unfold fX6_account
  simp only [pz_n0, pz_n1, pz_n2, pz_n3, pz_n4, pz_n5, e66, pz_n7, pz_n8, pz_n9, pz_n10, pz_n11, pz_n12, pz_n13, pz_n14, pz_neg]
  rw [if_pos trivial, show σ 33 4 = nI (dP d) from h2.1]
theorem cq_a1 {σ : St} {d : HD} (hC : CX σ d) : fX6_account σ 1 = some (nI (opD d)) := by
  obtain ⟨hd, h2, h3, h4⟩ := hC
  have hall := lie_all d (dB d)
  have e66 : (6 : Int32) = nI 6 := by decide
  unfold fX6_account
  simp only [pz_n0, pz_n1, pz_n2, pz_n3, pz_n4, pz_n5, e66, pz_n7, pz_n8, pz_n9, pz_n10, pz_n11, pz_n12, pz_n13, pz_n14, pz_neg]
  rw [if_neg (show ¬ nI 1 = nI 0 by decide), if_pos trivial, pz_openPiers hd h2, pz_bd]
theorem cq_a2 {σ : St} {d : HD} (hC : CX σ d) : fX6_account σ 2 = some (nI (cntD d)) := by
  obtain ⟨hd, h2, h3, h4⟩ := hC
  have hall := lie_all d (dB d)
  have e66 : (6 : Int32) = nI 6 := by decide
  unfold fX6_account
  simp only [pz_n0, pz_n1, pz_n2, pz_n3, pz_n4, pz_n5, e66, pz_n7, pz_n8, pz_n9, pz_n10, pz_n11, pz_n12, pz_n13, pz_n14, pz_neg]
  rw [if_neg (show ¬ nI 2 = nI 0 by decide), if_neg (show ¬ nI 2 = nI 1 by decide), if_pos trivial, show σ 15 5 = nI (cntD d) from h3.1.1]
theorem cq_a3 {σ : St} {d : HD} (hC : CX σ d) : fX6_account σ 3 = some (nI (dB d)) := by
  obtain ⟨hd, h2, h3, h4⟩ := hC
  have hall := lie_all d (dB d)
  have e66 : (6 : Int32) = nI 6 := by decide
  unfold fX6_account
  simp only [pz_n0, pz_n1, pz_n2, pz_n3, pz_n4, pz_n5, e66, pz_n7, pz_n8, pz_n9, pz_n10, pz_n11, pz_n12, pz_n13, pz_n14, pz_neg]
  rw [if_neg (show ¬ nI 3 = nI 0 by decide), if_neg (show ¬ nI 3 = nI 1 by decide), if_neg (show ¬ nI 3 = nI 2 by decide), if_pos trivial, show σ 33 5 = nI (dB d) from h2.2.1]
theorem cq_a4 {σ : St} {d : HD} (hC : CX σ d) : fX6_account σ 4 = some (nI (ahD d (dB d))) := by
  obtain ⟨hd, h2, h3, h4⟩ := hC
  have hall := lie_all d (dB d)
  have e66 : (6 : Int32) = nI 6 := by decide
  unfold fX6_account
  simp only [pz_n0, pz_n1, pz_n2, pz_n3, pz_n4, pz_n5, e66, pz_n7, pz_n8, pz_n9, pz_n10, pz_n11, pz_n12, pz_n13, pz_n14, pz_neg]
  rw [if_neg (show ¬ nI 4 = nI 0 by decide), if_neg (show ¬ nI 4 = nI 1 by decide), if_neg (show ¬ nI 4 = nI 2 by decide), if_neg (show ¬ nI 4 = nI 3 by decide), if_pos trivial, h4.2.2.1]
theorem cq_a5 {σ : St} {d : HD} (hC : CX σ d) : fX6_account σ 5 = some (nI (elD d (dB d))) := by
  obtain ⟨hd, h2, h3, h4⟩ := hC
  have hall := lie_all d (dB d)
  have e66 : (6 : Int32) = nI 6 := by decide
  unfold fX6_account
  simp only [pz_n0, pz_n1, pz_n2, pz_n3, pz_n4, pz_n5, e66, pz_n7, pz_n8, pz_n9, pz_n10, pz_n11, pz_n12, pz_n13, pz_n14, pz_neg]
  rw [if_neg (show ¬ nI 5 = nI 0 by decide), if_neg (show ¬ nI 5 = nI 1 by decide), if_neg (show ¬ nI 5 = nI 2 by decide), if_neg (show ¬ nI 5 = nI 3 by decide), if_neg (show ¬ nI 5 = nI 4 by decide), if_pos trivial, h4.2.2.2]
theorem cq_a6 {σ : St} {d : HD} (hC : CX σ d) : fX6_account σ 6 = some (nI (noD d (dB d))) := by
  obtain ⟨hd, h2, h3, h4⟩ := hC
  have hall := lie_all d (dB d)
  have e66 : (6 : Int32) = nI 6 := by decide
  unfold fX6_account
  simp only [pz_n0, pz_n1, pz_n2, pz_n3, pz_n4, pz_n5, e66, pz_n7, pz_n8, pz_n9, pz_n10, pz_n11, pz_n12, pz_n13, pz_n14, pz_neg]
  rw [if_neg (show ¬ nI 6 = nI 0 by decide), if_neg (show ¬ nI 6 = nI 1 by decide), if_neg (show ¬ nI 6 = nI 2 by decide), if_neg (show ¬ nI 6 = nI 3 by decide), if_neg (show ¬ nI 6 = nI 4 by decide), if_neg (show ¬ nI 6 = nI 5 by decide), if_pos trivial, show σ 33 5 = nI (dB d) from h2.2.1, h4.2.2.1, h4.2.2.2, pz_sub (by omega), pz_sub (by omega), show dB d - ahD d (dB d) - elD d (dB d) = noD d (dB d) by omega]
theorem cq_a7 {σ : St} {d : HD} (hC : CX σ d) : fX6_account σ 7 = some (nI (atD d)) := by
  obtain ⟨hd, h2, h3, h4⟩ := hC
  have hall := lie_all d (dB d)
  have e66 : (6 : Int32) = nI 6 := by decide
  unfold fX6_account
  simp only [pz_n0, pz_n1, pz_n2, pz_n3, pz_n4, pz_n5, e66, pz_n7, pz_n8, pz_n9, pz_n10, pz_n11, pz_n12, pz_n13, pz_n14, pz_neg]
  rw [if_neg (show ¬ nI 7 = nI 0 by decide), if_neg (show ¬ nI 7 = nI 1 by decide), if_neg (show ¬ nI 7 = nI 2 by decide), if_neg (show ¬ nI 7 = nI 3 by decide), if_neg (show ¬ nI 7 = nI 4 by decide), if_neg (show ¬ nI 7 = nI 5 by decide), if_neg (show ¬ nI 7 = nI 6 by decide), if_pos trivial, pz_allTons hd h2, pz_bd]
theorem cq_a8 {σ : St} {d : HD} (hC : CX σ d) : fX6_account σ 8 = some (nI (alD d)) := by
  obtain ⟨hd, h2, h3, h4⟩ := hC
  have hall := lie_all d (dB d)
  have e66 : (6 : Int32) = nI 6 := by decide
  unfold fX6_account
  simp only [pz_n0, pz_n1, pz_n2, pz_n3, pz_n4, pz_n5, e66, pz_n7, pz_n8, pz_n9, pz_n10, pz_n11, pz_n12, pz_n13, pz_n14, pz_neg]
  rw [if_neg (show ¬ nI 8 = nI 0 by decide), if_neg (show ¬ nI 8 = nI 1 by decide), if_neg (show ¬ nI 8 = nI 2 by decide), if_neg (show ¬ nI 8 = nI 3 by decide), if_neg (show ¬ nI 8 = nI 4 by decide), if_neg (show ¬ nI 8 = nI 5 by decide), if_neg (show ¬ nI 8 = nI 6 by decide), if_neg (show ¬ nI 8 = nI 7 by decide), if_pos trivial, pz_allLying hd h4, pz_bd]
theorem cq_a9 {σ : St} {d : HD} (hC : CX σ d) : fX6_account σ 9 = some (nI (arD d)) := by
  obtain ⟨hd, h2, h3, h4⟩ := hC
  have hall := lie_all d (dB d)
  have e66 : (6 : Int32) = nI 6 := by decide
  unfold fX6_account
  simp only [pz_n0, pz_n1, pz_n2, pz_n3, pz_n4, pz_n5, e66, pz_n7, pz_n8, pz_n9, pz_n10, pz_n11, pz_n12, pz_n13, pz_n14, pz_neg]
  rw [if_neg (show ¬ nI 9 = nI 0 by decide), if_neg (show ¬ nI 9 = nI 1 by decide), if_neg (show ¬ nI 9 = nI 2 by decide), if_neg (show ¬ nI 9 = nI 3 by decide), if_neg (show ¬ nI 9 = nI 4 by decide), if_neg (show ¬ nI 9 = nI 5 by decide), if_neg (show ¬ nI 9 = nI 6 by decide), if_neg (show ¬ nI 9 = nI 7 by decide), if_neg (show ¬ nI 9 = nI 8 by decide), if_pos trivial, pz_allRoom hd h2, pz_bd]
theorem cq_a11 {σ : St} {d : HD} (hC : CX σ d) : fX6_account σ 11 = some (nI (dT d)) := by
  obtain ⟨hd, h2, h3, h4⟩ := hC
  have hall := lie_all d (dB d)
  have e66 : (6 : Int32) = nI 6 := by decide
  unfold fX6_account
  simp only [pz_n0, pz_n1, pz_n2, pz_n3, pz_n4, pz_n5, e66, pz_n7, pz_n8, pz_n9, pz_n10, pz_n11, pz_n12, pz_n13, pz_n14, pz_neg]
  rw [if_neg (show ¬ nI 11 = nI 0 by decide), if_neg (show ¬ nI 11 = nI 1 by decide), if_neg (show ¬ nI 11 = nI 2 by decide), if_neg (show ¬ nI 11 = nI 3 by decide), if_neg (show ¬ nI 11 = nI 4 by decide), if_neg (show ¬ nI 11 = nI 5 by decide), if_neg (show ¬ nI 11 = nI 6 by decide), if_neg (show ¬ nI 11 = nI 7 by decide), if_neg (show ¬ nI 11 = nI 8 by decide), if_neg (show ¬ nI 11 = nI 9 by decide), if_neg (show ¬ nI 11 = nI 10 by decide), if_pos trivial, show σ 33 6 = nI (dT d) from h2.2.2.1]
theorem cq_a12 {σ : St} {d : HD} (hC : CX σ d) : fX6_account σ 12 = some (nI (nhD d)) := by
  obtain ⟨hd, h2, h3, h4⟩ := hC
  have hall := lie_all d (dB d)
  have e66 : (6 : Int32) = nI 6 := by decide
  unfold fX6_account
  simp only [pz_n0, pz_n1, pz_n2, pz_n3, pz_n4, pz_n5, e66, pz_n7, pz_n8, pz_n9, pz_n10, pz_n11, pz_n12, pz_n13, pz_n14, pz_neg]
  rw [if_neg (show ¬ nI 12 = nI 0 by decide), if_neg (show ¬ nI 12 = nI 1 by decide), if_neg (show ¬ nI 12 = nI 2 by decide), if_neg (show ¬ nI 12 = nI 3 by decide), if_neg (show ¬ nI 12 = nI 4 by decide), if_neg (show ¬ nI 12 = nI 5 by decide), if_neg (show ¬ nI 12 = nI 6 by decide), if_neg (show ¬ nI 12 = nI 7 by decide), if_neg (show ¬ nI 12 = nI 8 by decide), if_neg (show ¬ nI 12 = nI 9 by decide), if_neg (show ¬ nI 12 = nI 10 by decide), if_neg (show ¬ nI 12 = nI 11 by decide), if_pos trivial, pz_hotPiers hd h2 h4, pz_bd]
theorem cq_r0 {σ : St} {d : HD} (hC : CX σ d) {i : Nat} (hi : i < cntD d) : fX6_ring σ (nI i) 0 = some (nI (paD d i)) := by
  obtain ⟨hd, h2, h3, h4⟩ := hC
  have h80 := cntD_le hd
  have hp := paD_facts hd hi
  have hx := nix_facts hp.1 hp.2.1
  have e66 : (6 : Int32) = nI 6 := by decide
  unfold fX6_ring
  simp only [pz_n0, pz_n1, pz_n2, pz_n3, pz_n4, pz_n5, e66, pz_n7, pz_n8, pz_n9, pz_n10, pz_n11, pz_n12, pz_n13, pz_n14, pz_neg]
  rw [if_neg (nI_nlt (Nat.zero_le _) (by omega)), show σ 15 5 = nI (cntD d) from h3.1.1, if_pos (nI_lt hi (by omega)), pz_gd (by omega) (by omega), pz_cl (by omega), show σ 16 i = nI (nixD d (paD d i)) from h3.2 i hi, pz_nm_, if_pos trivial, pz_gd (by omega) (by omega), pz_cl (by omega), show σ 17 (nixD d (paD d i)) = nI (paD d i) from (h3.1.2.2.1 _ hx.1).trans (by rw [hx.2])]
theorem cq_r1 {σ : St} {d : HD} (hC : CX σ d) {i : Nat} (hi : i < cntD d) : fX6_ring σ (nI i) 1 = some (nI (paD d i % 8)) := by
  obtain ⟨hd, h2, h3, h4⟩ := hC
  have h80 := cntD_le hd
  have hp := paD_facts hd hi
  have hx := nix_facts hp.1 hp.2.1
  have e66 : (6 : Int32) = nI 6 := by decide
  unfold fX6_ring
  simp only [pz_n0, pz_n1, pz_n2, pz_n3, pz_n4, pz_n5, e66, pz_n7, pz_n8, pz_n9, pz_n10, pz_n11, pz_n12, pz_n13, pz_n14, pz_neg]
  rw [if_neg (nI_nlt (Nat.zero_le _) (by omega)), show σ 15 5 = nI (cntD d) from h3.1.1, if_pos (nI_lt hi (by omega)), pz_gd (by omega) (by omega), pz_cl (by omega), show σ 16 i = nI (nixD d (paD d i)) from h3.2 i hi, pz_nm_, if_neg (show ¬ nI 1 = nI 0 by decide), if_pos trivial, pz_gd (by omega) (by omega), pz_cl (by omega), show σ 18 (nixD d (paD d i)) = nI (paD d i % 8) from (h3.1.2.2.2.1 _ hx.1).trans (by rw [hx.2])]
theorem cq_r2 {σ : St} {d : HD} (hC : CX σ d) {i : Nat} (hi : i < cntD d) : fX6_ring σ (nI i) 2 = some (nI (jqD (paD d i))) := by
  obtain ⟨hd, h2, h3, h4⟩ := hC
  have h80 := cntD_le hd
  have hp := paD_facts hd hi
  have hx := nix_facts hp.1 hp.2.1
  have e66 : (6 : Int32) = nI 6 := by decide
  unfold fX6_ring
  simp only [pz_n0, pz_n1, pz_n2, pz_n3, pz_n4, pz_n5, e66, pz_n7, pz_n8, pz_n9, pz_n10, pz_n11, pz_n12, pz_n13, pz_n14, pz_neg]
  rw [if_neg (nI_nlt (Nat.zero_le _) (by omega)), show σ 15 5 = nI (cntD d) from h3.1.1, if_pos (nI_lt hi (by omega)), pz_gd (by omega) (by omega), pz_cl (by omega), show σ 16 i = nI (nixD d (paD d i)) from h3.2 i hi, pz_nm_, if_neg (show ¬ nI 2 = nI 0 by decide), if_neg (show ¬ nI 2 = nI 1 by decide), if_pos trivial, pz_gd (by omega) (by omega), pz_cl (by omega), show σ 19 (nixD d (paD d i)) = nI (jqD (paD d i)) from (h3.1.2.2.2.2.1 _ hx.1).trans (by rw [hx.2])]
theorem cq_r3 {σ : St} {d : HD} (hC : CX σ d) {i : Nat} (hi : i < cntD d) : fX6_ring σ (nI i) 3 = some (nI (dpK d (nixD d (paD d i)))) := by
  obtain ⟨hd, h2, h3, h4⟩ := hC
  have h80 := cntD_le hd
  have hp := paD_facts hd hi
  have hx := nix_facts hp.1 hp.2.1
  have e66 : (6 : Int32) = nI 6 := by decide
  unfold fX6_ring
  simp only [pz_n0, pz_n1, pz_n2, pz_n3, pz_n4, pz_n5, e66, pz_n7, pz_n8, pz_n9, pz_n10, pz_n11, pz_n12, pz_n13, pz_n14, pz_neg]
  rw [if_neg (nI_nlt (Nat.zero_le _) (by omega)), show σ 15 5 = nI (cntD d) from h3.1.1, if_pos (nI_lt hi (by omega)), pz_gd (by omega) (by omega), pz_cl (by omega), show σ 16 i = nI (nixD d (paD d i)) from h3.2 i hi, pz_nm_, if_neg (show ¬ nI 3 = nI 0 by decide), if_neg (show ¬ nI 3 = nI 1 by decide), if_neg (show ¬ nI 3 = nI 2 by decide), if_pos trivial, pz_gd (by omega) (by omega), pz_cl (by omega), show σ 20 (nixD d (paD d i)) = nI (dpK d (nixD d (paD d i))) from h3.1.2.2.2.2.2.1 _ hx.1]
theorem cq_rN {σ : St} {d : HD} (hC : CX σ d) (w : Int32) : fX6_ring σ (nI (cntD d)) w = some (mI 11) := by
  obtain ⟨hd, h2, h3, h4⟩ := hC
  have h80 := cntD_le hd
  unfold fX6_ring
  simp only [pz_n0, pz_n11, pz_neg]
  rw [if_neg (nI_nlt (Nat.zero_le _) (by omega)), show σ 15 5 = nI (cntD d) from h3.1.1, if_neg (nI_nlt (Nat.le_refl _) (by omega))]
theorem cq_deep {σ : St} {d : HD} (hC : CX σ d) : fX6_deep σ = some (nI (hgK d (cntD d))) := by
  unfold fX6_deep
  rw [show σ 15 6 = nI (hgK d (cntD d)) from hC.2.2.1.1.2.1]
theorem cq_home {σ : St} {d : HD} (hC : CX σ d) {b : Nat} (hb : b < dB d) : fX6_home σ (nI b) = some (oX (homeD d (pbD d b))) := by
  obtain ⟨hd, h2, h3, h4⟩ := hC
  have h8 := hd.2.1
  unfold fX6_home
  rw [pz_n0, pz_hasBarge1 (h := 0) h2.2.1 (by omega) hb, pz_bd, if_neg pz_10, pz_pointOf hd h2 hb, pz_bd, pz_homeByTree hd (pbD_lt d b) h3.1, pz_bd]
theorem cq_homeAgain {σ : St} {d : HD} (hC : CX σ d) {b : Nat} (hb : b < dB d) : fX6_homeAgain σ (nI b) = some (oX (homeD d (pbD d b))) := by
  obtain ⟨hd, h2, h3, h4⟩ := hC
  have h8 := hd.2.1
  unfold fX6_homeAgain
  rw [pz_n0, pz_hasBarge1 (h := 0) h2.2.1 (by omega) hb, pz_bd, if_neg pz_10, pz_pointOf hd h2 hb, pz_bd, pz_homeAlong hd (pbD_lt d b) h3.1, pz_bd]
theorem cq_homeOf {σ : St} {d : HD} (hC : CX σ d) {q : Nat} (hq : q < 360) : fX6_homeOf σ (nI q) = some (oX (homeD d q)) := by
  obtain ⟨hd, h2, h3, h4⟩ := hC
  unfold fX6_homeOf
  rw [pz_n0, pz_n360, if_neg (nI_nlt (Nat.zero_le _) (by omega)), if_neg (nI_ge hq (by omega)), pz_homeByTree hd hq h3.1, pz_bd]
theorem cq_hottest {σ : St} {d : HD} (hC : CX σ d) (a : Int32) : fX6_hottest σ a = some (hotR d a) := pz_hottest hC.1 hC.2.1 hC.2.2.2 a
theorem cq_char {σ : St} {l : List Nat} (h : lnX σ l) (hl : l.length ≤ 80) {i : Nat} (hi : i < l.length) : fX6_character σ (nI i) = some (nI (l.getD i 0)) := by
  unfold fX6_character
  rw [pz_n0, if_neg (nI_nlt (Nat.zero_le _) (by omega)), h.1, if_neg (nI_ge hi (by omega)), pz_gd (by omega) (by omega), pz_cl (by omega), h.2 i hi]
theorem cq_bal {σ : St} {d : HD} (hC : CX σ d) : ∃ σ', fX6_isBalanced σ = some (nI 1, σ') ∧ scr σ σ' := by
  obtain ⟨hd, h2, h3, h4⟩ := hC
  obtain ⟨τ, g1, g2⟩ := pz_allNear hd h2 h3 h4
  refine ⟨τ, ?_, g2⟩
  unfold fX6_isBalanced
  rw [pz_homesAgree hd h2 h3, pz_bd, pz_fillRing hd h2 h3, pz_bd, pz_noExcess hd h2 h4, pz_bd, g1, pz_bd, pz_n0]
  dsimp only
  rw [if_neg pz_10, if_neg pz_10, if_neg pz_10, if_neg pz_10]
  rfl
theorem cq_mean {σ : St} {d : HD} (hC : CX σ d) : fX6_meanStretch σ = some (nI (opD d), 0) := by
  unfold fX6_meanStretch
  rw [pz_openPiers hC.1 hC.2.1, pz_bd]
theorem cq_share {σ : St} {d : HD} (hC : CX σ d) : ∃ z : Int32 × Int32, fX6_takenShare σ = some z ∧ z.1 = nI (arD d) ∧ (¬ nI (arD d) = 0 → z.2 = nI (alD d)) := by
  unfold fX6_takenShare
  rw [pz_allRoom hC.1 hC.2.1, pz_bd]
  by_cases h : nI (arD d) = 0
  · rw [if_pos h]
    exact ⟨_, rfl, rfl, fun q => absurd h q⟩
  · rw [if_neg h, pz_allLying hC.1 hC.2.2.2, pz_bd]
    exact ⟨_, rfl, rfl, fun _ => rfl⟩
/-- the head of a pier's line -/
def hdD (d : HD) (p : Nat) : List Nat := dg p ++ [42] ++ dg (dbe d p) ++ (if dop d p = true then [] else [120]) ++ [58]
def lnP (d : HD) (p : Nat) : List Nat := hdD d p ++ tlD d p (dB d)
theorem hdD_len {d : HD} (hd : dOk d) {p : Nat} (hp : p < dP d) : (hdD d p).length ≤ 5 := by
  have h8 := hd.1
  have hbe := hd.2.2.2.1 p hp
  have L1 := dg_len1 (n := p) (by omega)
  have L2 := dg_len1 (n := dbe d p) (by omega)
  unfold hdD
  split <;> simp [L1, L2]
theorem hdD_lt {d : HD} (hd : dOk d) {p : Nat} (hp : p < dP d) : ∀ c ∈ hdD d p, c < 128 := by
  have h8 := hd.1
  have hbe := hd.2.2.2.1 p hp
  intro c hc
  unfold hdD at hc
  simp only [List.mem_append] at hc
  rcases hc with (((hc | hc) | hc) | hc) | hc
  · exact dg_lt (by omega) c hc
  · simp at hc; omega
  · exact dg_lt (by omega) c hc
  · split at hc <;> simp at hc; omega
  · simp at hc; omega
theorem lnP_len {d : HD} (hd : dOk d) {p : Nat} (hp : p < dP d) : (lnP d p).length ≤ 77 := by
  have := hdD_len hd hp
  have h24 := hd.2.1
  have := tlD_len d p (dB d) h24
  unfold lnP
  rw [List.length_append]
  omega
theorem cq_tell {σ : St} {d : HD} (hC : CX σ d) {p : Nat} (hp : p < dP d) : ∃ σ', fX6_tell σ (nI p) = some (nI (lnP d p).length, σ') ∧ lnX σ' (lnP d p) ∧ frP σ σ' := by
  obtain ⟨hd, c2, c5, c6⟩ := hC
  have h8 := hd.1
  have h24 := hd.2.1
  unfold fX6_tell
  simp only [pz_n11, pz_n0, pz_n1, pz_neg, e42, e120]
  have hbe := hd.2.2.2.1 p hp
  rw [pz_hasPier1 (h := 0) c2.1 (by omega) hp, pz_bd, if_neg pz_10]
  obtain ⟨x1, p1, p2, p3⟩ := empty_ok σ
  obtain ⟨x2, p4, p5, p6⟩ := putNumber_ok (n := p) (by omega) p2 (by simp)
  have L1 := dg_len1 (n := p) (by omega)
  have L2 := dg_len1 (n := dbe d p) (by omega)
  obtain ⟨x3, p7, p8, p9⟩ := put_ok (c := 42) p5 (by simp [L1]) (by omega)
  have f3 : frP σ x3 := (p3.trans p6).trans p9
  have e34 : x3 34 p = nI (dbe d p) := by rw [f3 34 (by omega) (by omega)]; exact c2.2.2.2.2.1 p hp
  obtain ⟨x4, p10, p11, p12⟩ := putNumber_ok (n := dbe d p) (by omega) p8 (by simp [L1])
  have f4 : frP σ x4 := f3.trans p12
  have e35 : x4 35 p = bI (dop d p) := by rw [f4 35 (by omega) (by omega)]; exact c2.2.2.2.2.2.1 p hp
  rw [p1, pz_bd, p4, pz_bd, p7, pz_bd, pz_gd (by omega) (by omega), pz_cl (by omega), e34, p10, pz_bd, pz_gd (by omega) (by omega), e35]
  have fin_ : ∀ (xh : St) (hl : List Nat), lnX xh hl → hl.length ≤ 4 → frP σ xh → ∃ σ', fX6_tell_B75 xh (nI p) = some (nI ((hl ++ [58]) ++ tlD d p (dB d)).length, σ') ∧ lnX σ' ((hl ++ [58]) ++ tlD d p (dB d)) ∧ frP σ σ' := by
    intro xh hl u1 u3 u5
    unfold fX6_tell_B75
    obtain ⟨x5, v1, v2, v3⟩ := put_ok (c := 58) u1 (by omega) (by omega)
    have f5 : frP σ x5 := u5.trans v3
    rw [e58, v1, pz_bd, pz_n1, pz_n0]
    have hlen5 : (hl ++ [58]).length ≤ 5 := by rw [List.length_append]; have : [58].length = 1 := rfl; omega
    obtain ⟨x6, v4, v5, v6⟩ := tellX_loop hd (c2.congr (fun a x1 x2 => f5 a (by omega) (by omega))) (c6.congr (fun a x1 x2 => f5 a (by omega) (by omega))) hp hlen5 v2
    exact ⟨x6, v4, v5, f5.trans v6⟩
  unfold lnP hdD
  cases hop : dop d p with
  | false =>
    rw [if_pos (show bI false = nI 0 from rfl)]
    obtain ⟨x5, v1, v2, v3⟩ := put_ok (c := 120) p11 (by simp [L1, L2]) (by omega)
    rw [v1, pz_bd]
    exact fin_ x5 _ v2 (by simp [L1, L2]) (f4.trans v3)
  | true =>
    rw [if_neg (show ¬ bI true = nI 0 from pz_10)]
    have := fin_ x4 _ p11 (by simp [L1, L2]) f4
    simpa using this
/-- a barge's line -/
def lnB (d : HD) (b : Nat) : List Nat := dg b ++ [61] ++ dg (dna d b) ++ [64] ++ dg (pbD d b) ++ [43] ++ dg (dto d b) ++ [62] ++ (match lieD d b with | none => [45] | some p => dg p)
