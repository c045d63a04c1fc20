/-! The layout of the class's 93 cells and of the model's 16: which object stands where; all references are fixed. -/
abbrev tysX (cy : Nat → ClassId) : List (ClassId × FieldType) := [(cy 0, .int), (cy 1, .boolean), (cy 2, .char), (cy 3, .object RX1), (cy 4, .byte), (cy 5, .object RJ0)]
def layA (ad : Nat → Nat) (cy : Nat → ClassId) (k : Nat) (r : Nat → Int32) : va_E :=
  if k = 0 then .inr (6, [.ref (ad 33), .ref (ad 15), .ref (ad 7), .ref (ad 38), .ref (ad 24), .ref (ad 1), .ref (ad 43), .ref (ad 3), .ref (ad 5), .int (r 9), .int (r 10), .int (r 11)])
  else if k = 1 then .inr (2, [.int (r 0), .ref (ad 2), .int (r 2)])
  else if k = 2 then .inl (cy 3, 9, .inr (.inr (.inr (.inr (fun j => some (ad (33 + 5 * (3 + j))))))))
  else if k = 3 then .inr (5, [.int (r 0), .int (r 1), .int (r 2), .int (r 3), .ref (ad 4), .int (r 5)])
  else if k = 4 then .inl (cy 2, 60, .inl r)
  else if k = 5 then .inr (3, [.ref (ad 6), .int (r 1)])
  else if k = 6 then .inl (cy 2, 80, .inl r)
  else if k = 7 then .inr (4, [.ref (ad 8), .ref (ad 9), .ref (ad 10), .ref (ad 11), .ref (ad 12), .ref (ad 13), .ref (ad 14), .int (r 7), .int (r 8)])
  else if k < 11 then .inl (cy 0, 24, .inl r)
  else .inl (cy 0, 8, .inl r)
def layB (ad : Nat → Nat) (cy : Nat → ClassId) (k : Nat) (r : Nat → Int32) : va_E :=
  if k % 9 = 6 then .inr (0, [.ref (ad (k + 1)), .ref (ad (k + 2)), .ref (ad (k + 3)), .ref (ad (k + 4)), .ref (ad (k + 5)), .int (r 5), .int (r 6), .ref (ad (k + 6)), .ref (ad (k + 7)), .ref (ad (k + 8))])
  else if k % 9 = 3 then .inl (cy 0, 360, .inl r)
  else .inl (cy 0, 80, .inl r)
def layC (ad : Nat → Nat) (cy : Nat → ClassId) (k : Nat) (r : Nat → Int32) : va_E :=
  if k % 5 = 3 then .inr (1, [.ref (ad (k + 1)), .ref (ad (k + 2)), .ref (ad (k + 3)), .ref (ad (k + 4)), .int (r 4), .int (r 5), .int (r 6), .int (r 7)])
  else if k % 5 = 0 then .inl (cy 1, 8, .inl r)
  else if k % 5 = 4 then .inl (cy 0, 8, .inl r)
  else .inl (cy 0, 24, .inl r)
def layX (ad : Nat → Nat) (cy : Nat → ClassId) (k : Nat) (r : Nat → Int32) : va_E :=
  if k < 15 then layA ad cy k r else if k < 33 then layB ad cy k r else layC ad cy k r
theorem LX6_obj (ad : Nat → Nat) (cy : Nat → ClassId) (r : Nat → Int32) : layX ad cy 0 r = .inr (6, [.ref (ad 33), .ref (ad 15), .ref (ad 7), .ref (ad 38), .ref (ad 24), .ref (ad 1), .ref (ad 43), .ref (ad 3), .ref (ad 5), .int (r 9), .int (r 10), .int (r 11)]) := rfl
theorem LX2_obj (ad : Nat → Nat) (cy : Nat → ClassId) (r : Nat → Int32) : layX ad cy 1 r = .inr (2, [.int (r 0), .ref (ad 2), .int (r 2)]) := rfl
theorem LX2_rows (ad : Nat → Nat) (cy : Nat → ClassId) (r : Nat → Int32) : layX ad cy 2 r = .inl (cy 3, 9, .inr (.inr (.inr (.inr (fun j => some (ad (33 + 5 * (3 + j)))))))) := rfl
theorem LX5_obj (ad : Nat → Nat) (cy : Nat → ClassId) (r : Nat → Int32) : layX ad cy 3 r = .inr (5, [.int (r 0), .int (r 1), .int (r 2), .int (r 3), .ref (ad 4), .int (r 5)]) := rfl
theorem LX5_signs (ad : Nat → Nat) (cy : Nat → ClassId) (r : Nat → Int32) : layX ad cy 4 r = .inl (cy 2, 60, .inl r) := rfl
theorem LX3_obj (ad : Nat → Nat) (cy : Nat → ClassId) (r : Nat → Int32) : layX ad cy 5 r = .inr (3, [.ref (ad 6), .int (r 1)]) := rfl
theorem LX3_signs (ad : Nat → Nat) (cy : Nat → ClassId) (r : Nat → Int32) : layX ad cy 6 r = .inl (cy 2, 80, .inl r) := rfl
theorem LX4_obj (ad : Nat → Nat) (cy : Nat → ClassId) (r : Nat → Int32) : layX ad cy 7 r = .inr (4, [.ref (ad 8), .ref (ad 9), .ref (ad 10), .ref (ad 11), .ref (ad 12), .ref (ad 13), .ref (ad 14), .int (r 7), .int (r 8)]) := rfl
theorem LX4_homes (ad : Nat → Nat) (cy : Nat → ClassId) (r : Nat → Int32) : layX ad cy 8 r = .inl (cy 0, 24, .inl r) := rfl
theorem LX4_liesAt (ad : Nat → Nat) (cy : Nat → ClassId) (r : Nat → Int32) : layX ad cy 9 r = .inl (cy 0, 24, .inl r) := rfl
theorem LX4_passed (ad : Nat → Nat) (cy : Nat → ClassId) (r : Nat → Int32) : layX ad cy 10 r = .inl (cy 0, 24, .inl r) := rfl
theorem LX4_homeBarges (ad : Nat → Nat) (cy : Nat → ClassId) (r : Nat → Int32) : layX ad cy 11 r = .inl (cy 0, 8, .inl r) := rfl
theorem LX4_homeTons (ad : Nat → Nat) (cy : Nat → ClassId) (r : Nat → Int32) : layX ad cy 12 r = .inl (cy 0, 8, .inl r) := rfl
theorem LX4_lyingBarges (ad : Nat → Nat) (cy : Nat → ClassId) (r : Nat → Int32) : layX ad cy 13 r = .inl (cy 0, 8, .inl r) := rfl
theorem LX4_lyingTons (ad : Nat → Nat) (cy : Nat → ClassId) (r : Nat → Int32) : layX ad cy 14 r = .inl (cy 0, 8, .inl r) := rfl
theorem LX0_obj (ad : Nat → Nat) (cy : Nat → ClassId) (c : Nat) (hc : c < 2) (r : Nat → Int32) : layX ad cy (15 + 9 * c) r = .inr (0, [.ref (ad ((15 + 9 * c) + 1)), .ref (ad ((15 + 9 * c) + 2)), .ref (ad ((15 + 9 * c) + 3)), .ref (ad ((15 + 9 * c) + 4)), .ref (ad ((15 + 9 * c) + 5)), .int (r 5), .int (r 6), .ref (ad ((15 + 9 * c) + 6)), .ref (ad ((15 + 9 * c) + 7)), .ref (ad ((15 + 9 * c) + 8))]) := by
  unfold layX layB
  rw [if_neg (by omega), if_pos (by omega), if_pos (by omega)]
theorem LX0_nodeByPlace (ad : Nat → Nat) (cy : Nat → ClassId) (c : Nat) (hc : c < 2) (r : Nat → Int32) : layX ad cy ((15 + 9 * c) + 1) r = .inl (cy 0, 80, .inl r) := by
  unfold layX layB
  rw [if_neg (by omega), if_pos (by omega), if_neg (by omega), if_neg (by omega)]
theorem LX0_point (ad : Nat → Nat) (cy : Nat → ClassId) (c : Nat) (hc : c < 2) (r : Nat → Int32) : layX ad cy ((15 + 9 * c) + 2) r = .inl (cy 0, 80, .inl r) := by
  unfold layX layB
  rw [if_neg (by omega), if_pos (by omega), if_neg (by omega), if_neg (by omega)]
theorem LX0_owner (ad : Nat → Nat) (cy : Nat → ClassId) (c : Nat) (hc : c < 2) (r : Nat → Int32) : layX ad cy ((15 + 9 * c) + 3) r = .inl (cy 0, 80, .inl r) := by
  unfold layX layB
  rw [if_neg (by omega), if_pos (by omega), if_neg (by omega), if_neg (by omega)]
theorem LX0_number (ad : Nat → Nat) (cy : Nat → ClassId) (c : Nat) (hc : c < 2) (r : Nat → Int32) : layX ad cy ((15 + 9 * c) + 4) r = .inl (cy 0, 80, .inl r) := by
  unfold layX layB
  rw [if_neg (by omega), if_pos (by omega), if_neg (by omega), if_neg (by omega)]
theorem LX0_above (ad : Nat → Nat) (cy : Nat → ClassId) (c : Nat) (hc : c < 2) (r : Nat → Int32) : layX ad cy ((15 + 9 * c) + 5) r = .inl (cy 0, 80, .inl r) := by
  unfold layX layB
  rw [if_neg (by omega), if_pos (by omega), if_neg (by omega), if_neg (by omega)]
theorem LX0_nodeAt (ad : Nat → Nat) (cy : Nat → ClassId) (c : Nat) (hc : c < 2) (r : Nat → Int32) : layX ad cy ((15 + 9 * c) + 6) r = .inl (cy 0, 360, .inl r) := by
  unfold layX layB
  rw [if_neg (by omega), if_pos (by omega), if_neg (by omega), if_pos (by omega)]
theorem LX0_left (ad : Nat → Nat) (cy : Nat → ClassId) (c : Nat) (hc : c < 2) (r : Nat → Int32) : layX ad cy ((15 + 9 * c) + 7) r = .inl (cy 0, 80, .inl r) := by
  unfold layX layB
  rw [if_neg (by omega), if_pos (by omega), if_neg (by omega), if_neg (by omega)]
theorem LX0_right (ad : Nat → Nat) (cy : Nat → ClassId) (c : Nat) (hc : c < 2) (r : Nat → Int32) : layX ad cy ((15 + 9 * c) + 8) r = .inl (cy 0, 80, .inl r) := by
  unfold layX layB
  rw [if_neg (by omega), if_pos (by omega), if_neg (by omega), if_neg (by omega)]
theorem LX1_obj (ad : Nat → Nat) (cy : Nat → ClassId) (h : Nat) (hh : h < 12) (r : Nat → Int32) : layX ad cy (33 + 5 * h) r = .inr (1, [.ref (ad ((33 + 5 * h) + 1)), .ref (ad ((33 + 5 * h) + 2)), .ref (ad ((33 + 5 * h) + 3)), .ref (ad ((33 + 5 * h) + 4)), .int (r 4), .int (r 5), .int (r 6), .int (r 7)]) := by
  unfold layX layC
  rw [if_neg (by omega), if_neg (by omega), if_pos (by omega)]
theorem LX1_berths (ad : Nat → Nat) (cy : Nat → ClassId) (h : Nat) (hh : h < 12) (r : Nat → Int32) : layX ad cy ((33 + 5 * h) + 1) r = .inl (cy 0, 8, .inl r) := by
  unfold layX layC
  rw [if_neg (by omega), if_neg (by omega), if_neg (by omega), if_neg (by omega), if_pos (by omega)]
theorem LX1_opened (ad : Nat → Nat) (cy : Nat → ClassId) (h : Nat) (hh : h < 12) (r : Nat → Int32) : layX ad cy ((33 + 5 * h) + 2) r = .inl (cy 1, 8, .inl r) := by
  unfold layX layC
  rw [if_neg (by omega), if_neg (by omega), if_neg (by omega), if_pos (by omega)]
theorem LX1_names (ad : Nat → Nat) (cy : Nat → ClassId) (h : Nat) (hh : h < 12) (r : Nat → Int32) : layX ad cy ((33 + 5 * h) + 3) r = .inl (cy 0, 24, .inl r) := by
  unfold layX layC
  rw [if_neg (by omega), if_neg (by omega), if_neg (by omega), if_neg (by omega), if_neg (by omega)]
theorem LX1_tons (ad : Nat → Nat) (cy : Nat → ClassId) (h : Nat) (hh : h < 12) (r : Nat → Int32) : layX ad cy ((33 + 5 * h) + 4) r = .inl (cy 0, 24, .inl r) := by
  unfold layX layC
  rw [if_neg (by omega), if_neg (by omega), if_neg (by omega), if_neg (by omega), if_neg (by omega)]
