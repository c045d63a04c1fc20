/-! Pure rows: both systems as they are made. -/
def stX0 : St := fun k => if k = 0 then (fun j => if j = 10 ∨ j = 11 then -15 else 0) else if k = 21 ∨ k = 30 then fl 360 (-1) (fun _ => 0) else if 33 ≤ k ∧ k % 5 = 3 then (fun j => if j = 6 then 60 else 0) else fun _ => 0
def stM0 : St := fun k => if k = 1 then upd (fun _ => 0) (2 : Int32).toNatClampNeg 60 else fun _ => 0
def dNew : HD := (0, 0, 60, 0, fun _ => 0, fun _ => false, fun _ => 0, fun _ => 0)
theorem all0 : allR stX0 stM0 := by
  have hd : dOk dNew := ⟨Nat.zero_le _, Nat.zero_le _, ⟨by decide, by decide⟩, fun p hp => absurd hp (Nat.not_lt_zero p), fun p hp => absurd hp (Nat.not_lt_zero p)⟩
  have hx : XH 0 stX0 dNew := ⟨by decide, by decide, by decide, trivial, fun p hp => absurd hp (Nat.not_lt_zero p), fun p hp => absurd hp (Nat.not_lt_zero p), fun p hp => absurd hp (Nat.not_lt_zero p), fun p hp => absurd hp (Nat.not_lt_zero p), fun p hp => Or.inl pz_n0⟩
  have hm : MH (stM0 1) dNew := ⟨by decide, by decide, by decide, trivial, fun p hp => absurd hp (Nat.not_lt_zero p), fun p hp => absurd hp (Nat.not_lt_zero p), fun p hp => absurd hp (Nat.not_lt_zero p), fun p hp => absurd hp (Nat.not_lt_zero p)⟩
  have hc : cirOk 0 stX0 dNew := by
    refine ⟨⟨pz_n0, pz_n0, fun p hp => absurd hp (Nat.not_lt_zero p), fun p hp => absurd hp (Nat.not_lt_zero p), fun p hp => absurd hp (Nat.not_lt_zero p), fun p hp => absurd hp (Nat.not_lt_zero p), fun q hq => ?_, fun u hu => absurd hu (Nat.not_lt_zero u)⟩, fun p hp => absurd hp (Nat.not_lt_zero p)⟩
    rw [if_neg (fun h => Nat.not_lt_zero _ h.2)]
    show (if q < 360 then (-1 : Int32) else 0) = mI 1
    rw [if_pos hq]
    decide
  have hl : moorX stX0 dNew (dB dNew) := ⟨fun p hp => absurd hp (Nat.not_lt_zero p), fun p _ => ⟨pz_n0, pz_n0, pz_n0, pz_n0⟩, pz_n0, pz_n0⟩
  exact ⟨⟨dNew, ⟨hd, hx, hm, by decide⟩, hc, hl⟩, Or.inl ⟨by decide, by decide, by decide⟩, ⟨0, 0, Nat.zero_le _, by decide, pz_n0, pz_n0, pz_n0, fun i hi => absurd hi (Nat.not_lt_zero i)⟩, Or.inl ⟨by decide, by decide⟩, ⟨0, Nat.zero_le _, pz_n0, pz_n0, fun i hi => absurd hi (Nat.not_lt_zero i)⟩, ⟨0, Nat.zero_le _, pz_n0, pz_n0, fun i hi => absurd hi (Nat.not_lt_zero i)⟩⟩
