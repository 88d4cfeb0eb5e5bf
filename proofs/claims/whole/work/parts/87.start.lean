/-! AT THE START: the empty program, all numbers 0 -/
def pr_0 : pr_T := (fun _ => 0, fun _ => 0, fun _ _ => (0, 0, 0, 0, 0))
theorem cA_0 (m : Nat) : cA (fun _ _ => 0) m = an_z := by
  refine Prod.ext (funext fun r => ?_) (Prod.ext (funext fun a => funext fun g => ?_) rfl)
  · show (if r < 4 then (0 : Int32) else 0) = 0
    split <;> rfl
  · show (if a < 27 ∧ g < 2 then (0 : Int32) else 0) = 0
    split <;> rfl
theorem cT_0 : cT pr_0 (fun _ _ => 0) := by
  refine ⟨fun _ => an_z, fun n hn => ⟨?_, ⟨cA_0 n, fun _ _ _ => rfl, fun z => absurd rfl z⟩, fun q hq => absurd hq (Nat.not_lt_zero q)⟩⟩
  unfold an_is1
  rw [if_pos (show pr_0.1 n = 0 from rfl)]
theorem j_start : jI pr_0 (fun _ _ => 0) (fun _ _ => 0) := by
  refine ⟨fun m _ => ⟨Nat.zero_le _, Nat.zero_le _, fun i hi => absurd hi (Nat.not_lt_zero i)⟩, fun m _ => ⟨rfl, rfl, fun i hi => absurd hi (Nat.not_lt_zero i)⟩, ?_, ⟨false, rfl, fun _ => cT_0⟩, ⟨false, rfl, fun z => absurd z (by decide)⟩, fun j _ => rfl, ⟨0, by omega, rfl, rfl⟩, rfl, rfl, rfl, rfl⟩
  exact fun m _ => ⟨rfl, rfl, fun i hi => absurd hi (Nat.not_lt_zero i)⟩
