/-! THE TOP: the first state. -/
theorem s0_R (a k : Nat) (h : a ≠ 65) : s0.2.2 a k = 0 := by
  have e : s0.2.2 a k = if a = 65 then (if k = 7 then 62 else 0) else 0 := rfl
  rw [e, if_neg h]
theorem s0_kn : ∀ j, j < 33 → s0.2.1 3 j = Int64.ofNat (KN.getD j 0) := by decide +kernel
theorem s0_cw : ∀ j, j < 7 → s0.2.1 66 j = Int64.ofNat (CWN.getD j 0) := by decide +kernel
theorem IV_0 : IV s0 := by
  refine ⟨IVp.to (b := false) (o := false) (e := false) (x := false) (g := false) (y := false) (P := fun _ _ => 0) (P2 := fun _ _ => 0) (V := fun _ => 0) (U := fun _ _ => 0) (cl := fun _ => 0) (nc := 0) (nl := 0) (nt := 0) (m := 0) (N := 0) (th := fun _ => 0) (K := fun _ => 0) (bl := fun _ => []) ⟨⟨⟨0, fun _ => 0, ⟨?_, by omega, fun i hi => absurd hi (Nat.not_lt_zero i), fun i hi => absurd hi (Nat.not_lt_zero i)⟩, ⟨?_, by omega, fun i hi => absurd hi (Nat.not_lt_zero i), fun i hi => absurd hi (Nat.not_lt_zero i)⟩⟩, ⟨s0_kn, s0_cw⟩, fun a k ha hk => absurd (s0_R a k (by have := ha.2; omega)) hk, ⟨⟨?_, ?_⟩, ⟨?_, ?_⟩, ?_⟩, ⟨[], ⟨?_, by decide, fun e he => absurd he (Nat.not_lt_zero e)⟩, ⟨?_, by decide, fun e he => absurd he (Nat.not_lt_zero e)⟩⟩⟩, ⟨?_, ?_⟩, ⟨?_, ?_⟩, fun z => (by cases z), fun z => (by cases z), ⟨⟨?_, ?_⟩, ?_, fun z => (by cases z), ⟨⟨fun _ => rfl, fun _ => ?_⟩, ⟨fun _ => rfl, fun _ => ?_⟩⟩, ?_, fun z => (by cases z)⟩, fun z => (by cases z), fun z => (by cases z)⟩, frS_0, fun a k ha hk => absurd (s0_R a k (by have : 151 ≤ a := ha; omega)) hk⟩
  all_goals decide +kernel
