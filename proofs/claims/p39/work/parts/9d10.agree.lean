/-! TWO THREADS, ONE MEMORY: what of a state belongs to a thread. -/
/-- alike in what is thread t's: its places, the locks that it holds -/
abbrev ag (t : Nat) (N M : fI) : Prop := (∀ j, pv t j → N j = M j) ∧ ∀ l, l < 4 → (N (40 + l) = nI t ↔ M (40 + l) = nI t) ∧ (N (40 + l) = nI t → N (44 + l) = M (44 + l))
/-- locks are thread t's or free -/
abbrev own (t : Nat) (a : fI) : Prop := ∀ l, l < 4 → a (40 + l) = nI t ∨ (a (40 + l) = -1 ∧ a (44 + l) = 0)
/-- at a line that touches a cell -/
def tc (P : Nat → fI) (t : Nat) (a : fI) : Bool := decide (1 ≤ kd P (clp (a (4 + t)))) && decide (kd P (clp (a (4 + t))) ≤ 4)
/-- the cells of another state -/
def setc (a m : fI) : fI := fun j => if 48 ≤ j ∧ j < 56 then m j else a j
section AGR
variable {P : Nat → fI} {nc nl n t u i j k o : Nat} {N M a b : fI}
theorem ag_e (h : e56 N M) (ht : t < 2) (g : ag t N a) : ag t M a := by
  refine ⟨fun j hj => (h j (by omega)).symm.trans (g.1 j hj), fun l hl => ?_⟩
  rw [← h (40 + l) (by omega), ← h (44 + l) (by omega)]
  exact g.2 l hl
theorem nI_01 (ht : t < 2) (hu : u < 2) (h : t ≠ u) : nI t ≠ nI u := fun z => h ((nI_eq (by omega) (by omega)).mp z)
theorem nI_m1 (ht : t < 2) : (-1 : Int32) ≠ nI t := by
  intro z
  have := nI_pos (show t < 2 ^ 31 by omega)
  rw [← z] at this
  exact this (by decide)
theorem st0_hi (ht : t < 2) (hj : 12 ≤ j) : st0 P t M j = (ac0 P M t (clp (M (4 + t)))).2 j := by
  unfold st0
  split
  · rename_i g
    rw [ac_w g]
    show (if j = 8 + t then _ else if j = 4 + t then _ else if j = t then _ else M j) = M j
    rw [if_neg (by omega), if_neg (by omega), if_neg (by omega)]
  · show (if j = t then _ else if j = 4 + t then _ else _) = _
    rw [if_neg (by omega), if_neg (by omega)]
/-- lock lines, at their lock -/
theorem ac0_5 (k5 : kd P i = 5) : (ac0 P M t i).2 (40 + ob P i) = (if 9 ≤ M (44 + ob P i) then M (40 + ob P i) else nI t) ∧ (ac0 P M t i).2 (44 + ob P i) = (if 9 ≤ M (44 + ob P i) then M (44 + ob P i) else M (44 + ob P i) + 1) := by
  unfold ac0
  rw [if_neg (show ¬ kd P i = 1 by omega), if_pos k5]
  split
  · exact ⟨rfl, rfl⟩
  · exact ⟨(pk_un (by omega)).trans pk_us, pk_us⟩
theorem ac0_6 (k6 : kd P i = 6) : (ac0 P M t i).2 (40 + ob P i) = (if M (40 + ob P i) = nI t ∧ M (44 + ob P i) - 1 = 0 then -1 else M (40 + ob P i)) ∧ (ac0 P M t i).2 (44 + ob P i) = (if M (40 + ob P i) = nI t then M (44 + ob P i) - 1 else M (44 + ob P i)) := by
  unfold ac0
  rw [if_neg (show ¬ kd P i = 1 by omega), if_neg (show ¬ kd P i = 5 by omega), if_pos k6]
  by_cases g : M (40 + ob P i) = nI t
  · rw [if_neg (not_not_intro g), if_pos g]
    dsimp only
    by_cases z : M (44 + ob P i) - 1 = 0
    · rw [if_pos z, if_pos ⟨g, z⟩]
      exact ⟨pk_us, (pk_un (by omega)).trans pk_us⟩
    · rw [if_neg z, if_neg (fun q => z q.2)]
      exact ⟨pk_un (by omega), pk_us⟩
  · rw [if_pos g, if_neg g, if_neg (fun q => g q.1)]
    exact ⟨rfl, rfl⟩
theorem sv_lk (hS : SV P 0 nc nl 2 n N) {l : Nat} (hl : l < 4) : (N (40 + l) = -1 ∧ N (44 + l) = 0) ∨ ∃ t, t < 2 ∧ N (40 + l) = nI t := by
  rcases hS.2.2.1 l hl with h | ⟨-, t, q, ht, h, -⟩
  · exact Or.inl h
  · exact Or.inr ⟨t, ht, h⟩
/-- a line that touches no cell: what comes of a thread's part hangs on that part alone -/
theorem ag_own (hG : GP P nc nl n) (hS : SV P 0 nc nl 2 n N) (ht : t < 2) (hr : rd0 P t N) (hg : ag t N a) (ho : own t a) (hc : tc P t N = false) : ag t (st0 P t N) (st0 P t a) ∧ own t (st0 P t a) := by
  obtain ⟨hi, -, -⟩ := run_ln hG.1 hS ht hr.1
  obtain ⟨⟨u, hu, h8, -, -, -, hl⟩, -, g3, g4⟩ := gp_ln hG hi
  have e4 : a (4 + t) = N (4 + t) := (hg.1 (4 + t) (by omega)).symm
  have hc : ¬ (1 ≤ kd P (clp (N (4 + t))) ∧ kd P (clp (N (4 + t))) ≤ 4) := by
    intro z
    unfold tc at hc
    rw [decide_eq_true z.1, decide_eq_true z.2] at hc
    cases hc
  have h5 : kd P (clp (N (4 + t))) = 5 → N (44 + ob P (clp (N (4 + t)))) = a (44 + ob P (clp (N (4 + t)))) := by
    intro k5
    have hl := g3 (by omega) (by omega)
    by_cases q : N (40 + ob P (clp (N (4 + t)))) = nI t
    · exact (hg.2 _ hl).2 q
    · have h0 := (hr.2 k5).resolve_right q
      have e0 : N (44 + ob P (clp (N (4 + t)))) = 0 := by
        rcases sv_lk hS hl with z | ⟨u, hu, z⟩
        · exact z.2
        · rw [z] at h0
          exact absurd h0 (nI_pos (by omega))
      rw [e0]
      rcases ho _ hl with z | z
      · exact absurd ((hg.2 _ hl).1.mpr z) q
      · exact z.2.symm
  have A := st0_ag hG hS hr.1 ht hg.1 (fun z1 z2 => absurd ⟨z1, z2⟩ hc) h5 (fun k6 => hg.2 _ (g3 (by omega) (by omega)))
  -- locks that the line does not name
  have F : ∀ (M : fI) (j : Nat), clp (M (4 + t)) = clp (N (4 + t)) → 40 ≤ j → j < 48 → (kd P (clp (N (4 + t))) = 5 ∨ kd P (clp (N (4 + t))) = 6 → j ≠ 40 + ob P (clp (N (4 + t))) ∧ j ≠ 44 + ob P (clp (N (4 + t)))) → st0 P t M j = M j := by
    intro M j eM h1 h2 h3
    rw [st0_hi ht (by omega), eM]
    exact ac0_o hl ht (by omega) h3 (fun z1 z2 => absurd ⟨by omega, z2⟩ hc)
  have L : ∀ l, l < 4 → ((st0 P t N (40 + l) = nI t ↔ st0 P t a (40 + l) = nI t) ∧ (st0 P t N (40 + l) = nI t → st0 P t N (44 + l) = st0 P t a (44 + l))) ∧ (st0 P t a (40 + l) = nI t ∨ (st0 P t a (40 + l) = -1 ∧ st0 P t a (44 + l) = 0)) := by
    intro l hl4
    by_cases q : (kd P (clp (N (4 + t))) = 5 ∨ kd P (clp (N (4 + t))) = 6) ∧ l = ob P (clp (N (4 + t)))
    · obtain ⟨k56, rfl⟩ := q
      have hgl := hg.2 _ hl4
      have hol := ho _ hl4
      rw [st0_hi ht (by omega), st0_hi ht (by omega), st0_hi ht (by omega), st0_hi ht (by omega), e4]
      rcases k56 with k5 | k6
      · obtain ⟨a1, a2⟩ := ac0_5 (M := N) (t := t) k5
        obtain ⟨b1, b2⟩ := ac0_5 (M := a) (t := t) k5
        rw [a1, a2, b1, b2, ← h5 k5]
        by_cases g : (9 : Int32) ≤ N (44 + ob P (clp (N (4 + t))))
        · rw [if_pos g, if_pos g, if_pos g]
          refine ⟨⟨hgl.1, fun _ => rfl⟩, ?_⟩
          rcases hol with z | z
          · exact Or.inl z
          · exact Or.inr ⟨z.1, (h5 k5).trans z.2⟩
        · rw [if_neg g, if_neg g, if_neg g]
          exact ⟨⟨Iff.rfl, fun _ => rfl⟩, Or.inl rfl⟩
      · obtain ⟨a1, a2⟩ := ac0_6 (M := N) (t := t) k6
        obtain ⟨b1, b2⟩ := ac0_6 (M := a) (t := t) k6
        rw [a1, a2, b1, b2]
        by_cases g : N (40 + ob P (clp (N (4 + t)))) = nI t
        · have g' := hgl.1.mp g
          rw [if_pos g, if_pos g', ← hgl.2 g]
          by_cases z : N (44 + ob P (clp (N (4 + t)))) - 1 = 0
          · rw [if_pos ⟨g, z⟩, if_pos ⟨g', z⟩]
            exact ⟨⟨Iff.rfl, fun _ => rfl⟩, Or.inr ⟨rfl, z⟩⟩
          · rw [if_neg (fun q => z q.2), if_neg (fun q => z q.2), g, g']
            exact ⟨⟨Iff.rfl, fun _ => rfl⟩, Or.inl rfl⟩
        · have g' : ¬ a (40 + ob P (clp (N (4 + t)))) = nI t := fun z => g (hgl.1.mpr z)
          rw [if_neg g, if_neg g', if_neg (fun q => g q.1), if_neg (fun q => g' q.1)]
          exact ⟨hgl, hol⟩
    · have c : ∀ j, j = 40 + l ∨ j = 44 + l → kd P (clp (N (4 + t))) = 5 ∨ kd P (clp (N (4 + t))) = 6 → j ≠ 40 + ob P (clp (N (4 + t))) ∧ j ≠ 44 + ob P (clp (N (4 + t))) := by
        intro j hj hk
        have : l ≠ ob P (clp (N (4 + t))) := fun z => q ⟨hk, z⟩
        have := g3 (by omega) (by omega)
        omega
      rw [F N (40 + l) rfl (by omega) (by omega) (c _ (Or.inl rfl)), F N (44 + l) rfl (by omega) (by omega) (c _ (Or.inr rfl)), F a (40 + l) (by rw [e4]) (by omega) (by omega) (c _ (Or.inl rfl)), F a (44 + l) (by rw [e4]) (by omega) (by omega) (c _ (Or.inr rfl))]
      exact ⟨hg.2 l hl4, ho l hl4⟩
  exact ⟨⟨fun j hj => A j (hg.1 j hj), fun l hl4 => (L l hl4).1⟩, fun l hl4 => (L l hl4).2⟩
/-- a line that touches a cell -/
theorem ag_tc (hG : GP P nc nl n) (hS : SV P 0 nc nl 2 n N) (ht : t < 2) (hr : rd0 P t N) (hg : ag t N a) (ho : own t a) (hc : tc P t N = true) (hm : ∀ j, 48 ≤ j → j < 56 → N j = a j) : ag t (st0 P t N) (st0 P t a) ∧ own t (st0 P t a) ∧ ∀ j, 48 ≤ j → j < 56 → st0 P t N j = st0 P t a j := by
  obtain ⟨hi, -, -⟩ := run_ln hG.1 hS ht hr.1
  obtain ⟨⟨u, hu, h8, -, -, -, hl⟩, g2, g3, g4⟩ := gp_ln hG hi
  have e4 : a (4 + t) = N (4 + t) := (hg.1 (4 + t) (by omega)).symm
  have hc : 1 ≤ kd P (clp (N (4 + t))) ∧ kd P (clp (N (4 + t))) ≤ 4 := by
    unfold tc at hc
    obtain ⟨z1, z2⟩ := (Bool.and_eq_true _ _).mp hc
    exact ⟨of_decide_eq_true z1, of_decide_eq_true z2⟩
  have ho8 := g2 hc.1 hc.2
  have A := st0_ag hG hS hr.1 ht hg.1 (fun z1 z2 => hm _ (by omega) (by omega)) (fun z => by omega) (fun z => by omega)
  have F : ∀ (M : fI) (j : Nat), clp (M (4 + t)) = clp (N (4 + t)) → 40 ≤ j → j < 48 → st0 P t M j = M j := by
    intro M j eM h1 h2
    rw [st0_hi ht (by omega), eM]
    exact ac0_o hl ht (by omega) (fun z => by omega) (fun z1 z2 => by omega)
  refine ⟨⟨fun j hj => A j (hg.1 j hj), fun l hl4 => ?_⟩, fun l hl4 => ?_, fun j h1 h2 => A j (hm j h1 h2)⟩
  · rw [F N (40 + l) rfl (by omega) (by omega), F N (44 + l) rfl (by omega) (by omega), F a (40 + l) (by rw [e4]) (by omega) (by omega), F a (44 + l) (by rw [e4]) (by omega) (by omega)]
    exact hg.2 l hl4
  · rw [F a (40 + l) (by rw [e4]) (by omega) (by omega), F a (44 + l) (by rw [e4]) (by omega) (by omega)]
    exact ho l hl4
/-- another thread's part -/
theorem ag_u (hG : GP P nc nl n) (hS : SV P 0 nc nl 2 n N) (ht : t < 2) (hu : u < 2) (hut : u ≠ t) (hr : rd0 P t N) (hg : ag u N b) : ag u (st0 P t N) b := by
  obtain ⟨hi, -, -⟩ := run_ln hG.1 hS ht hr.1
  obtain ⟨⟨v, hv, h8, -, -, -, hl⟩, g2, g3, g4⟩ := gp_ln hG hi
  refine ⟨fun j hj => (st0_u hG hS hr.1 ht hut hu hj).trans (hg.1 j hj), fun l hl4 => ?_⟩
  by_cases q : (kd P (clp (N (4 + t))) = 5 ∨ kd P (clp (N (4 + t))) = 6) ∧ l = ob P (clp (N (4 + t)))
  · obtain ⟨k56, rfl⟩ := q
    have hgl := hg.2 _ hl4
    have n1 := nI_01 ht hu (fun z => hut z.symm)
    have n2 := nI_m1 hu
    rw [st0_hi ht (by omega), st0_hi ht (by omega)]
    rcases k56 with k5 | k6
    · obtain ⟨a1, a2⟩ := ac0_5 (M := N) (t := t) k5
      rw [a1, a2]
      have hN : ¬ N (40 + ob P (clp (N (4 + t)))) = nI u := by
        intro z
        rcases hr.2 k5 with w | w
        · rw [z] at w; exact absurd w (nI_pos (by omega))
        · rw [w] at z; exact n1 z
      have hb : ¬ b (40 + ob P (clp (N (4 + t)))) = nI u := fun z => hN (hgl.1.mpr z)
      by_cases g : (9 : Int32) ≤ N (44 + ob P (clp (N (4 + t))))
      · rw [if_pos g, if_pos g]; exact hgl
      · rw [if_neg g, if_neg g]
        exact ⟨⟨fun z => absurd z n1, fun z => absurd z hb⟩, fun z => absurd z n1⟩
    · obtain ⟨a1, a2⟩ := ac0_6 (M := N) (t := t) k6
      rw [a1, a2]
      by_cases g : N (40 + ob P (clp (N (4 + t)))) = nI t
      · have hN : ¬ N (40 + ob P (clp (N (4 + t)))) = nI u := by rw [g]; exact n1
        have hb : ¬ b (40 + ob P (clp (N (4 + t)))) = nI u := fun z => hN (hgl.1.mpr z)
        rw [if_pos g]
        have h3 : ¬ (if N (40 + ob P (clp (N (4 + t)))) = nI t ∧ N (44 + ob P (clp (N (4 + t)))) - 1 = 0 then (-1 : Int32) else N (40 + ob P (clp (N (4 + t))))) = nI u := by
          split
          · exact n2
          · exact hN
        exact ⟨⟨fun z => absurd z h3, fun z => absurd z hb⟩, fun z => absurd z h3⟩
      · rw [if_neg g, if_neg (fun q => g q.1)]
        exact hgl
  · have c : ∀ j, j = 40 + l ∨ j = 44 + l → kd P (clp (N (4 + t))) = 5 ∨ kd P (clp (N (4 + t))) = 6 → j ≠ 40 + ob P (clp (N (4 + t))) ∧ j ≠ 44 + ob P (clp (N (4 + t))) := by
      intro j hj hk
      have : l ≠ ob P (clp (N (4 + t))) := fun z => q ⟨hk, z⟩
      have := g3 (by omega) (by omega)
      omega
    rw [st0_o hG hS hr.1 ht (by omega) (c _ (Or.inl rfl)) (fun z1 z2 => by omega), st0_o hG hS hr.1 ht (by omega) (c _ (Or.inr rfl)) (fun z1 z2 => by omega)]
    exact hg.2 l hl4
/-- a line that touches no cell leaves cells as they are -/
theorem cells_o (hG : GP P nc nl n) (hS : SV P 0 nc nl 2 n N) (ht : t < 2) (hr : rd0 P t N) (hc : tc P t N = false) (h1 : 48 ≤ j) (h2 : j < 56) : st0 P t N j = N j := by
  obtain ⟨hi, -, -⟩ := run_ln hG.1 hS ht hr.1
  obtain ⟨-, g2, g3, g4⟩ := gp_ln hG hi
  refine st0_o hG hS hr.1 ht (by omega) (fun z => by have := g3 (by omega) (by omega); omega) (fun z1 z2 => ?_)
  unfold tc at hc
  rw [decide_eq_true (show 1 ≤ kd P (clp (N (4 + t))) by omega), decide_eq_true z2] at hc
  cases hc
end AGR
