/-! ALL TURNS are closed: what comes of a state that was tried is among the states. -/
/-- the first k states have all that comes of them by the steps that are tried; none is behind a while -/
abbrev CL (P : Nat → fI) (w nt : Nat) (fw : Bool) (x : xT) (k : Nat) : Prop := (∀ i, i < k → ∀ a, a ∈ rdl P w (xS x i) nt nt → (onlS P nt fw x i = none ∨ onlS P nt fw x i = some a) → ∃ s, s < xN x ∧ eqS (xS x s) (stp P w (xS x i) (a / 10) (a % 10) nt))
section CLS
variable {P : Nat → fI} {w nc nl nt n k a lim : Nat} {x y z : xT} {fw : Bool} {o : Option Nat}
theorem tryS_cl (h : tryS P w nl nt lim k x a = some y) : ∃ s, s < xN y ∧ eqS (xS y s) (stp P w (xS x k) (a / 10) (a % 10) nt) := by
  unfold tryS at h
  by_cases q : 200000 ≤ xM x
  · rw [if_pos q] at h; cases h
  rw [if_neg q] at h
  cases e : fndS (xS x) (stp P w (xS x k) (a / 10) (a % 10) nt) (xN x) 0 with
  | some i =>
    rw [e] at h
    cases h
    obtain ⟨-, b2, b3, -⟩ := fnd_some _ _ e
    exact ⟨i, by show i < xN x; omega, b3⟩
  | none =>
    rw [e] at h
    dsimp only at h
    by_cases q2 : lim ≤ xN x
    · rw [if_pos q2] at h; cases h
    rw [if_neg q2] at h
    cases h
    exact ⟨xN x, Nat.lt_succ_self _, by show eqS (at1 (xS x) (xN x) _ (xN x)) _; rw [at1_s]; exact eqS.rf⟩
theorem tryL_cl (hP : PV P nc nl nt n) (hw2 : w ≤ 2) (hl : lim = limS w) : ∀ (L : List Nat) (x y : xT), XV P w nc nl nt n x → k < xN x → (∀ a ∈ L, a ∈ rdl P w (xS x k) nt nt) → tryL P w nl nt lim k o L x = some y → ∀ a, a ∈ L → (o = none ∨ o = some a) → ∃ s, s < xN y ∧ eqS (xS y s) (stp P w (xS x k) (a / 10) (a % 10) nt) := by
  intro L
  induction L with
  | nil => intro x y _ _ _ _ a ha; cases ha
  | cons b L ih =>
    intro x y hX hk hL h a ha ho
    have e0 : tryL P w nl nt lim k o (b :: L) x = if o = none ∨ o = some b then (match tryS P w nl nt lim k x b with
      | none => none
      | some y => tryL P w nl nt lim k o L y) else tryL P w nl nt lim k o L x := rfl
    rw [e0] at h
    by_cases q : o = none ∨ o = some b
    · rw [if_pos q] at h
      cases e : tryS P w nl nt lim k x b with
      | none => rw [e] at h; cases h
      | some z =>
        rw [e] at h
        obtain ⟨b1, b2, b3, -⟩ := XV_try hP hw2 hX hk (hL b List.mem_cons_self) hl e
        have hLz : ∀ a' ∈ L, a' ∈ rdl P w (xS z k) nt nt := fun a' ha' => by rw [(b3 k hk).1]; exact hL a' (List.mem_cons_of_mem _ ha')
        rcases List.mem_cons.mp ha with rfl | ha
        · obtain ⟨s, s1, s2⟩ := tryS_cl e
          obtain ⟨c1, c2, c3, -⟩ := XV_L (o := o) hP hw2 hl L z y b1 (by omega) hLz h
          exact ⟨s, by omega, by rw [(c3 s s1).1]; exact s2⟩
        · have := ih z y b1 (by omega) hLz h a ha ho
          rw [(b3 k hk).1] at this
          exact this
    · rw [if_neg q] at h
      rcases List.mem_cons.mp ha with rfl | ha
      · exact absurd ho q
      · exact ih x y hX hk (fun a' ha' => hL a' (List.mem_cons_of_mem _ ha')) h a ha ho
theorem onl_cg (hk : k < xN x) (h : ∀ i, i < xN x → xS y i = xS x i ∧ xWh y i = xWh x i) : onlS P nt fw y k = onlS P nt fw x k := by
  unfold onlS
  rw [(h k hk).1, (h k hk).2]
theorem CL_ext (h : CL P w nt fw x k) (hk : k ≤ xN x) (hn : xN x ≤ xN y) (he : ∀ i, i < xN x → xS y i = xS x i ∧ xWh y i = xWh x i) : CL P w nt fw y k := by
  intro i hi a ha ho
  rw [onl_cg (show i < xN x by omega) he] at ho
  rw [(he i (by omega)).1] at ha ⊢
  obtain ⟨s, s1, s2⟩ := h i hi a ha ho
  exact ⟨s, by omega, by rw [(he s s1).1]; exact s2⟩
theorem CL_K (hP : PV P nc nl nt n) (hw2 : w ≤ 2) (hl : lim = limS w) : ∀ (m k : Nat) (x y : xT), XV P w nc nl nt n x → CL P w nt fw x k → m + k = 20000 → k ≤ xN x → exK P w nl nt lim fw m k x = some y → CL P w nt fw y (xN y) ∧ XV P w nc nl nt n y := by
  have hlim := @lim_le w
  intro m
  induction m with
  | zero =>
    intro k x y hx h hk hkN ht
    cases ht
    have := hx.1.2
    have e : k = xN x := by omega
    rw [e] at h
    exact ⟨h, hx⟩
  | succ m ih =>
    intro k x y hx h hk hkN ht
    have e : exK P w nl nt lim fw (m + 1) k x = if k < xN x then (match runK P w nl nt lim fw x k with
      | none => none
      | some y => exK P w nl nt lim fw m (k + 1) y) else some x := rfl
    rw [e] at ht
    by_cases q : k < xN x
    · rw [if_pos q] at ht
      cases hr : runK P w nl nt lim fw x k with
      | none => rw [hr] at ht; cases ht
      | some z =>
        rw [hr] at ht
        obtain ⟨z1, z2, z3, -⟩ := XV_L (lim := lim) (o := onlS P nt fw x k) hP hw2 hl (rdl P w (xS x k) nt nt) (begK x k) z (XV_beg hx) q (fun a ha => ha) hr
        have z2 : xN x ≤ xN z := z2
        have z4 : ∀ i, i < xN x → xS z i = xS x i ∧ xWh z i = xWh x i := fun i hi => ⟨(z3 i hi).1, (z3 i hi).2.2⟩
        have c := tryL_cl (lim := lim) (o := onlS P nt fw x k) hP hw2 hl (rdl P w (xS x k) nt nt) (begK x k) z (XV_beg hx) q (fun a ha => ha) hr
        refine ih (k + 1) z y z1 (fun i hi a ha ho => ?_) (by omega) (by omega) ht
        by_cases qi : i = k
        · subst qi
          rw [onl_cg q z4] at ho
          rw [(z4 i q).1] at ha ⊢
          exact c a ha ho
        · exact CL_ext h hkN z2 z4 i (by omega) a ha ho
    · rw [if_neg q] at ht
      cases ht
      have e : k = xN x := by omega
      rw [e] at h
      exact ⟨h, hx⟩
/-- a whole exploration -/
theorem expl_z {X : xT} (h : expl P w nc nl nt fw = some X) : ∃ z, exK P w nl nt (limS w) fw 20000 0 (beg0 (fst0 P w nc nt (fun _ => 0))) = some z ∧ X = begK z (xN z) := by
  have e : expl P w nc nl nt fw = match exK P w nl nt (limS w) fw 20000 0 (beg0 (fst0 P w nc nt (fun _ => 0))) with
    | none => none
    | some x => some (begK x (xN x)) := rfl
  rw [e] at h
  cases hr : exK P w nl nt (limS w) fw 20000 0 (beg0 (fst0 P w nc nt (fun _ => 0))) with
  | none => rw [hr] at h; cases h
  | some z => rw [hr] at h; exact ⟨z, rfl, (Option.some.inj h).symm⟩
theorem expl_CL (hP : PV P nc nl nt n) (hw2 : w ≤ 2) (hin : ∀ c, c < nc → inR (P 4 c)) {X : xT} (h : expl P w nc nl nt fw = some X) : CL P w nt fw X (xN X) ∧ XV P w nc nl nt n X := by
  obtain ⟨z, hr, rfl⟩ := expl_z h
  obtain ⟨a, b⟩ := CL_K hP hw2 rfl 20000 0 _ z (XV_0 hP hw2 hin) (fun i hi => absurd hi (Nat.not_lt_zero i)) rfl (Nat.zero_le _) hr
  exact ⟨a, XV_beg b⟩
end CLS
