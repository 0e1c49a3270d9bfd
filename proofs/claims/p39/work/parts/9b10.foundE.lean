/-! ALL TURNS: where each state's steps begin; each state found has its step. -/
abbrev XJ (x : xT) (k : Nat) : Prop := (∀ i j, i ≤ j → j < k → xA x i ≤ xA x j) ∧ (∀ i, i < k → xA x i ≤ xM x) ∧ ∀ s, 1 ≤ s → s < xN x → (xF x s).1 < k ∧ ∃ e, xA x (xF x s).1 ≤ e ∧ e < xM x ∧ ((xF x s).1 + 1 < k → e < xA x ((xF x s).1 + 1)) ∧ xE x e = (s, (xF x s).2)
section XJJ
variable {P : Nat → fI} {w nc nl nt n k a lim : Nat} {x y : xT} {fw : Bool} {o : Option Nat}
theorem XJ_beg (h : XJ x k) : XJ (begK x k) (k + 1) := by
  obtain ⟨h1, h2, h3⟩ := h
  have ek : xA (begK x k) k = xM x := at1_s
  have en : ∀ i, i < k → xA (begK x k) i = xA x i := fun i hi => at1_n (by omega)
  refine ⟨fun i j hij hj => ?_, fun i hi => ?_, fun s s1 sN => ?_⟩
  · by_cases q : j = k
    · subst q
      rw [ek]
      by_cases q2 : i = j
      · rw [q2, ek]; exact Nat.le_refl _
      · rw [en i (by omega)]; exact h2 i (by omega)
    · rw [en j (by omega), en i (by omega)]
      exact h1 i j hij (by omega)
  · show xA (begK x k) i ≤ xM x
    by_cases q : i = k
    · rw [q, ek]; exact Nat.le_refl _
    · rw [en i (by omega)]; exact h2 i (by omega)
  · obtain ⟨a1, e, a2, a3, a4, a5⟩ := h3 s s1 sN
    refine ⟨Nat.lt_succ_of_lt a1, e, ?_, a3, fun q => ?_, a5⟩
    · show xA (begK x k) (xF x s).1 ≤ e
      rw [en _ a1]; exact a2
    · show e < xA (begK x k) ((xF x s).1 + 1)
      by_cases z : (xF x s).1 + 1 = k
      · rw [z, ek]; exact a3
      · have q : (xF x s).1 + 1 < k + 1 := q
        rw [en _ (by omega)]; exact a4 (by omega)
theorem XJ_try (h : XJ x (k + 1)) (ht : tryS P w nl nt lim k x a = some y) : XJ y (k + 1) := by
  obtain ⟨h1, h2, h3⟩ := h
  unfold tryS at ht
  by_cases q : 200000 ≤ xM x
  · rw [if_pos q] at ht; cases ht
  rw [if_neg q] at ht
  have old : ∀ (b : Nat × Nat) (s : Nat), 1 ≤ s → s < xN x → ∀ F : Nat → Nat × Nat, F s = xF x s → (F s).1 < k + 1 ∧ ∃ e, xA x (F s).1 ≤ e ∧ e < xM x + 1 ∧ ((F s).1 + 1 < k + 1 → e < xA x ((F s).1 + 1)) ∧ at1 (xE x) (xM x) b e = (s, (F s).2) := fun b s s1 sN F hF => by
    rw [hF]
    obtain ⟨a1, e, a2, a3, a4, a5⟩ := h3 s s1 sN
    exact ⟨a1, e, a2, by omega, a4, by rw [at1_n (by omega)]; exact a5⟩
  cases hf : fndS (xS x) (stp P w (xS x k) (a / 10) (a % 10) nt) (xN x) 0 with
  | some i =>
    rw [hf] at ht
    have e := Option.some.inj ht
    subst e
    exact ⟨h1, fun i hi => Nat.le_succ_of_le (h2 i hi), fun s s1 sN => old _ s s1 sN (xF x) rfl⟩
  | none =>
    rw [hf] at ht
    by_cases q2 : lim ≤ xN x
    · have ht : (if lim ≤ xN x then none else _) = some y := ht
      rw [if_pos q2] at ht; cases ht
    have ht : (if lim ≤ xN x then none else _) = some y := ht
    rw [if_neg q2] at ht
    have e := Option.some.inj ht
    subst e
    refine ⟨h1, fun i hi => Nat.le_succ_of_le (h2 i hi), fun s s1 sN => ?_⟩
    have sN : s < xN x + 1 := sN
    by_cases z : s = xN x
    · have eF : at1 (xF x) (xN x) (k, a) s = (k, a) := by rw [z, at1_s]
      show (at1 (xF x) (xN x) (k, a) s).1 < k + 1 ∧ ∃ e, xA x (at1 (xF x) (xN x) (k, a) s).1 ≤ e ∧ e < xM x + 1 ∧ ((at1 (xF x) (xN x) (k, a) s).1 + 1 < k + 1 → e < xA x ((at1 (xF x) (xN x) (k, a) s).1 + 1)) ∧ at1 (xE x) (xM x) (xN x, a) e = (s, (at1 (xF x) (xN x) (k, a) s).2)
      rw [eF]
      exact ⟨Nat.lt_succ_self k, xM x, h2 k (Nat.lt_succ_self k), Nat.lt_succ_self _, fun z => absurd z (Nat.lt_irrefl _), by rw [at1_s, z]⟩
    · exact old _ s s1 (by omega) (at1 (xF x) (xN x) (k, a)) (at1_n z)
theorem XJ_L : ∀ (L : List Nat) (x y : xT), XJ x (k + 1) → tryL P w nl nt lim k o L x = some y → XJ y (k + 1) := by
  intro L
  induction L with
  | nil => intro x y h ht; cases ht; exact h
  | cons a L ih =>
    intro x y h ht
    have e : tryL P w nl nt lim k o (a :: L) x = if o = none ∨ o = some a then (match tryS P w nl nt lim k x a with
      | none => none
      | some y => tryL P w nl nt lim k o L y) else tryL P w nl nt lim k o L x := rfl
    rw [e] at ht
    by_cases q : o = none ∨ o = some a
    · rw [if_pos q] at ht
      cases hs : tryS P w nl nt lim k x a with
      | none => rw [hs] at ht; cases ht
      | some z => rw [hs] at ht; exact ih z y (XJ_try h hs) ht
    · rw [if_neg q] at ht
      exact ih x y h ht
theorem XJ_K (hP : PV P nc nl nt n) (hw2 : w ≤ 2) (hl : lim = limS w) : ∀ (m k : Nat) (x y : xT), XV P w nc nl nt n x → XJ x k → m + k = 20000 → k ≤ xN x → exK P w nl nt lim fw m k x = some y → XJ y (xN y) ∧ XV P w nc nl nt n y := by
  have hlim := @lim_le w
  intro m
  induction m with
  | zero =>
    intro k x y hx h hk hkN ht
    cases ht
    have := hx.1.2
    have e : k = xN x := by omega
    rw [e] at h
    exact ⟨h, hx⟩
  | succ m ih =>
    intro k x y hx h hk hkN ht
    have e : exK P w nl nt lim fw (m + 1) k x = if k < xN x then (match runK P w nl nt lim fw x k with
      | none => none
      | some y => exK P w nl nt lim fw m (k + 1) y) else some x := rfl
    rw [e] at ht
    by_cases q : k < xN x
    · rw [if_pos q] at ht
      cases hr : runK P w nl nt lim fw x k with
      | none => rw [hr] at ht; cases ht
      | some z =>
        rw [hr] at ht
        obtain ⟨z1, z2, -⟩ := XV_L (lim := lim) (o := onlS P nt fw x k) hP hw2 hl (rdl P w (xS x k) nt nt) (begK x k) z (XV_beg hx) q (fun a ha => ha) hr
        have z2 : xN x ≤ xN z := z2
        exact ih (k + 1) z y z1 (XJ_L _ _ _ (XJ_beg h) hr) (by omega) (by omega) ht
    · rw [if_neg q] at ht
      cases ht
      have e : k = xN x := by omega
      rw [e] at h
      exact ⟨h, hx⟩
/-- where steps begin; how each state was found -/
theorem expl_J (hP : PV P nc nl nt n) (hw2 : w ≤ 2) (hin : ∀ c, c < nc → inR (P 4 c)) {X : xT} (h : expl P w nc nl nt fw = some X) : XJ X (xN X + 1) := by
  have e : expl P w nc nl nt fw = match exK P w nl nt (limS w) fw 20000 0 (beg0 (fst0 P w nc nt (fun _ => 0))) with
    | none => none
    | some x => some (begK x (xN x)) := rfl
  rw [e] at h
  cases hr : exK P w nl nt (limS w) fw 20000 0 (beg0 (fst0 P w nc nt (fun _ => 0))) with
  | none => rw [hr] at h; cases h
  | some z =>
    rw [hr] at h
    have h2 : begK z (xN z) = X := Option.some.inj h
    have h0 : XJ (beg0 (fst0 P w nc nt (fun _ => 0))) 0 := ⟨fun i j _ hj => absurd hj (Nat.not_lt_zero _), fun i hi => absurd hi (Nat.not_lt_zero _), fun s s1 sN => by
      have sN : s < 1 := sN
      omega⟩
    obtain ⟨j, -⟩ := XJ_K (lim := limS w) hP hw2 rfl 20000 0 _ z (XV_0 hP hw2 hin) h0 (by omega) (Nat.zero_le _) hr
    rw [← h2]
    exact XJ_beg j
end XJJ

