/-! TWO THREADS, ONE MEMORY: the states of all turns are those that rows of steps come to. -/
/-- nobody can go on -/
abbrev en0 (P : Nat → fI) (N : fI) : Prop := ¬ rd0 P 0 N ∧ ¬ rd0 P 1 N
abbrev f00 (P : Nat → fI) (nc : Nat) : fI := fst0 P 0 nc 2 (fun _ => 0)
section RCH
variable {P : Nat → fI} {nc nl n t u i j k o m : Nat} {N M : fI} {l l' : List Nat} {X x y : xT} {fw : Bool}
theorem f00_w (hG : GP P nc nl n) : SV P 0 nc nl 2 n (f00 P nc) := f0_SV hG.1 (by decide) hG.2.2.2.2
theorem GP.CL (hG : GP P nc nl n) (h : expl P 0 nc nl 2 fw = some X) : CL P 0 2 fw X (xN X) ∧ XV P 0 nc nl 2 n X := expl_CL hG.1 (by decide) hG.2.2.2.2 h
theorem ex_first {lim : Nat} (hP : PV P nc nl 2 n) (hl : lim = limS 0) : ∀ (m k : Nat) (x y : xT), XV P 0 nc nl 2 n x → exK P 0 nl 2 lim fw m k x = some y → xS y 0 = xS x 0 := by
  intro m
  induction m with
  | zero => intro k x y _ h; cases h; rfl
  | succ m ih =>
    intro k x y hx ht
    have e : exK P 0 nl 2 lim fw (m + 1) k x = if k < xN x then (match runK P 0 nl 2 lim fw x k with
      | none => none
      | some y => exK P 0 nl 2 lim fw m (k + 1) y) else some x := rfl
    rw [e] at ht
    by_cases q : k < xN x
    · rw [if_pos q] at ht
      cases hr : runK P 0 nl 2 lim fw x k with
      | none => rw [hr] at ht; cases ht
      | some z =>
        rw [hr] at ht
        obtain ⟨z1, z2, z3, -⟩ := XV_L (lim := lim) (o := onlS P 2 fw x k) hP (by decide) hl (rdl P 0 (xS x k) 2 2) (begK x k) z (XV_beg hx) q (fun a ha => ha) hr
        rw [ih (k + 1) z y z1 ht]
        exact (z3 0 hx.1.1).1
    · rw [if_neg q] at ht
      cases ht
      rfl
theorem z_f00 (hG : GP P nc nl n) (h : expl P 0 nc nl 2 fw = some X) : xS X 0 = f00 P nc := by
  obtain ⟨z, hr, rfl⟩ := expl_z h
  exact ex_first hG.1 rfl 20000 0 _ z (XV_0 hG.1 (by decide) hG.2.2.2.2) hr
theorem a_t (h : (k = 0 ∧ rd0 P 0 N) ∨ (k = 10 ∧ rd0 P 1 N)) : ∃ t, t < 2 ∧ k = 10 * t ∧ k / 10 = t ∧ k % 10 = 0 ∧ rd0 P t N := by
  rcases h with ⟨rfl, h⟩ | ⟨rfl, h⟩
  · exact ⟨0, by decide, rfl, rfl, rfl, h⟩
  · exact ⟨1, by decide, rfl, rfl, rfl, h⟩
theorem rdl_t (hG : GP P nc nl n) (hS : SV P 0 nc nl 2 n N) (ht : t < 2) (hr : rd0 P t N) : 10 * t ∈ rdl P 0 N 2 2 := by
  refine (rdl_0 hG hS _).mpr ?_
  have : t = 0 ∨ t = 1 := by omega
  rcases this with rfl | rfl
  · exact Or.inl ⟨rfl, hr⟩
  · exact Or.inr ⟨rfl, hr⟩
/-- each state is come to -/
theorem z_come (hG : GP P nc nl n) (h : expl P 0 nc nl 2 fw = some X) : ∀ i, i < xN X → ∃ l, vp P l (f00 P nc) ∧ eqS (pth P l (f00 P nc)) (xS X i) := by
  have hX := (GP.CL hG h).2
  have h0 := z_f00 hG h
  intro i
  induction i using Nat.strongRecOn with
  | ind i ih =>
    intro hi
    by_cases q : i = 0
    · refine ⟨[], trivial, ?_⟩
      rw [q, h0, pth_n]
      exact eqS.rf
    · obtain ⟨a1, a2, a3, a4⟩ := hX.2.2.2.2.2 i (by omega) hi
      obtain ⟨l, l1, l2⟩ := ih _ a1 (by omega)
      have hSp := hX.2.1 (xF X i).1 (by omega)
      obtain ⟨t, t2, -, e1, e2, t3⟩ := a_t ((rdl_0 hG hSp _).mp a4)
      rw [e1, e2] at a3
      have hSl := vp_w hG l _ (f00_w hG) l1
      obtain ⟨c1, c2⟩ := sp_cg hG hSp hSl l2.sy t2 t3
      refine ⟨l ++ [t], (vp_app l [t] _).mpr ⟨l1, t2, c1, trivial⟩, ?_⟩
      rw [pth_app, pth_c, pth_n]
      exact (eqS.tr a3 c2).sy
/-- the steps of a state, in all turns -/
theorem z_step (hG : GP P nc nl n) (h : expl P 0 nc nl 2 fw = some X) (hi : i < xN X) (ht : t < 2) (hr : rd0 P t (xS X i)) (ho : onlS P 2 fw X i = none ∨ onlS P 2 fw X i = some (10 * t)) : ∃ s, s < xN X ∧ eqS (xS X s) (sp P t (xS X i)) := by
  obtain ⟨hC, hX⟩ := GP.CL hG h
  obtain ⟨s, s1, s2⟩ := hC i hi (10 * t) (rdl_t hG (hX.2.1 i hi) ht hr) ho
  rw [show 10 * t / 10 = t by omega, show 10 * t % 10 = 0 by omega] at s2
  exact ⟨s, s1, s2⟩
theorem z_pth (hG : GP P nc nl n) (h : expl P 0 nc nl 2 false = some X) : ∀ (l : List Nat) (i : Nat), i < xN X → vp P l (xS X i) → ∃ s, s < xN X ∧ eqS (xS X s) (pth P l (xS X i)) := by
  have hX := (GP.CL hG h).2
  intro l
  induction l with
  | nil => intro i hi _; exact ⟨i, hi, by rw [pth_n]; exact eqS.rf⟩
  | cons t l ih =>
    intro i hi hv
    obtain ⟨s, s1, s2⟩ := z_step hG h hi hv.1 hv.2.1 (Or.inl (if_neg (fun z => absurd z.1 (by decide))))
    obtain ⟨c1, c2⟩ := vp_cg hG l _ _ (sp_w hG (hX.2.1 i hi) hv.1 hv.2.1) (hX.2.1 s s1) s2.sy hv.2.2
    obtain ⟨r, r1, r2⟩ := ih s s1 c1
    exact ⟨r, r1, by rw [pth_c]; exact eqS.tr r2 c2.sy⟩
/-- all that is come to is among the states of all turns -/
theorem z_all (hG : GP P nc nl n) (h : expl P 0 nc nl 2 false = some X) (hv : vp P l (f00 P nc)) : ∃ s, s < xN X ∧ eqS (xS X s) (pth P l (f00 P nc)) := by
  have h0 := z_f00 hG h
  have := z_pth hG h l 0 (GP.CL hG h).2.1.1 (by rw [h0]; exact hv)
  rw [h0] at this
  exact this
theorem en0_cg (hG : GP P nc nl n) (hS : SV P 0 nc nl 2 n N) (hM : SV P 0 nc nl 2 n M) (h : eqS N M) (he : en0 P N) : en0 P M :=
  ⟨fun z => he.1 (sp_cg hG hM hS h.sy (by decide) z).1, fun z => he.2 (sp_cg hG hM hS h.sy (by decide) z).1⟩
theorem endC_0 (hG : GP P nc nl n) (hS : SV P 0 nc nl 2 n N) : endC P 0 N 2 = true ↔ en0 P N := by
  unfold endC
  rw [decide_eq_true_iff]
  constructor
  · intro h
    have g := fun a => rdl_0 hG hS a
    rw [h] at g
    exact ⟨fun z => absurd ((g 0).mpr (Or.inl ⟨rfl, z⟩)) List.not_mem_nil, fun z => absurd ((g 10).mpr (Or.inr ⟨rfl, z⟩)) List.not_mem_nil⟩
  · intro h
    apply List.eq_nil_iff_forall_not_mem.mpr
    intro a ha
    rcases (rdl_0 hG hS a).mp ha with ⟨-, z⟩ | ⟨-, z⟩
    · exact h.1 z
    · exact h.2 z
/-- a thread at a line of its own stays there while others step -/
theorem lo_pth (hG : GP P nc nl n) (ht : t < 2) : ∀ (l : List Nat) (N : fI), SV P 0 nc nl 2 n N → lo0 P t N → (∀ u, u ∈ l → u ≠ t) → vp P l N → lo0 P t (pth P l N) := by
  intro l
  induction l with
  | nil => intro N _ h _ _; rw [pth_n]; exact h
  | cons u l ih =>
    intro N hS hl hu hv
    rw [pth_c]
    exact ih _ (sp_w hG hS hv.1 hv.2.1) (lo_u hG hS ht hv.1 (fun z => hu u List.mem_cons_self z.symm) hv.2.1 hl) (fun z hz => hu z (List.mem_cons_of_mem _ hz)) hv.2.2
theorem qtF_lo (hG : GP P nc nl n) (hS : SV P 0 nc nl 2 n N) (h : qtF P N 2 0 = some k) : ∃ t, t < 2 ∧ k = 10 * t ∧ lo0 P t N := by
  have key : ∀ t, t < 2 → N t = 1 → (kd P (clp (N (4 + t))) = 0 ∨ (13 ≤ kd P (clp (N (4 + t))) ∧ kd P (clp (N (4 + t))) ≤ 17)) → lo0 P t N := by
    intro t ht h1 hk
    obtain ⟨hi, -, -⟩ := run_ln hG.1 hS ht h1
    have := hG.2.2.1 _ hi
    exact ⟨h1, by omega⟩
  unfold qtF at h
  by_cases q : N 0 = 1 ∧ (kd P (clp (N (4 + 0))) = 0 ∨ (13 ≤ kd P (clp (N (4 + 0))) ∧ kd P (clp (N (4 + 0))) ≤ 17))
  · rw [if_pos q] at h
    cases h
    exact ⟨0, by decide, rfl, key 0 (by decide) q.1 q.2⟩
  · rw [if_neg q] at h
    unfold qtF at h
    by_cases q2 : N (0 + 1) = 1 ∧ (kd P (clp (N (4 + (0 + 1)))) = 0 ∨ (13 ≤ kd P (clp (N (4 + (0 + 1)))) ∧ kd P (clp (N (4 + (0 + 1)))) ≤ 17))
    · rw [if_pos q2] at h
      cases h
      exact ⟨1, by decide, rfl, key 1 (by decide) q2.1 q2.2⟩
    · rw [if_neg q2] at h
      cases h
/-- fewer turns come to all ends -/
theorem few_end (hG : GP P nc nl n) (h : expl P 0 nc nl 2 true = some X) : ∀ (m : Nat) (l : List Nat) (i : Nat), l.length = m → i < xN X → vp P l (xS X i) → en0 P (pth P l (xS X i)) → ∃ s, s < xN X ∧ eqS (xS X s) (pth P l (xS X i)) := by
  have hX := (GP.CL hG h).2
  intro m
  induction m with
  | zero =>
    intro l i hm hi _ _
    rw [List.length_eq_zero_iff.mp hm, pth_n]
    exact ⟨i, hi, eqS.rf⟩
  | succ m ih =>
    intro l i hm hi hv he
    have hSi := hX.2.1 i hi
    -- a step that is tried, and the rest behind it
    have go : ∀ (t : Nat) (l' : List Nat), t < 2 → rd0 P t (xS X i) → (onlS P 2 true X i = none ∨ onlS P 2 true X i = some (10 * t)) → l'.length = m → vp P l' (sp P t (xS X i)) → en0 P (pth P l' (sp P t (xS X i))) → ∃ s, s < xN X ∧ eqS (xS X s) (pth P l' (sp P t (xS X i))) := by
      intro t l' ht hr ho hl' hv' he'
      obtain ⟨s, s1, s2⟩ := z_step hG h hi ht hr ho
      have hSt := sp_w hG hSi ht hr
      obtain ⟨c1, c2⟩ := vp_cg hG l' _ _ hSt (hX.2.1 s s1) s2.sy hv'
      obtain ⟨r, r1, r2⟩ := ih l' s hl' s1 c1 (en0_cg hG (vp_w hG l' _ hSt hv') (vp_w hG l' _ (hX.2.1 s s1) c1) c2 he')
      exact ⟨r, r1, eqS.tr r2 c2.sy⟩
    by_cases ho : onlS P 2 true X i = none
    · cases l with
      | nil => cases hm
      | cons t l =>
        rw [pth_c] at he ⊢
        exact go t l hv.1 hv.2.1 (Or.inl ho) (by rw [List.length_cons] at hm; omega) hv.2.2 he
    · obtain ⟨k, hk⟩ : ∃ k, onlS P 2 true X i = some k := by
        cases e : onlS P 2 true X i with
        | none => exact absurd e ho
        | some k => exact ⟨k, rfl⟩
      have hq : qtF P (xS X i) 2 0 = some k := by
        unfold onlS at hk
        split at hk
        · exact hk
        · cases hk
      obtain ⟨t, ht, rfl, hl⟩ := qtF_lo hG hSi hq
      have htl : t ∈ l := by
        by_cases q : t ∈ l
        · exact q
        · exfalso
          have g := lo_pth hG ht l _ hSi hl (fun u hu z => q (by rw [← z]; exact hu)) hv
          have : t = 0 ∨ t = 1 := by omega
          rcases this with rfl | rfl
          · exact he.1 (lo_rd g)
          · exact he.2 (lo_rd g)
      obtain ⟨l1, l2, rfl, hn⟩ := List.eq_append_cons_of_mem htl
      obtain ⟨v1, v2⟩ := (vp_app l1 (t :: l2) _).mp hv
      obtain ⟨m1, m2⟩ := mv_lo hG ht l1 _ hSi hl (fun u hu z => hn (by rw [← z]; exact hu)) v1
      have hSt := sp_w hG hSi ht (lo_rd hl)
      have hSa := vp_w hG l1 _ hSi v1
      have hSb := sp_w hG hSa v2.1 v2.2.1
      have hSc := vp_w hG l1 _ hSt m1.2.2
      rw [pth_app, pth_c, pth_n, pth_c] at m2
      obtain ⟨d1, d2⟩ := vp_cg hG l2 _ _ hSb hSc m2 v2.2.2
      have e1 : pth P (l1 ++ t :: l2) (xS X i) = pth P l2 (sp P t (pth P l1 (xS X i))) := by rw [pth_app, pth_c]
      have e2 : pth P (l1 ++ l2) (sp P t (xS X i)) = pth P l2 (pth P l1 (sp P t (xS X i))) := by rw [pth_app]
      rw [e1] at he ⊢
      obtain ⟨s, s1, s2⟩ := go t (l1 ++ l2) ht (lo_rd hl) (Or.inr hk) (by rw [List.length_append, List.length_cons] at hm; rw [List.length_append]; omega) ((vp_app l1 l2 _).mpr ⟨m1.2.2, d1⟩) (by rw [e2]; exact en0_cg hG (vp_w hG l2 _ hSb v2.2.2) (vp_w hG l2 _ hSc d1) d2 he)
      rw [e2] at s2
      exact ⟨s, s1, eqS.tr s2 d2.sy⟩
end RCH
