/-! ALL TURNS: what is found of states that are one is one; outcomes. -/
section CGF
variable {en : pN} {d p w nc nl nt n t u k a m : Nat} {P : Nat → fI} {N M g h : fI} {sv : Int32} {S S' : Nat → fI}
theorem tch_cg (en : pN) (hB : MBx P nc nl nt n) (hP : PV P nc nl nt n) (hS : SV P w nc nl nt n N) (hM : SV P w nc nl nt n M) (hw2 : w ≤ 2) (h : eqS N M) (ht : t < nt) : tch P w N nt t = tch P w M nt t := by
  have ht4 := hP.2.2.1.2
  unfold tch lnS
  rw [cg_chs en hB hP hS hM hw2 h ht, h t (by omega), h (4 + t) (by omega)]
theorem rcT_cg (en : pN) (hB : MBx P nc nl nt n) (hP : PV P nc nl nt n) (hS : SV P w nc nl nt n N) (hM : SV P w nc nl nt n M) (hw2 : w ≤ 2) (h : eqS N M) (ht : t < nt) (hu : u < nt) : rcT P w N nt t u m = rcT P w M nt t u m := by
  have ht4 := hP.2.2.1.2
  unfold rcT
  rw [tch_cg en hB hP hS hM hw2 h ht, tch_cg en hB hP hS hM hw2 h hu]
  unfold lnS
  rw [h (4 + t) (by omega), h (4 + u) (by omega)]
theorem hasR_cg (en : pN) (hB : MBx P nc nl nt n) (hP : PV P nc nl nt n) (hS : SV P w nc nl nt n N) (hM : SV P w nc nl nt n M) (hw2 : w ≤ 2) (h : eqS N M) : hasR P w N nt m ↔ hasR P w M nt m :=
  ⟨fun ⟨t, u, h1, h2, h3⟩ => ⟨t, u, h1, h2, by rw [← rcT_cg en hB hP hS hM hw2 h h2 (by omega)]; exact h3⟩, fun ⟨t, u, h1, h2, h3⟩ => ⟨t, u, h1, h2, by rw [rcT_cg en hB hP hS hM hw2 h h2 (by omega)]; exact h3⟩⟩
theorem loB_cg (h : eqS N M) : ∀ l, l ≤ 4 → loB N t l = loB M t l := by
  intro l
  induction l with
  | zero => intro _; rfl
  | succ l ih =>
    intro hl
    unfold loB
    rw [h (40 + l) (by omega), ih (by omega)]
theorem tch_ob (hP : PV P nc nl nt n) (hS : SV P w nc nl nt n N) (ht : t < nt) (h : tch P w N nt t = true) : ob P (lnS N t) < 8 := by
  have hc8 := hP.1.2
  have hn := hP.2.2.2.1.2
  unfold tch at h
  rw [Bool.and_eq_true, Bool.and_eq_true, Bool.and_eq_true, decide_eq_true_eq, decide_eq_true_eq, decide_eq_true_eq] at h
  obtain ⟨⟨i, hi, e, -⟩, -⟩ := sv_run (hS.1.1 t ht) h.1.1.1
  have el : lnS N t = i := by show clp (N (4 + t)) = i; rw [e]; exact n_clp (by omega)
  rw [el] at h ⊢
  obtain ⟨-, -, ho, -⟩ := hP.2.2.2.2.1 i hi
  have := (ho h.1.1.2 h.1.2).2
  omega
theorem guT_cg (en : pN) (hB : MBx P nc nl nt n) (hP : PV P nc nl nt n) (hS : SV P w nc nl nt n N) (hM : SV P w nc nl nt n M) (hw2 : w ≤ 2) (he : eqS N M) (hg : ∀ c, c < 8 → g c = h c) : ∀ t, t ≤ nt → ∀ c, c < 8 → guT P w N nl nt t g c = guT P w M nl nt t h c := by
  have ht4 := hP.2.2.1.2
  have hl4 := hP.2.1.2
  intro t
  induction t with
  | zero => intro _; exact hg
  | succ t ih =>
    intro ht c hc
    unfold guT
    rw [tch_cg en hB hP hS hM hw2 he (by omega)]
    by_cases q : tch P w M nt t = true
    · rw [if_pos q, if_pos q]
      have e : lnS N t = lnS M t := by unfold lnS; rw [he (4 + t) (by omega)]
      have o8 := tch_ob hP hM (by omega) q
      rw [e, loB_cg he nl hl4, ih (by omega) _ o8]
      by_cases z : c = ob P (lnS M t)
      · rw [z, pk_us, pk_us]
      · rw [pk_un z, pk_un z]; exact ih (by omega) c hc
    · rw [if_neg q, if_neg q]; exact ih (by omega) c hc
theorem laS_4 (hP : PV P nc nl nt n) (hS : SV P w nc nl nt n N) (ht : t < nt) : laS P N t = -1 ∨ clp (laS P N t) < 4 := by
  have hl4 := hP.2.1.2
  have hn := hP.2.2.2.1.2
  unfold laS
  split
  · rename_i y
    right
    rcases y with y | ⟨y1, y2⟩
    · obtain ⟨⟨i, hi, e, -, k7⟩, -⟩ := sv_wok (hS.1.1 t ht) y
      have ei : clp (N (4 + t)) = i := by rw [e]; exact n_clp (by omega)
      obtain ⟨-, -, -, ho, -⟩ := hP.2.2.2.2.1 i hi
      have := (ho (by omega) (by omega)).2
      rw [ei, show clp (nI (ob P i)) = ob P i from n_clp (by omega)]; omega
    · obtain ⟨⟨i, hi, e, -⟩, -⟩ := sv_run (hS.1.1 t ht) y1
      have ei : clp (N (4 + t)) = i := by rw [e]; exact n_clp (by omega)
      rw [ei] at y2
      obtain ⟨-, -, -, ho, -⟩ := hP.2.2.2.2.1 i hi
      have := (ho (by omega) (by omega)).2
      rw [ei, show clp (nI (ob P i)) = ob P i from n_clp (by omega)]; omega
  · exact Or.inl rfl
theorem hop_cg (hP : PV P nc nl nt n) (hS : SV P w nc nl nt n N) (h : eqS N M) (ht : t < nt) : hopS P N t = hopS P M t := by
  have ht4 := hP.2.2.1.2
  have l4 := laS_4 hP hS ht
  unfold hopS
  rw [laS_cg h (by omega)] at *
  by_cases q : laS P M t = -1
  · rw [if_pos q, if_pos q]
  · rw [if_neg q, if_neg q]
    have := l4.resolve_left q
    rw [h (40 + clp (laS P M t)) (by omega)]
theorem rngF_cg (hP : PV P nc nl nt n) (hS : SV P w nc nl nt n N) (h : eqS N M) : ∀ (k : Nat) (one : Int32), (one = -1 ∨ ∃ u, u < nt ∧ one = nI u) → rngF P N t k one = rngF P M t k one := by
  have ht4 := hP.2.2.1.2
  intro k
  induction k with
  | zero => intro one _; rfl
  | succ k ih =>
    intro one ho
    unfold rngF
    rcases ho with rfl | ⟨u, hu, rfl⟩
    · rw [if_pos (by decide), if_pos (by decide)]
    · rw [show clp (nI u) = u from n_clp (by omega), ← hop_cg hP hS h hu, ih _ (hop_in hP hS hu)]
theorem lrF_cg (hP : PV P nc nl nt n) (hS : SV P w nc nl nt n N) (h : eqS N M) : ∀ (m t : Nat), t + m ≤ nt → lrF P N m t = lrF P M m t := by
  intro m
  induction m with
  | zero => intro t _; rfl
  | succ m ih =>
    intro t ht
    unfold lrF
    rw [rngF_cg hP hS h 4 (nI t) (Or.inr ⟨t, by omega, rfl⟩), ih (t + 1) (by omega)]
theorem losF_cg (h : eqS N M) : ∀ (m t : Nat), t + m ≤ 4 → losF N m t = losF M m t := by
  intro m
  induction m with
  | zero => intro t _; rfl
  | succ m ih =>
    intro t ht
    unfold losF
    rw [h t (by omega), ih (t + 1) (by omega)]
theorem stkS_cg (hP : PV P nc nl nt n) (hS : SV P w nc nl nt n N) (h : eqS N M) : stkS P N nt sv g = stkS P M nt sv g := by
  have ht4 := hP.2.2.1.2
  unfold stkS
  rw [lrF_cg hP hS h nt 0 (by omega), losF_cg h nt 0 (by omega)]
theorem nsS_cg {z : Nat} {lv : Int32} (hz : z = 0 ∨ z = 3) (hg : ∀ c, c < 5 → g c = h c) : ∀ c, c < 5 → nsS g z sv lv c = nsS h z sv lv c := by
  intro c hc
  have h0 := hg z (by omega)
  unfold nsS
  have key : ∀ g1 h1 : fI, (∀ c, c < 5 → g1 c = h1 c) → upd g1 z (g1 z + 1) c = upd h1 z (h1 z + 1) c := fun g1 h1 e => by
    by_cases q : c = z
    · rw [q, pk_us, pk_us, e z (by omega)]
    · rw [pk_un q, pk_un q]; exact e c hc
  have up : ∀ (g1 h1 : fI) (j : Nat) (v : Int32), (∀ c, c < 5 → g1 c = h1 c) → ∀ c, c < 5 → upd g1 j v c = upd h1 j v c := fun g1 h1 j v e c hc => by
    by_cases q : c = j
    · rw [q, pk_us, pk_us]
    · rw [pk_un q, pk_un q]; exact e c hc
  rw [h0]
  refine key _ _ ?_
  by_cases q : h z = 0
  · rw [if_pos q, if_pos q]
    by_cases q2 : z = 0
    · rw [if_pos q2, if_pos q2]; exact up _ _ _ _ (up _ _ _ _ hg)
    · rw [if_neg q2, if_neg q2]; exact up _ _ _ _ hg
  · rw [if_neg q, if_neg q]; exact hg
theorem stkS_g (hg : ∀ c, c < 5 → g c = h c) : ∀ c, c < 5 → stkS P N nt sv g c = stkS P N nt sv h c := by
  unfold stkS
  have e1 : ∀ c, c < 5 → (match lrF P N nt 0 with
    | some t => nsS g 0 sv (nI t)
    | none => g) c = (match lrF P N nt 0 with
    | some t => nsS h 0 sv (nI t)
    | none => h) c := by
    cases lrF P N nt 0 with
    | none => exact hg
    | some t => exact nsS_cg (Or.inl rfl) hg
  by_cases q : losF N nt 0 = true
  · rw [if_pos q, if_pos q]; exact nsS_cg (Or.inr rfl) e1
  · rw [if_neg q, if_neg q]; exact e1
theorem qtF_cg (h : eqS N M) : ∀ (m t : Nat), t + m ≤ 4 → qtF P N m t = qtF P M m t := by
  intro m
  induction m with
  | zero => intro t _; rfl
  | succ m ih =>
    intro t ht
    unfold qtF
    rw [h t (by omega), h (4 + t) (by omega), ih (t + 1) (by omega)]
/-- rings and lost ends of the first k states -/
noncomputable def rngK (P : Nat → fI) (w nt : Nat) (S : Nat → fI) : Nat → fI
  | 0 => fun c => if c = 0 ∨ c = 3 then 0 else -2
  | k + 1 => if endC P w (S k) nt = true ∧ ¬ soS (S k) nt = 0 then stkS P (S k) nt (nI k) (rngK P w nt S k) else rngK P w nt S k
/-! what is told of the first k states does not hang on others -/
theorem fsR_cg {f f' : Nat → Prop} : ∀ k, (∀ i, i < k → (f i ↔ f' i)) → fsR f k = fsR f' k := by
  intro k
  induction k with
  | zero => intro _; rfl
  | succ k ih =>
    intro h
    unfold fsR
    rw [ih (fun i hi => h i (by omega))]
    cases fsR f' k with
    | some i => rfl
    | none =>
      dsimp only
      by_cases q : f k
      · rw [if_pos q, if_pos ((h k (Nat.lt_succ_self k)).mp q)]
      · rw [if_neg q, if_neg (fun z => q ((h k (Nat.lt_succ_self k)).mpr z))]
theorem guS_cg : ∀ k, (∀ i, i < k → S i = S' i) → guS P w S nl nt k = guS P w S' nl nt k := by
  intro k
  induction k with
  | zero => intro _; rfl
  | succ k ih =>
    intro h
    unfold guS
    rw [ih (fun i hi => h i (by omega)), h k (Nat.lt_succ_self k)]
theorem rngK_cg : ∀ k, (∀ i, i < k → S i = S' i) → rngK P w nt S k = rngK P w nt S' k := by
  intro k
  induction k with
  | zero => intro _; rfl
  | succ k ih =>
    intro h
    unfold rngK
    rw [ih (fun i hi => h i (by omega)), h k (Nat.lt_succ_self k)]
theorem endN_cg : ∀ k, (∀ i, i < k → S i = S' i) → endN P w nt S k = endN P w nt S' k := by
  intro k
  induction k with
  | zero => intro _; rfl
  | succ k ih =>
    intro h
    unfold endN
    rw [ih (fun i hi => h i (by omega)), h k (Nat.lt_succ_self k)]
theorem outL_lt : ∀ k, ∀ i ∈ outL P w nt S k, i < k := by
  intro k
  induction k with
  | zero => intro i hi; cases hi
  | succ k ih =>
    intro i hi
    unfold outL at hi
    split at hi
    · split at hi
      · have := ih i hi; omega
      · rcases List.mem_append.mp hi with z | z
        · have := ih i z; omega
        · have := List.mem_singleton.mp z; omega
    · have := ih i hi; omega
theorem outL_len : ∀ k, (outL P w nt S k).length ≤ k := by
  intro k
  induction k with
  | zero => exact Nat.le_refl 0
  | succ k ih =>
    unfold outL
    split
    · split
      · omega
      · rw [List.length_append, List.length_singleton]; omega
    · omega
theorem fndO_cg {K : fI} : ∀ (L : List Nat) (i : Nat), (∀ j ∈ L, S j = S' j) → fndO nt S K L i = fndO nt S' K L i := by
  intro L
  induction L with
  | nil => intro i _; rfl
  | cons a L ih =>
    intro i h
    unfold fndO
    rw [h a (List.mem_cons_self ..), ih (i + 1) (fun j hj => h j (List.mem_cons_of_mem _ hj))]
theorem outL_cg : ∀ k, (∀ i, i < k → S i = S' i) → outL P w nt S k = outL P w nt S' k := by
  intro k
  induction k with
  | zero => intro _; rfl
  | succ k ih =>
    intro h
    unfold outL
    rw [ih (fun i hi => h i (by omega)), h k (Nat.lt_succ_self k), fndO_cg _ 0 (fun j hj => h j (by have := outL_lt k j hj; omega))]
theorem outN_cg (h : ∀ i, i < k + 1 → S i = S' i) : outN P w nt S k = outN P w nt S' k := by
  unfold outN
  rw [outL_cg k (fun i hi => h i (by omega)), h k (Nat.lt_succ_self k), fndO_cg _ 0 (fun j hj => h j (by have := outL_lt k j hj; omega))]
/-! searches among outcomes -/
theorem fndO_some {K : fI} : ∀ (L : List Nat) (i j : Nat), fndO nt S K L i = some j → i ≤ j ∧ j - i < L.length ∧ eqO nt (S (L.getD (j - i) 0)) K := by
  intro L
  induction L with
  | nil => intro i j h; cases h
  | cons a L ih =>
    intro i j h
    unfold fndO at h
    by_cases q : eqO nt (S a) K
    · rw [if_pos q] at h
      cases h
      refine ⟨Nat.le_refl _, by rw [Nat.sub_self]; exact Nat.succ_pos _, ?_⟩
      rw [Nat.sub_self]
      exact q
    · rw [if_neg q] at h
      obtain ⟨a1, a2, a3⟩ := ih (i + 1) j h
      obtain ⟨m, rfl⟩ : ∃ m, j = i + 1 + m := ⟨j - (i + 1), by omega⟩
      rw [show i + 1 + m - (i + 1) = m by omega] at a2 a3
      refine ⟨by omega, by show _ < L.length + 1; omega, ?_⟩
      rw [show i + 1 + m - i = m + 1 by omega]
      exact a3
theorem fndO_none {K : fI} : ∀ (L : List Nat) (i : Nat), fndO nt S K L i = none → ∀ j, j < L.length → ¬ eqO nt (S (L.getD j 0)) K := by
  intro L
  induction L with
  | nil => intro i _ j hj; exact absurd hj (Nat.not_lt_zero j)
  | cons a L ih =>
    intro i h j hj
    unfold fndO at h
    by_cases q : eqO nt (S a) K
    · rw [if_pos q] at h; cases h
    · rw [if_neg q] at h
      cases j with
      | zero => exact q
      | succ j => exact ih (i + 1) h j (by have hj : j + 1 < L.length + 1 := hj; omega)
theorem eqO.sy (h : eqO nt N M) : eqO nt M N := ⟨h.1.symm, fun j h1 h2 => (h.2.1 j h1 h2).symm, fun j h1 h2 => (h.2.2 j h1 h2).symm⟩
theorem eqO.tr {K : fI} (h : eqO nt N M) (g : eqO nt M K) : eqO nt N K := ⟨h.1.trans g.1, fun j h1 h2 => (h.2.1 j h1 h2).trans (g.2.1 j h1 h2), fun j h1 h2 => (h.2.2 j h1 h2).trans (g.2.2 j h1 h2)⟩
theorem getD_snoc {L : List Nat} {v i : Nat} : (L ++ [v]).getD i 0 = if i = L.length then v else L.getD i 0 := by
  rw [List.getD_eq_getElem?_getD, List.getD_eq_getElem?_getD, List.getElem?_append]
  by_cases a : i < L.length
  · rw [if_pos a, if_neg (by omega)]
  · rw [if_neg a]
    by_cases b : i = L.length
    · rw [if_pos b, b, Nat.sub_self]; rfl
    · rw [if_neg b, List.getElem?_eq_none (l := L) (by omega), List.getElem?_eq_none (by show 1 ≤ _; omega)]
/-- outcomes are all unlike -/
theorem outL_unl : ∀ k, ∀ i j, i < (outL P w nt S k).length → j < (outL P w nt S k).length → eqO nt (S ((outL P w nt S k).getD i 0)) (S ((outL P w nt S k).getD j 0)) → i = j := by
  intro k
  induction k with
  | zero => intro i j hi; exact absurd hi (Nat.not_lt_zero i)
  | succ k ih =>
    intro i j hi hj h
    have e : outL P w nt S (k + 1) = if endC P w (S k) nt = true then (match fndO nt S (S k) (outL P w nt S k) 0 with
      | some _ => outL P w nt S k
      | none => outL P w nt S k ++ [k]) else outL P w nt S k := rfl
    rw [e] at hi hj h
    by_cases q : endC P w (S k) nt = true
    · rw [if_pos q] at hi hj h
      cases hf : fndO nt S (S k) (outL P w nt S k) 0 with
      | some o => rw [hf] at hi hj h; exact ih i j hi hj h
      | none =>
        rw [hf] at hi hj h
        dsimp only at hi hj h
        rw [List.length_append, List.length_singleton] at hi hj
        rw [getD_snoc, getD_snoc] at h
        have no := fndO_none _ 0 hf
        by_cases z : i = (outL P w nt S k).length
        · by_cases y : j = (outL P w nt S k).length
          · omega
          · rw [if_pos z, if_neg y] at h
            exact absurd h.sy (no j (by omega))
        · by_cases y : j = (outL P w nt S k).length
          · rw [if_neg z, if_pos y] at h
            exact absurd h (no i (by omega))
          · rw [if_neg z, if_neg y] at h
            exact ih i j (by omega) (by omega) h
    · rw [if_neg q] at hi hj h
      exact ih i j hi hj h
theorem fndO_of {K : fI} {L : List Nat} {i : Nat} (hu : ∀ i j, i < L.length → j < L.length → eqO nt (S (L.getD i 0)) (S (L.getD j 0)) → i = j) (hi : i < L.length) (h : eqO nt (S (L.getD i 0)) K) : fndO nt S K L 0 = some i := by
  cases e : fndO nt S K L 0 with
  | none => exact absurd h (fndO_none L 0 e i hi)
  | some j =>
    obtain ⟨-, a2, a3⟩ := fndO_some L 0 j e
    rw [Nat.sub_zero] at a2 a3
    rw [hu j i a2 hi (a3.tr h.sy)]
theorem fndO_no {K : fI} {L : List Nat} (h : ∀ i, i < L.length → ¬ eqO nt (S (L.getD i 0)) K) : fndO nt S K L 0 = none := by
  cases e : fndO nt S K L 0 with
  | none => rfl
  | some j =>
    obtain ⟨-, a2, a3⟩ := fndO_some L 0 j e
    rw [Nat.sub_zero] at a2 a3
    exact absurd a3 (h j a2)
/-- rows of outcomes tell them apart -/
theorem slO_pre {i : Nat} (h : i < (slO P nc nt).length) : (slA P w nc nl nt).getD i 0 = (slO P nc nt).getD i 0 := by
  have key : ∀ X : List Nat, (evL (slO P nc nt ++ X)).getD i 0 = (slO P nc nt).getD i 0 := by
    intro X
    unfold evL
    rw [List.getD_eq_getElem?_getD, List.getD_eq_getElem?_getD]
    split
    · rw [List.getElem?_append, if_pos h]
    · rw [List.append_assoc, List.getElem?_append, if_pos h]
  unfold slA slB
  simp only [List.append_assoc]
  exact key _
theorem co_sm (hP : PV P nc nl nt n) (hS : SV P w nc nl nt n N) (hM : SV P w nc nl nt n M) : (∀ j, j < (slO P nc nt).length / 2 → pkR (slO P nc nt) (cnS nt N) j = pkR (slO P nc nt) (cnS nt M) j) ↔ eqO nt N M := by
  have he := (slO_len hP).2
  have hc8 := hP.1.2
  have hl4 := hP.2.1.2
  have ht4 := hP.2.2.1.2
  have so3 : ∀ K : fI, soS K nt ≤ 2 := fun K => soF_le nt 0 true
  constructor
  · intro h
    have e := pkR_inj he h
    refine ⟨?_, fun j h1 h2 => ?_, fun j h1 h2 => ?_⟩
    · have := e 233 (slO_of (Or.inl rfl))
      unfold cnS at this
      rw [if_neg (by decide), if_pos rfl, if_neg (by decide), if_pos rfl] at this
      have a1 := so3 N
      have a2 := so3 M
      exact (nI_eq (by omega) (by omega)).mp this
    · by_cases q : j ∈ slO P nc nt
      · have := e j q
        unfold cnS at this
        rwa [if_pos (by omega), if_pos (by omega)] at this
      · have q' : ¬ slP P 0 nc nl nt j := fun z => by
          rcases z with z | z
          · exact q z
          · omega
        have qw : ¬ slP P w nc nl nt j := fun z => by
          rcases z with z | z
          · exact q z
          · omega
        rw [SV_cst hP hS (by omega) qw, SV_cst hP hM (by omega) qw]
    · by_cases q : j ∈ slO P nc nt
      · have := e j q
        unfold cnS at this
        rwa [if_pos (by omega), if_pos (by omega)] at this
      · have qw : ¬ slP P w nc nl nt j := fun z => by
          rcases z with z | z
          · exact q z
          · omega
        rw [SV_cst hP hS (by omega) qw, SV_cst hP hM (by omega) qw]
  · intro h
    refine pkR_cg he fun a ha => ?_
    unfold cnS
    rcases slO_mem ha with z | z | z | ⟨u, j, z1, z2, z3⟩
    · rw [if_neg (by omega), if_pos z, if_neg (by omega), if_pos z, h.1]
    · rw [if_neg (by omega), if_neg (by omega), if_neg (by omega), if_neg (by omega)]
    · rw [if_pos (by omega), if_pos (by omega)]; exact h.2.2 a (by omega) (by omega)
    · have := (hP.2.2.2.2.2 u z1).2.2
      rw [if_pos (by omega), if_pos (by omega)]; exact h.2.1 a (by omega) (by omega)
end CGF

