/-! RINGS and lost ends, the model's side. -/
/-- who holds the lock at which a thread is, told by the model -/
def blS (P : Nat → fI) (N : fI) (t : Nat) : Int32 := if hopS P N t < 0 ∨ hopS P N t = nI t then -2 else hopS P N t
def mrF (P : Nat → fI) (N : fI) (t : Nat) : Nat → Int32 → Bool
  | 0, u => decide (u = nI t)
  | k + 1, u => if u = -2 then false else if u = nI t then true else mrF P N t k (blS P N (clp u))
section RG1
variable {en : pN} {d d' w nc nl nt n p k t i m : Nat} {P : Nat → fI} {S : Nat → fI} {τ σ ρ : qS} {X : xT} {fw : Bool} {F s y g N : fI} {D : Int64} {a : Int32}
/-- outcomes of fewer states stand first -/
theorem outL_ext : ∀ m k, ∃ L', outL P w nt S (k + m) = outL P w nt S k ++ L' := by
  intro m
  induction m with
  | zero => intro k; exact ⟨[], (List.append_nil _).symm⟩
  | succ m ih =>
    intro k
    obtain ⟨L', e⟩ := ih k
    have e1 : outL P w nt S (k + (m + 1)) = if endC P w (S (k + m)) nt = true then (match fndO nt S (S (k + m)) (outL P w nt S (k + m)) 0 with
      | some _ => outL P w nt S (k + m)
      | none => outL P w nt S (k + m) ++ [k + m]) else outL P w nt S (k + m) := rfl
    rw [e1, e]
    split
    · split
      · exact ⟨L', rfl⟩
      · exact ⟨L' ++ [k + m], List.append_assoc _ _ _⟩
    · exact ⟨L', rfl⟩
theorem eqO_rf {N : fI} : eqO nt N N := ⟨rfl, fun _ _ _ => rfl, fun _ _ _ => rfl⟩
/-- the outcome of an end is one of them -/
theorem out_at {M : Nat} (hk : k < M) (he : endC P w (S k) nt = true) : outN P w nt S k < (outL P w nt S M).length ∧ eqO nt (S ((outL P w nt S M).getD (outN P w nt S k) 0)) (S k) := by
  obtain ⟨L', e⟩ := outL_ext (P := P) (w := w) (nt := nt) (S := S) (M - (k + 1)) (k + 1)
  rw [show k + 1 + (M - (k + 1)) = M by omega] at e
  have e1 : outL P w nt S (k + 1) = (match fndO nt S (S k) (outL P w nt S k) 0 with
    | some _ => outL P w nt S k
    | none => outL P w nt S k ++ [k]) := if_pos he
  have e2 : outN P w nt S k = (match fndO nt S (S k) (outL P w nt S k) 0 with
    | some i => i
    | none => (outL P w nt S k).length) := rfl
  rw [e2, e, e1]
  cases hf : fndO nt S (S k) (outL P w nt S k) 0 with
  | some i =>
    obtain ⟨h1, h2, h3⟩ := fndO_some _ _ _ hf
    rw [Nat.sub_zero] at h2 h3
    refine ⟨?_, ?_⟩
    · show i < _
      rw [List.length_append]
      show i < (outL P w nt S k).length + _
      omega
    · show eqO nt (S ((outL P w nt S k ++ L').getD i 0)) (S k)
      rw [List.getD_eq_getElem?_getD, List.getElem?_append_left h2, ← List.getD_eq_getElem?_getD]
      exact h3
  | none =>
    refine ⟨?_, ?_⟩
    · show (outL P w nt S k).length < ((outL P w nt S k ++ [k]) ++ L').length
      rw [List.length_append, List.length_append]
      show _ < (outL P w nt S k).length + 1 + _
      omega
    · show eqO nt (S (((outL P w nt S k ++ [k]) ++ L').getD (outL P w nt S k).length 0)) (S k)
      have e3 : ((outL P w nt S k ++ [k]) ++ L').getD (outL P w nt S k).length 0 = k := by
        rw [List.append_assoc, List.getD_eq_getElem?_getD, List.getElem?_append_right (Nat.le_refl _), Nat.sub_self]
        rfl
      rw [e3]
      exact eqO_rf
/-- one lock further leads to a thread, or nowhere -/
theorem hop_v (hP : PV P nc nl nt n) (hS : SV P w nc nl nt n N) (ht : t < nt) : hopS P N t = -1 ∨ ∃ e, e < nt ∧ hopS P N t = nI e := by
  have hl4 := hP.2.1.2
  have hn := hP.2.2.2.1.2
  unfold hopS
  by_cases q : laS P N t = -1
  · rw [if_pos q]; exact Or.inl rfl
  rw [if_neg q]
  have hl : ∃ l, l < nl ∧ laS P N t = nI l := by
    unfold laS at q ⊢
    by_cases c : N t = 3 ∨ (N t = 1 ∧ kd P (clp (N (4 + t))) = 5)
    · rw [if_pos c]
      rcases c with c | ⟨c, c5⟩
      · obtain ⟨⟨i, hi, h4, h8, hk⟩, -⟩ := sv_wok (hS.1.1 t ht) c
        rw [h4, n_clp (by omega)]
        exact ⟨ob P i, ((hP.2.2.2.2.1 i hi).2.2.2.1 (by omega) (by omega)).2, rfl⟩
      · obtain ⟨⟨i, hi, h4, h8⟩, -⟩ := sv_run (hS.1.1 t ht) c
        rw [h4, n_clp (by omega)] at c5 ⊢
        exact ⟨ob P i, ((hP.2.2.2.2.1 i hi).2.2.2.1 (by omega) (by omega)).2, rfl⟩
    · rw [if_neg c] at q; exact absurd rfl q
  obtain ⟨l, hl, e⟩ := hl
  rw [e, n_clp (by omega)]
  rcases hS.2.2.1 l (by omega) with ⟨h, -⟩ | ⟨-, t', q', ht', h, -⟩
  · exact Or.inl h
  · exact Or.inr ⟨t', ht', h⟩
/-- a ring through t goes over four threads at most -/
theorem ring_eq (hnt : nt ≤ 4) (ht : t < nt) (hv : ∀ u, u < nt → hopS P N u = -1 ∨ ∃ e, e < nt ∧ hopS P N u = nI e) (hs : ∀ u, u < nt → ¬ hopS P N u = nI u) : mrF P N t 4 (blS P N t) = rngF P N t 4 (nI t) := by
  have hb : ∀ u, hopS P N u = -1 → blS P N u = -2 := fun u h => by
    unfold blS
    rw [h]
    exact if_pos (Or.inl (by decide))
  have hb2 : ∀ u e, u < nt → e < nt → hopS P N u = nI e → blS P N u = nI e := fun u e hu he h => by
    unfold blS
    rw [if_neg (fun z => by
      rcases z with z | z
      · rw [h] at z; exact nI_pos (by omega) z
      · exact hs u hu z)]
    exact h
  have rs : ∀ k u, u < nt → rngF P N t (k + 1) (nI u) = if hopS P N u = nI t then true else rngF P N t k (hopS P N u) := fun k u hu => by
    show (if nI u < 0 then false else if hopS P N (clp (nI u)) = nI t then true else rngF P N t k (hopS P N (clp (nI u)))) = _
    rw [if_neg (nI_pos (by omega)), n_clp (by omega)]
  have rn : ∀ k, rngF P N t k (-1) = false := fun k => by
    cases k with
    | zero => rfl
    | succ k => exact if_pos (by decide)
  have ne2 : ∀ u, u < nt → ¬ nI u = -2 := fun u hu z => by
    have := n_m2 (a := u) (by omega)
    rw [this] at z; exact z
  have ms : ∀ k u, u < nt → u ≠ t → mrF P N t (k + 1) (nI u) = mrF P N t k (blS P N u) := fun k u hu q => by
    show (if nI u = -2 then false else if nI u = nI t then true else mrF P N t k (blS P N (clp (nI u)))) = _
    rw [if_neg (ne2 u hu), if_neg (fun z => q ((nI_eq (by omega) (by omega)).mp z)), n_clp (by omega)]
  have mt : ∀ k, mrF P N t k (nI t) = true := fun k => by
    cases k with
    | zero => exact decide_eq_true rfl
    | succ k =>
      show (if nI t = -2 then false else if nI t = nI t then true else _) = true
      rw [if_neg (ne2 t ht), if_pos rfl]
  have mn : ∀ k, mrF P N t k (-2) = false := fun k => by
    cases k with
    | zero => exact decide_eq_false (fun z => ne2 t ht z.symm)
    | succ k => exact if_pos rfl
  have eI : ∀ u e, u < nt → e < nt → nI u = nI e → u = e := fun u e h1 h2 z => (nI_eq (by omega) (by omega)).mp z
  have nm1 : ∀ u, u < nt → ¬ (-1 : Int32) = nI u := fun u hu z => by
    have := n_1m (a := u) (by omega)
    rw [this] at z; exact z
  have self : ∀ u e, u < nt → hopS P N u = nI e → u ≠ e := fun u e hu h q => hs u hu (by rw [h, q])
  rw [rs 3 t ht]
  rcases hv t ht with h0 | ⟨e1, q1, h0⟩
  · rw [hb t h0, h0, mn, if_neg (nm1 t ht), rn]
  have n1 : e1 ≠ t := fun z => self t e1 ht h0 z.symm
  rw [hb2 t e1 ht q1 h0, h0, ms 3 e1 q1 n1, if_neg (fun z => n1 (eI _ _ q1 ht z)), rs 2 e1 q1]
  rcases hv e1 q1 with h1 | ⟨e2, q2, h1⟩
  · rw [hb e1 h1, h1, mn, if_neg (nm1 t ht), rn]
  rw [hb2 e1 e2 q1 q2 h1, h1]
  by_cases n2 : e2 = t
  · rw [n2, mt, if_pos rfl]
  rw [ms 2 e2 q2 n2, if_neg (fun z => n2 (eI _ _ q2 ht z)), rs 1 e2 q2]
  rcases hv e2 q2 with h2 | ⟨e3, q3, h2⟩
  · rw [hb e2 h2, h2, mn, if_neg (nm1 t ht), rn]
  rw [hb2 e2 e3 q2 q3 h2, h2]
  by_cases n3 : e3 = t
  · rw [n3, mt, if_pos rfl]
  rw [ms 1 e3 q3 n3, if_neg (fun z => n3 (eI _ _ q3 ht z)), rs 0 e3 q3]
  rcases hv e3 q3 with h3 | ⟨e4, q4, h3⟩
  · rw [hb e3 h3, h3, mn, if_neg (nm1 t ht), rn]
  rw [hb2 e3 e4 q3 q4 h3, h3]
  by_cases n4 : e4 = t
  · rw [n4, mt, if_pos rfl]
  rw [ms 0 e4 q4 n4, if_neg (fun z => n4 (eI _ _ q4 ht z))]
  show decide (blS P N e4 = nI t) = false
  refine decide_eq_false (fun z => ?_)
  have h4 : hopS P N e4 = nI t := by
    rcases hv e4 q4 with h | ⟨e5, q5, h⟩
    · rw [hb e4 h] at z; exact absurd z.symm (ne2 t ht)
    · rw [hb2 e4 e5 q4 q5 h] at z; rw [h]; exact z
  have s1 := self e1 e2 q1 h1
  have s2 := self e2 e3 q2 h2
  have s3 := self e3 e4 q3 h3
  have c : e1 = e3 ∨ e1 = e4 ∨ e2 = e4 := by omega
  rcases c with c | c | c
  · subst c
    have : e2 = e4 := eI _ _ q2 q4 (h1.symm.trans h3)
    subst this
    exact n3 (eI _ _ q3 ht (h2.symm.trans h4))
  · subst c
    exact n2 (eI _ _ q2 ht (h1.symm.trans h4))
  · subst c
    exact n3 (eI _ _ q3 ht (h2.symm.trans h4))
/-- at an end no thread waits for itself -/
theorem end_self (hP : PV P nc nl nt n) (hS : SV P w nc nl nt n N) (hH : HW P nt N) (he : endC P w N nt = true) (ht : t < nt) : ¬ hopS P N t = nI t := by
  have hl4 := hP.2.1.2
  have hn := hP.2.2.2.1.2
  have ht4 := hP.2.2.1.2
  intro z
  unfold hopS at z
  by_cases q : laS P N t = -1
  · rw [if_pos q] at z
    have := n_1m (a := t) (by omega)
    rw [this] at z; exact z
  rw [if_neg q] at z
  unfold laS at q z
  by_cases c : N t = 3 ∨ (N t = 1 ∧ kd P (clp (N (4 + t))) = 5)
  · rw [if_pos c] at z
    rcases c with c | ⟨c, c5⟩
    · have h := hw_ob hP hS t ht (Or.inr c)
      rw [n_clp (a := ob P (clp (N (4 + t)))) (by omega)] at z
      exact hH t ht (Or.inr c) z
    · obtain ⟨⟨i, hi, h4, h8⟩, -⟩ := sv_run (hS.1.1 t ht) c
      have ei : clp (N (4 + t)) = i := by rw [h4]; exact n_clp (by omega)
      rw [ei] at c5 z
      have ho := ((hP.2.2.2.2.1 i hi).2.2.2.1 (by omega) (by omega)).2
      rw [n_clp (a := ob P i) (by omega)] at z
      -- a flush or the lock itself is ready
      have hne : ∃ a, a ∈ rdl P w N nt nt := by
        by_cases b : N (56 + t) = 0
        · have hc : chs P w N t nt = 1 := by
            unfold chs
            rw [if_neg (by rw [c]; decide), if_pos c, ei]
            unfold chK
            rw [if_neg (fun y => y.1 b), if_neg (by omega), if_neg (by omega), if_pos c5, if_pos (Or.inr z)]
          exact ⟨10 * t + 0, (rdl_mem hP hS nt (Nat.le_refl _) t 0 (by decide)).mpr ⟨ht, ht, Or.inl (by rw [hc]; decide)⟩⟩
        · exact ⟨10 * t + 9, (rdl_mem hP hS nt (Nat.le_refl _) t 9 (by decide)).mpr ⟨ht, ht, Or.inr ⟨rfl, b⟩⟩⟩
      obtain ⟨a, ha⟩ := hne
      have : rdl P w N nt nt = [] := of_decide_eq_true he
      rw [this] at ha
      exact absurd ha List.not_mem_nil
  · rw [if_neg c] at q; exact absurd rfl q
end RG1

