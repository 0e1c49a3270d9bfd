/-! WHO WAITS OR IS WOKEN HAS NOT THE LOCK: kept by every step. -/
/-- those that wait or are woken have not the lock of their line -/
def HW (P : Nat → fI) (nt : Nat) (N : fI) : Prop := ∀ u, u < nt → (N u = 2 ∨ N u = 3) → ¬ N (40 + ob P (clp (N (4 + u)))) = nI u
/-- what a step of t may do to others and to holders -/
abbrev hwR (N M : fI) (t : Nat) : Prop := (∀ u, u < 4 → u ≠ t → (M u = 2 ∨ M u = 3) → (N u = 2 ∨ N u = 3) ∧ M (4 + u) = N (4 + u)) ∧ ∀ l, l < 4 → M (40 + l) = N (40 + l) ∨ M (40 + l) = nI t ∨ M (40 + l) = -1
section HWS
variable {t i n w a c l u ch nc nl nt k o j : Nat} {v x z : Int32} {N M : fI} {P : Nat → fI}
theorem hw_of (hnt : nt ≤ 4) (ht4 : t < 4) (h : HW P nt N) (hob : ∀ u, u < nt → (N u = 2 ∨ N u = 3) → ob P (clp (N (4 + u))) < 4) (r : hwR N M t) (ht : M t = 2 ∨ M t = 3 → ¬ M (40 + ob P (clp (M (4 + t)))) = nI t) : HW P nt M := by
  intro u hu hs
  by_cases q : u = t
  · subst q; exact ht hs
  · obtain ⟨a, b⟩ := r.1 u (by omega) q hs
    rw [b]
    rcases r.2 _ (hob u hu a) with e | e | e
    · rw [e]; exact h u hu a
    · rw [e]; exact fun z => q ((nI_eq (by omega) (by omega)).mp z).symm
    · rw [e]
      intro z
      have := n_1m (a := u) (by omega)
      rw [this] at z
      exact z
theorem hw_ob (hP : PV P nc nl nt n) (hS : SV P w nc nl nt n N) : ∀ u, u < nt → (N u = 2 ∨ N u = 3) → ob P (clp (N (4 + u))) < 4 := by
  intro u hu hs
  have hn := hP.2.2.2.1.2
  have hl4 := hP.2.1.2
  rcases hS.1.1 u hu with ⟨h, -⟩ | ⟨h, -⟩ | ⟨h, ⟨i, hi, h4, h8, hk⟩, -⟩ | ⟨h, -⟩
  · exfalso; rcases h with h | h <;> rw [h] at hs <;> rcases hs with z | z <;> exact absurd z (by decide)
  · exfalso; rw [h] at hs; rcases hs with z | z <;> exact absurd z (by decide)
  · rw [h4, n_clp (by omega)]
    have := (hP.2.2.2.2.1 i hi).2.2.2.1 (by omega) (by omega)
    omega
  · exfalso; rw [h] at hs; rcases hs with z | z <;> exact absurd z (by decide)
theorem tou_k (hl : P 10 i = -2 ∨ ∃ k, P 10 i = nI k ∧ k < 6) (ht : t < 4) (h1 : 40 ≤ j) (h2 : j < 48) : (touS w P N t c ch i k).2 j = N j := by
  unfold touS
  split
  · exact (fr_lok (by omega)).trans (fr_setl2 hl ht h1)
  · split
    · rfl
    · split
      · exact fr_setl2 hl ht h1
      · split
        · exact fr_sto (by omega)
        · split
          · split
            · rfl
            · show swp _ _ _ _ _ _ _ _ j = _
              unfold swp
              split
              · exact (fr_setl2 hl ht h1).trans ((fr_wrt (by omega)).trans (fr_lal (by omega)))
              · exact (fr_setl2 hl ht h1).trans (fr_lal (by omega))
          · unfold add2
            split
            · rfl
            · exact (fr_setl2 hl ht h1).trans ((fr_wrt (by omega)).trans (fr_lal (by omega)))
/-- equal places give it -/
theorem hwR_eq (h : ∀ j, j < 48 → j ≠ t → j ≠ 4 + t → (j < 8 ∨ (40 ≤ j ∧ j < 44)) → M j = N j) (ht : t < 4) : hwR N M t := by
  refine ⟨fun u hu q hs => ?_, fun l hl => Or.inl (h _ (by omega) (by omega) (by omega) (by omega))⟩
  rw [h u (by omega) q (by omega) (by omega)] at hs
  exact ⟨hs, h (4 + u) (by omega) (by omega) (by omega) (by omega)⟩
theorem wak_le {co : Option Nat} (hj : j < 4 → N j ≠ 2) : ∀ u, u ≤ 4 → wak P N l co u j = N j := by
  intro u
  induction u with
  | zero => intro _; rfl
  | succ u ih =>
    intro hu
    by_cases q : j < 4
    · exact wak_n (hj q) (u + 1)
    · have ih := ih (by omega)
      show (if wtf P N u l = true ∧ (co = none ∨ co = some (wts P N l u)) then upd (wak P N l co u) u 3 else wak P N l co u) j = N j
      split
      · rw [pk_un (by omega)]; exact ih
      · exact ih
theorem act_hw (hnt : nt ≤ 4) (ht : t < 4) (s1 : N t = 1) (hl : P 10 i = -2 ∨ ∃ k, P 10 i = nI k ∧ k < 6) (ho : 5 ≤ k → k ≤ 9 → o < 4) (ho2 : k = 10 → o < 4) : hwR N (actS w P N t ch nt i o k).2 t ∧ ((actS w P N t ch nt i o k).2 t = 1 ∨ ((actS w P N t ch nt i o k).2 (4 + t) = N (4 + t) ∧ (actS w P N t ch nt i o k).2 (40 + o) = -1)) := by
  have same : ∀ M : fI, (∀ j, j < 8 ∨ (40 ≤ j ∧ j < 44) → M j = N j) → hwR N M t ∧ (M t = 1 ∨ (M (4 + t) = N (4 + t) ∧ M (40 + o) = -1)) := fun M h => ⟨hwR_eq (fun j _ _ _ z => h j z) ht, Or.inl (by rw [h t (by omega)]; exact s1)⟩
  unfold actS
  by_cases k4 : k ≤ 4
  · rw [if_pos k4]
    exact same _ (fun j hj => by
      by_cases q : j < 16
      · exact fr_tou q
      · exact tou_k hl ht (by omega) (by omega))
  rw [if_neg k4]
  by_cases k9 : k ≤ 9
  · rw [if_pos k9]
    have ho := ho (by omega) k9
    unfold lckS
    by_cases k5 : k = 5
    · rw [if_pos k5]
      by_cases q9 : 9 ≤ N (44 + o)
      · rw [if_pos q9]; exact same _ (fun j _ => rfl)
      · rw [if_neg q9]
        have e : ∀ j, j < 44 → j ≠ 40 + o → lrn (upd (upd N (40 + o) (nI t)) (44 + o) (N (44 + o) + 1)) t (N (228 + o)) j = N j := fun j h1 h2 => by
          unfold lrn
          rw [pk_un (by omega), pk_un (by omega), pk_un h2]
        refine ⟨⟨fun u hu q hs => ?_, fun l hl => ?_⟩, Or.inl ?_⟩
        · have hs : lrn (upd (upd N (40 + o) (nI t)) (44 + o) (N (44 + o) + 1)) t (N (228 + o)) u = 2 ∨ lrn (upd (upd N (40 + o) (nI t)) (44 + o) (N (44 + o) + 1)) t (N (228 + o)) u = 3 := hs
          rw [e u (by omega) (by omega)] at hs
          exact ⟨hs, e (4 + u) (by omega) (by omega)⟩
        · by_cases z : l = o
          · right; left
            show lrn _ _ _ (40 + l) = _
            unfold lrn
            rw [z, pk_un (by omega), pk_un (by omega), pk_us]
          · exact Or.inl (e (40 + l) (by omega) (by omega))
        · exact (e t (by omega) (by omega)).trans s1
    rw [if_neg k5]
    by_cases qh : N (40 + o) = nI t
    rotate_left
    · rw [if_pos qh]; exact same _ (fun j _ => rfl)
    rw [if_neg (not_not_intro qh)]
    have lv : ∀ (M : fI) (j : Nat), j < 44 → j ≠ 40 + o → lev M t o j = M j := fun M j h1 h2 => by
      unfold lev
      split
      · rw [pk_un h2, pk_un (by omega)]
      · rw [pk_un (by omega)]
    have lv2 : ∀ M : fI, lev M t o (40 + o) = M (40 + o) ∨ lev M t o (40 + o) = -1 := fun M => by
      unfold lev
      split
      · right; rw [pk_us]
      · left; rw [pk_un (by omega)]
    by_cases k6 : k = 6
    · rw [if_pos k6]
      have e : ∀ j, j < 44 → j ≠ 40 + o → lev (upd N (44 + o) (N (44 + o) - 1)) t o j = N j := fun j h1 h2 => by
        rw [lv _ j h1 h2, pk_un (by omega)]
      refine ⟨⟨fun u hu q hs => ?_, fun l hl => ?_⟩, Or.inl ?_⟩
      · have hs : lev (upd N (44 + o) (N (44 + o) - 1)) t o u = 2 ∨ lev (upd N (44 + o) (N (44 + o) - 1)) t o u = 3 := hs
        rw [e u (by omega) (by omega)] at hs
        exact ⟨hs, e (4 + u) (by omega) (by omega)⟩
      · by_cases z : l = o
        · subst z
          rcases lv2 (upd N (44 + l) (N (44 + l) - 1)) with h | h
          · left
            show lev _ _ _ (40 + l) = _
            rw [h, pk_un (by omega)]
          · exact Or.inr (Or.inr h)
        · exact Or.inl (e (40 + l) (by omega) (by omega))
      · exact (e t (by omega) (by omega)).trans s1
    rw [if_neg k6]
    by_cases k7 : k = 7
    · rw [if_pos k7]
      have e : ∀ j, j < 8 ∨ (40 ≤ j ∧ j < 44) → j ≠ 40 + o → j ≠ t → lev (upd (upd (upd N (12 + t) (N (44 + o))) (44 + o) 0) t 2) t o j = N j := fun j h1 h2 h3 => by
        rw [lv _ j (by omega) h2, pk_un h3, pk_un (by omega), pk_un (by omega)]
      have h40 : lev (upd (upd (upd N (12 + t) (N (44 + o))) (44 + o) 0) t 2) t o (40 + o) = -1 := by
        unfold lev
        rw [if_pos (by rw [pk_un (by omega), pk_us]), pk_us]
      refine ⟨⟨fun u hu q hs => ?_, fun l hl => ?_⟩, Or.inr ⟨e (4 + t) (by omega) (by omega) (by omega), h40⟩⟩
      · have hs : lev (upd (upd (upd N (12 + t) (N (44 + o))) (44 + o) 0) t 2) t o u = 2 ∨ lev (upd (upd (upd N (12 + t) (N (44 + o))) (44 + o) 0) t 2) t o u = 3 := hs
        rw [e u (by omega) (by omega) q] at hs
        exact ⟨hs, e (4 + u) (by omega) (by omega) (by omega)⟩
      · by_cases z : l = o
        · subst z; exact Or.inr (Or.inr h40)
        · exact Or.inl (e (40 + l) (by omega) (by omega) (by omega))
    rw [if_neg k7]
    refine ⟨⟨fun u hu q hs => ?_, fun l hl => ?_⟩, Or.inl ?_⟩
    · have hs : wak P N o (if k = 8 then some ch else none) nt u = 2 ∨ wak P N o (if k = 8 then some ch else none) nt u = 3 := hs
      refine ⟨?_, wak_le (by omega) nt hnt⟩
      by_cases y : N u = 2
      · exact Or.inl y
      · rw [wak_n y] at hs; exact hs
    · exact Or.inl (wak_le (by omega) nt hnt)
    · exact (wak_n (by rw [s1]; decide) nt).trans s1
  rw [if_neg k9]
  by_cases k13 : k ≤ 13
  · rw [if_pos k13]
    unfold metS
    by_cases k10 : k = 10
    · have ho := ho2 k10
      rw [if_pos k10]
      by_cases q0 : N o = 0
      rotate_left
      · rw [if_pos q0]; exact same _ (fun j _ => rfl)
      rw [if_neg (not_not_intro q0)]
      have hto : t ≠ o := fun z => by rw [← z, s1] at q0; exact absurd q0 (by decide)
      have e : ∀ j, j < 8 ∨ (40 ≤ j ∧ j < 44) → j ≠ o → j ≠ 4 + o → upd (gto N o (P 5 o)) (224 + o) (N (224 + t)) j = N j := fun j h1 h2 h3 => by
        rw [pk_un (by omega), fr_gto h2 h3]
      refine ⟨⟨fun u hu q hs => ?_, fun l hl => Or.inl (e (40 + l) (by omega) (by omega) (by omega))⟩, Or.inl ((e t (by omega) hto (by omega)).trans s1)⟩
      have hs : upd (gto N o (P 5 o)) (224 + o) (N (224 + t)) u = 2 ∨ upd (gto N o (P 5 o)) (224 + o) (N (224 + t)) u = 3 := hs
      by_cases z : u = o
      · exfalso
        subst z
        have : upd (gto N u (P 5 u)) (224 + u) (N (224 + t)) u = if 0 ≤ P 5 u then 1 else 4 := by
          rw [pk_un (by omega)]; unfold gto; rw [pk_us]
        rw [this] at hs
        split at hs <;> rcases hs with y | y <;> exact absurd y (by decide)
      · rw [e u (by omega) z (by omega)] at hs
        exact ⟨hs, e (4 + u) (by omega) (by omega) (by omega)⟩
    rw [if_neg k10]
    by_cases k11 : k = 11
    · rw [if_pos k11]; exact same _ (fun j hj => pk_un (by omega))
    rw [if_neg k11]
    by_cases k12 : k = 12
    · rw [if_pos k12]
      exact same _ (fun j hj => by
        show upd _ _ _ j = _
        rw [pk_un (by omega)]
        exact pk_un (by omega))
    · rw [if_neg k12]; exact same _ (fun j _ => rfl)
  · rw [if_neg k13]; exact same _ (fun j _ => rfl)
theorem HW_stp (hP : PV P nc nl nt n) (hS : SV P w nc nl nt n N) (hr : rdS P w N t ch nt) (h : HW P nt N) : HW P nt (stp P w N t ch nt) := by
  have hob := hw_ob hP hS
  obtain ⟨htn, hr⟩ := hr
  obtain ⟨⟨hc0, hc8⟩, ⟨hl0, hl4⟩, ⟨ht0, ht4⟩, ⟨hn0, hn100⟩, hln, hth⟩ := hP
  obtain ⟨St, Sl, Sk, Sc, Sq, Sw⟩ := hS
  by_cases h9 : ch = 9
  · have e : stp P w N t ch nt = flu N t (clp (N (60 + t * 3) &&& (7 : Int32))) (N (60 + t * 3) >>> ((3 : Int32) &&& 31)) := by unfold stp; rw [if_pos h9]
    have f : ∀ j, j < 48 → flu N t (clp (N (60 + t * 3) &&& (7 : Int32))) (N (60 + t * 3) >>> ((3 : Int32) &&& 31)) j = N j := fun j hj => by
      unfold flu
      rw [pk_un (by omega), pk_un (by omega), pk_un (by omega), pk_un (by omega), pk_un (by omega)]
    rw [e]
    refine hw_of (t := t) ht4 (by omega) h hob (hwR_eq (fun j hj _ _ _ => f j hj) (by omega)) (fun hs => ?_)
    rw [f t (by omega)] at hs
    have := hob t htn hs
    rw [f (4 + t) (by omega), f _ (by omega)]
    exact h t htn hs
  · have hr : ch < chs P w N t nt := hr.resolve_right (fun z => h9 z.1)
    by_cases s3 : N t = 3
    · have e : stp P w N t ch nt = tkb N t (ob P (clp (N (4 + t)))) (P 23 (clp (N (4 + t)))) := by unfold stp; rw [if_neg h9, if_pos s3]
      have hl := hob t htn (Or.inr s3)
      rw [e]
      generalize ob P (clp (N (4 + t))) = l at hl
      generalize P 23 (clp (N (4 + t))) = x
      have f : ∀ j, j < 48 → j ≠ t → j ≠ 4 + t → j ≠ 12 + t → j ≠ 40 + l → j ≠ 44 + l → tkb N t l x j = N j := fun j h1 h2 h3 h4 h5 h6 => by
        unfold tkb lrn
        rw [fr_gto h2 h3, pk_un (by omega), pk_un h4, pk_un h6, pk_un h5]
      refine hw_of (t := t) ht4 (by omega) h hob ⟨fun u hu q hs => ?_, fun l' hl' => ?_⟩ (fun hs => ?_)
      · rw [f u (by omega) q (by omega) (by omega) (by omega) (by omega)] at hs
        exact ⟨hs, f (4 + u) (by omega) (by omega) (by omega) (by omega) (by omega) (by omega)⟩
      · by_cases z : l' = l
        · right; left
          unfold tkb lrn
          rw [z, fr_gto (by omega) (by omega), pk_un (by omega), pk_un (by omega), pk_un (by omega), pk_us]
        · exact Or.inl (f (40 + l') (by omega) (by omega) (by omega) (by omega) (by omega) (by omega))
      · exfalso
        have : tkb N t l x t = if 0 ≤ x then 1 else 4 := by unfold tkb gto; rw [pk_us]
        rw [this] at hs
        split at hs <;> rcases hs with y | y <;> exact absurd y (by decide)
    · have s1 : N t = 1 := by
        unfold chs at hr
        rw [if_neg s3] at hr
        by_cases z : N t = 1
        · exact z
        · rw [if_neg z] at hr; omega
      obtain ⟨⟨i, hi, h4, h8⟩, e8, e12⟩ := sv_run (St.1 t htn) s1
      have ei : clp (N (4 + t)) = i := by rw [h4]; exact n_clp (by omega)
      have e : stp P w N t ch nt = linS w P N t ch nt i (ob P i) (kd P i) := by unfold stp; rw [if_neg h9, if_neg s3, ei]
      obtain ⟨⟨hk, hk19⟩, ⟨t', ht', h8', hg22, hg23, hl10⟩, ho1, ho2, ho3, hx5, hx7⟩ := hln i hi
      have hl : P 10 i = -2 ∨ ∃ k, P 10 i = nI k ∧ k < 6 := by
        rcases hl10 with z | ⟨k, z, hk⟩
        · exact Or.inl z
        · have := (hth t' ht').2.2
          exact Or.inr ⟨k, z, by omega⟩
      obtain ⟨a1, a2⟩ := act_hw (w := w) (ch := ch) (i := i) (k := kd P i) (o := ob P i) ht4 (show t < 4 by omega) s1 hl (fun x y => by have := ho2 x y; omega) (fun x => by have := ho3 (Or.inl x); omega)
      rw [e]
      unfold linS
      generalize hA : actS w P N t ch nt i (ob P i) (kd P i) = A at a1 a2
      by_cases h0 : A.1 = 0
      · rw [if_neg (not_not_intro h0)]
        by_cases y1 : A.2 t = 1
        · rw [if_pos y1]
          generalize tgtS P N i (kd P i) = x
          refine hw_of (t := t) ht4 (by omega) h hob ⟨fun u hu q hs => ?_, fun l hl => ?_⟩ (fun hs => ?_)
          · rw [fr_gto q (by omega)] at hs
            rw [fr_gto (by omega) (by omega)]
            exact a1.1 u hu q hs
          · rw [fr_gto (by omega) (by omega)]; exact a1.2 l hl
          · exfalso
            have : gto A.2 t x t = if 0 ≤ x then 1 else 4 := by unfold gto; rw [pk_us]
            rw [this] at hs
            split at hs <;> rcases hs with y | y <;> exact absurd y (by decide)
        · rw [if_neg y1]
          refine hw_of (t := t) ht4 (by omega) h hob a1 (fun hs => ?_)
          obtain ⟨b1, b2⟩ := a2.resolve_left y1
          rw [b1, ei, b2]
          intro z
          have := n_1m (a := t) (by omega)
          rw [this] at z
          exact z
      · rw [if_pos h0]
        have f : ∀ j, j ≠ t → j ≠ 4 + t → j ≠ 8 + t → wrg A.2 t A.1 j = A.2 j := fun j h1 h2 h3 => by
          unfold wrg
          rw [pk_un h3, pk_un h2, pk_un h1]
        refine hw_of (t := t) ht4 (by omega) h hob ⟨fun u hu q hs => ?_, fun l hl => ?_⟩ (fun hs => ?_)
        · rw [f u q (by omega) (by omega)] at hs
          rw [f (4 + u) (by omega) (by omega) (by omega)]
          exact a1.1 u hu q hs
        · rw [f (40 + l) (by omega) (by omega) (by omega)]; exact a1.2 l hl
        · exfalso
          have : wrg A.2 t A.1 t = 5 := by unfold wrg; rw [pk_un (by omega), pk_un (by omega), pk_us]
          rw [this] at hs
          rcases hs with y | y <;> exact absurd y (by decide)
theorem HW_cg (hP : PV P nc nl nt n) (hS : SV P w nc nl nt n N) (he : ∀ j, j < 233 → N j = M j) (h : HW P nt N) : HW P nt M := by
  have hob := hw_ob hP hS
  have ht4 := hP.2.2.1.2
  intro u hu hs
  rw [← he u (by omega)] at hs
  have := hob u hu hs
  rw [← he (4 + u) (by omega), ← he _ (by omega)]
  exact h u hu hs
theorem HW_0 {M' : fI} (hc8 : nc ≤ 8) (hnt : nt ≤ 4) : HW P nt (fst0 P w nc nt M') := by
  intro u hu hs
  exfalso
  rw [f0_at hc8] at hs
  by_cases q : u < 4 ∧ u < nt ∧ isL P u = false
  · rw [if_pos q] at hs
    split at hs <;> rcases hs with y | y <;> exact absurd y (by decide)
  · rw [if_neg q, if_neg (by omega), if_neg (by omega), if_neg (by omega), if_neg (by omega), if_neg (by omega), if_pos (by omega)] at hs
    rcases hs with y | y <;> exact absurd y (by decide)
/-- all states found have it -/
theorem HW_all (hP : PV P nc nl nt n) {X : xT} (hX : XV P w nc nl nt n X) (h0 : xS X 0 = fst0 P w nc nt (fun _ => 0)) (hw2 : w ≤ 2) : ∀ i, i < xN X → HW P nt (xS X i) := by
  intro i
  induction i using Nat.strongRecOn with
  | ind i ih =>
    intro hi
    by_cases q : i = 0
    · subst q
      rw [h0]
      exact HW_0 hP.1.2 hP.2.2.1.2
    · obtain ⟨a, b, c, e⟩ := hX.2.2.2.2.2 i (by omega) hi
      have hS := hX.2.1 (xF X i).1 (by omega)
      obtain ⟨r1, r2⟩ := rdl_rdS hP hS e
      exact HW_cg hP (SV_stp hP hS hw2 r1 r2) (fun j hj => (c j hj).symm) (HW_stp hP hS r1 (ih _ a (by omega)))
end HWS

