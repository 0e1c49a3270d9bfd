/-! TWO THREADS, ONE MEMORY: where threads begin; none is unstarted; ends; two states there are. -/
/-- no thread waits to be started -/
abbrev nz0 (M : fI) : Prop := M 0 ≠ 0 ∧ M 1 ≠ 0
section EDS
variable {P : Nat → fI} {nc nl n N t u k : Nat} {M : fI} {bl : Nat → List Nat} {K th lc : Nat → Nat} {go : Nat → Bool} {X : xT}
theorem sp_nz (hG : GP P nc nl n) (hS : SV P 0 nc nl 2 n M) (ht : t < 2) (hr : rd0 P t M) (h : nz0 M) : nz0 (sp P t M) := by
  have e0 := sp_0 hG hS ht hr
  have et := e0 t (by omega)
  have own : sp P t M t ≠ 0 := by
    rw [et]
    unfold st0
    by_cases g : (ac0 P M t (clp (M (4 + t)))).1 = 0
    · rw [if_neg (not_not_intro g)]
      have w1 : ∀ (A : fI) (x : Int32), gto A t x t = if 0 ≤ x then 1 else 4 := fun A x => pk_us
      rw [w1]
      split <;> decide
    · rw [if_pos g]
      have w1 : ∀ (A : fI) (x : Int32), wrg A t x t = 5 := fun A x => (pk_un (show t ≠ 8 + t by omega)).trans ((pk_un (show t ≠ 4 + t by omega)).trans pk_us)
      rw [w1]
      decide
  have oth : ∀ u, u < 2 → u ≠ t → sp P t M u = M u := fun u hu hut => sp_u hG hS hu ht hut hr u (Or.inl rfl)
  rcases (show t = 0 ∨ t = 1 by omega) with rfl | rfl
  · exact ⟨own, by rw [oth 1 (by decide) (by decide)]; exact h.2⟩
  · exact ⟨by rw [oth 0 (by decide) (by decide)]; exact h.1, own⟩
theorem isL_0 (h8 : P 0 8 = 0) (ht : t < 2) : isL P t = false := by
  unfold isL
  rw [h8]
  rcases (show t = 0 ∨ t = 1 by omega) with rfl | rfl
  · decide
  · decide
theorem f00_t (h8 : P 0 8 = 0) (hc8 : nc ≤ 8) (ht : t < 2) : f00 P nc t = if 0 ≤ P 5 t then 1 else 4 := by
  show fst0 P 0 nc 2 (fun _ => 0) t = _
  rw [f0_at hc8, if_pos ⟨by omega, ht, isL_0 h8 ht⟩]
theorem f00_4 (h8 : P 0 8 = 0) (hc8 : nc ≤ 8) (ht : t < 2) : f00 P nc (4 + t) = P 5 t := by
  have e : 4 + t - 4 = t := by omega
  show fst0 P 0 nc 2 (fun _ => 0) (4 + t) = _
  rw [f0_at hc8, if_neg (by omega), if_pos (by omega), e, if_pos ⟨ht, isL_0 h8 ht⟩]
theorem f00_40 (hc8 : nc ≤ 8) (hk : k < 4) : f00 P nc (40 + k) = -1 := by
  show fst0 P 0 nc 2 (fun _ => 0) (40 + k) = -1
  rw [f0_at hc8, if_neg (by omega), if_neg (by omega), if_pos (by omega)]
theorem f00_nz (h8 : P 0 8 = 0) (hc8 : nc ≤ 8) : nz0 (f00 P nc) := by
  refine ⟨?_, ?_⟩
  · rw [f00_t h8 hc8 (by decide)]
    split <;> decide
  · rw [f00_t h8 hc8 (by decide)]
    split <;> decide
/-- how an end's sort is told by its threads -/
theorem so_end (h : nz0 M) : soS M 2 = if M 0 = 4 ∧ M 1 = 4 then 0 else if M 0 = 5 ∨ M 1 = 5 then 2 else 1 := by
  show (if M 0 = 5 then 2 else (if M 1 = 5 then 2 else (if ((true && (decide (M 0 = 0) || decide (M 0 = 4))) && (decide (M 1 = 0) || decide (M 1 = 4))) = true then 0 else 1))) = _
  have e0 : decide (M 0 = 0) = false := decide_eq_false h.1
  have e1 : decide (M 1 = 0) = false := decide_eq_false h.2
  rw [e0, e1]
  by_cases a : M 0 = 5
  · rw [if_pos a, if_neg (fun z => by rw [a] at z; exact absurd z.1 (by decide)), if_pos (Or.inl a)]
  rw [if_neg a]
  by_cases b : M 1 = 5
  · rw [if_pos b, if_neg (fun z => by rw [b] at z; exact absurd z.2 (by decide)), if_pos (Or.inr b)]
  rw [if_neg b, if_neg (show ¬ (M 0 = 5 ∨ M 1 = 5) from fun z => by rcases z with z | z; exact a z; exact b z)]
  by_cases c : M 0 = 4
  · by_cases d : M 1 = 4
    · rw [decide_eq_true c, decide_eq_true d, if_pos (show M 0 = 4 ∧ M 1 = 4 from ⟨c, d⟩)]
      rfl
    · rw [decide_eq_true c, decide_eq_false d, if_neg (show ¬ (M 0 = 4 ∧ M 1 = 4) from fun z => d z.2)]
      rfl
  · rw [decide_eq_false c, if_neg (show ¬ (M 0 = 4 ∧ M 1 = 4) from fun z => c z.1)]
    rfl
theorem rdl_nil (hG : GP P nc nl n) (hS : SV P 0 nc nl 2 n M) (h : (rdl P 0 M 2 2).length = 0) : en0 P M := by
  have e := List.eq_nil_of_length_eq_zero h
  refine ⟨fun z => ?_, fun z => ?_⟩
  · have := (rdl_0 hG hS 0).mpr (Or.inl ⟨rfl, z⟩)
    rw [e] at this
    cases this
  · have := (rdl_0 hG hS 10).mpr (Or.inr ⟨rfl, z⟩)
    rw [e] at this
    cases this
/-- some thread is ready at first -/
theorem f00_rd (hP : PRG P nc nl N lc bl K th (fun _ => false)) (hl : lmN P ≤ 500) (hN : 1 ≤ N) : ∃ t, t < 2 ∧ rd0 P t (f00 P nc) := by
  obtain ⟨hG, -, -⟩ := PRG_good hP hl
  have hc8 := hP.1.1.2
  have h8 := hP.1.2.2.1.2
  have hn := hP.1.2.2.2.2
  have hT := hP.2.1
  obtain ⟨t0, k0⟩ := hT.2.2.2.2.1 0 (by omega)
  have ek : K 0 = th 0 := by
    rcases k0 with ⟨a, -⟩ | ⟨p, b, hp, -⟩
    · exact a
    · omega
  have hm : 0 ∈ bl (th 0) := by
    rw [← ek]
    exact hT.2.2.1 0 (by omega) rfl
  have hlk := hT.1 (th 0) (Or.inl t0.1)
  generalize th 0 = t at t0 hm hlk
  obtain ⟨a, L, eb⟩ : ∃ a L, bl t = a :: L := by
    cases e : bl t with
    | nil => rw [e] at hm; cases hm
    | cons a L => exact ⟨a, L, rfl⟩
  rw [eb] at hlk
  have ha : a < N := (hT.2.1 t a (by rw [eb]; exact List.mem_cons_self)).1
  have hlk' : hdK (P 5) (P 20) (P 21) t = nI a ∧ lkd (P 17) (-1) (P 17 a) L := hlk
  have h5 : P 5 t = nI a := by
    have e : hdK (P 5) (P 20) (P 21) t = P 5 t := if_pos (by omega)
    rw [← e]
    exact hlk'.1
  refine ⟨t, t0.1, ?_, fun z => Or.inl ?_⟩
  · rw [f00_t h8 hc8 t0.1, h5, if_pos (Int32.not_lt.mp (nI_pos (by omega)))]
  · have e4 : clp (f00 P nc (4 + t)) = a := by
      rw [f00_4 h8 hc8 t0.1, h5]
      exact n_clp (by omega)
    rw [e4] at z ⊢
    have ho := (gp_ln hG ha).2.2.1 (by omega) (by omega)
    rw [f00_40 hc8 ho]
    decide
theorem two_sts (hP : PRG P nc nl N lc bl K th (fun _ => false)) (hl : lmN P ≤ 500) (hN : 1 ≤ N) (h : expl P 0 nc nl 2 false = some X) : 2 ≤ xN X := by
  obtain ⟨hG, hk, -⟩ := PRG_good hP hl
  obtain ⟨t, ht, hr⟩ := f00_rd hP hl hN
  have hS := f00_w hG
  have h0 := z_f00 hG h
  obtain ⟨s, hs, es⟩ := z_all (l := [t]) hG h ⟨ht, hr, trivial⟩
  have es : eqS (xS X s) (sp P t (f00 P nc)) := es
  rcases Nat.lt_or_ge (xN X) 2 with q | q
  · exfalso
    have e : s = 0 := by omega
    rw [e, h0] at es
    have e6 := eqS_e es
    have p0 := pos_e (ρ := rkP bl K) (R := 18) e6 (t := 0) (by decide)
    have p1 := pos_e (ρ := rkP bl K) (R := 18) e6 (t := 1) (by decide)
    have := pos_sum hG hk hS ht hr
    omega
  · exact q
end EDS
