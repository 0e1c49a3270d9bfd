/-! TWO THREADS, ONE MEMORY: a state is told by the order of the lines that touched cells, and by how far each thread is behind its last one: so states are few. -/
def it (P : Nat → fI) (t : Nat) : Nat → fI → fI
  | 0, a => a
  | k + 1, a => st0 P t (it P t k a)
/-- the first k from i on at which a cell is touched -/
def fkT (P : Nat → fI) (t : Nat) (a : fI) : Nat → Nat → Nat
  | 0, i => i
  | m + 1, i => if tc P t (it P t i a) = true then i else fkT P t a m (i + 1)
/-- behind a row of touchings (the last first): the parts of both threads, the cells -/
def KW (P : Nat → fI) (nc : Nat) : List Bool → fI × fI × fI
  | [] => (f00 P nc, f00 P nc, f00 P nc)
  | false :: w => (st0 P 0 (setc (it P 0 (fkT P 0 (KW P nc w).1 25 0) (KW P nc w).1) (KW P nc w).2.2), (KW P nc w).2.1, st0 P 0 (setc (it P 0 (fkT P 0 (KW P nc w).1 25 0) (KW P nc w).1) (KW P nc w).2.2))
  | true :: w => ((KW P nc w).1, st0 P 1 (setc (it P 1 (fkT P 1 (KW P nc w).2.1 25 0) (KW P nc w).2.1) (KW P nc w).2.2), st0 P 1 (setc (it P 1 (fkT P 1 (KW P nc w).2.1 25 0) (KW P nc w).2.1) (KW P nc w).2.2))
/-- how many lines of a thread, of this rank or more, touch cells -/
def cT (P : Nat → fI) (n : Nat) (ρ : Nat → Nat) (t r : Nat) : Nat := smN (fun i => if P 8 i = nI t ∧ (1 ≤ kd P i ∧ kd P i ≤ 4) ∧ r ≤ ρ i then 1 else 0) n
abbrev JJ (P : Nat → fI) (nc n : Nat) (ρ : Nat → Nat) (R : Nat) (w : List Bool) (i j : Nat) (N : fI) : Prop :=
  (ag 0 N (it P 0 i (KW P nc w).1) ∧ own 0 (it P 0 i (KW P nc w).1) ∧ (∀ k, k < i → tc P 0 (it P 0 k (KW P nc w).1) = false) ∧ i ≤ pos ρ R 0 N) ∧
  (ag 1 N (it P 1 j (KW P nc w).2.1) ∧ own 1 (it P 1 j (KW P nc w).2.1) ∧ (∀ k, k < j → tc P 1 (it P 1 k (KW P nc w).2.1) = false) ∧ j ≤ pos ρ R 1 N) ∧
  (∀ c, 48 ≤ c → c < 56 → N c = (KW P nc w).2.2 c) ∧ w.length + (cT P n ρ 0 (pos ρ R 0 N) + cT P n ρ 1 (pos ρ R 1 N)) ≤ 4
def cod : List Bool → Nat
  | [] => 1
  | false :: w => 2 * cod w
  | true :: w => 2 * cod w + 1
section KEY
variable {P : Nat → fI} {nc nl n t u i j k o m R r : Nat} {N M a b : fI} {w w' : List Bool} {ρ : Nat → Nat} {f g : Nat → Nat}
theorem fkT_is : ∀ (m i : Nat), i ≤ k → k < i + m → (∀ h, i ≤ h → h < k → tc P t (it P t h a) = false) → tc P t (it P t k a) = true → fkT P t a m i = k := by
  intro m
  induction m with
  | zero => intro i h1 h2; omega
  | succ m ih =>
    intro i h1 h2 h3 h4
    have e : fkT P t a (m + 1) i = if tc P t (it P t i a) = true then i else fkT P t a m (i + 1) := rfl
    rw [e]
    by_cases q : i = k
    · rw [q, if_pos h4]
    · rw [if_neg (fun z => by rw [h3 i (Nat.le_refl i) (by omega)] at z; cases z)]
      exact ih (i + 1) (by omega) (by omega) (fun h g1 g2 => h3 h (by omega) g2) h4
theorem tc_ag (h : ag t N a) : tc P t a = tc P t N := by
  unfold tc
  rw [h.1 (4 + t) (by omega)]
theorem tc_e (h : N (4 + t) = M (4 + t)) : tc P t N = tc P t M := by
  unfold tc
  rw [h]
theorem smN_le : ∀ n, (∀ i, i < n → f i ≤ g i) → smN f n ≤ smN g n := by
  intro n
  induction n with
  | zero => intro _; exact Nat.le_refl _
  | succ n ih =>
    intro h
    show smN f n + f n ≤ smN g n + g n
    have := ih (fun i hi => h i (by omega))
    have := h n (by omega)
    omega
theorem smN_lt : ∀ n k, k < n → f k + 1 ≤ g k → (∀ i, i < n → f i ≤ g i) → smN f n + 1 ≤ smN g n := by
  intro n
  induction n with
  | zero => intro k h; omega
  | succ n ih =>
    intro k hk h1 h
    show smN f n + f n + 1 ≤ smN g n + g n
    have hn := h n (by omega)
    by_cases q : k = n
    · subst q
      have := smN_le k (fun i hi => h i (by omega))
      omega
    · have := ih k (by omega) h1 (fun i hi => h i (by omega))
      omega
theorem cT_le (h : k ≤ r) : cT P n ρ t r ≤ cT P n ρ t k := by
  refine smN_le n (fun i _ => ?_)
  split
  · rename_i q
    rw [if_pos ⟨q.1, q.2.1, by omega⟩]
    exact Nat.le_refl _
  · exact Nat.zero_le _
theorem cT_lt (hi : i < n) (h8 : P 8 i = nI t) (hk : 1 ≤ kd P i ∧ kd P i ≤ 4) (h : ρ i < r) : cT P n ρ t r + 1 ≤ cT P n ρ t (ρ i) := by
  refine smN_lt n i hi ?_ (fun j _ => ?_)
  · rw [if_neg (fun z => by omega), if_pos ⟨h8, hk, Nat.le_refl _⟩]
    exact Nat.le_refl _
  · split
    · rename_i q
      rw [if_pos ⟨q.1, q.2.1, by omega⟩]
      exact Nat.le_refl _
    · exact Nat.zero_le _
theorem pos_e (h : e56 N M) (ht : t < 2) : pos ρ R t N = pos ρ R t M := by
  unfold pos
  rw [h t (by omega), h (4 + t) (by omega)]
theorem JJ_e (h : e56 N M) (hJ : JJ P nc n ρ R w i j N) : JJ P nc n ρ R w i j M := by
  obtain ⟨⟨a1, a2, a3, a4⟩, ⟨b1, b2, b3, b4⟩, c1, c2⟩ := hJ
  rw [pos_e h (by decide)] at a4
  rw [pos_e h (by decide)] at b4
  rw [pos_e h (by decide), pos_e (t := 1) h (by decide)] at c2
  exact ⟨⟨ag_e h (by decide) a1, a2, a3, a4⟩, ⟨ag_e h (by decide) b1, b2, b3, b4⟩, fun c q1 q2 => (h c q2).symm.trans (c1 c q1 q2), c2⟩
/-- a step of thread 0 -/
theorem JJ_0 (hG : GP P nc nl n) (hk : RK P n ρ R) (hR : R ≤ 24) (hS : SV P 0 nc nl 2 n N) (hr : rd0 P 0 N) (hJ : JJ P nc n ρ R w i j N) : ∃ w' i' j', JJ P nc n ρ R w' i' j' (sp P 0 N) := by
  obtain ⟨⟨a1, a2, a3, a4⟩, ⟨b1, b2, b3, b4⟩, c1, c2⟩ := hJ
  have e := sp_0 hG hS (by decide) hr
  have hp := pos_step hG hk hS (by decide) hr
  have hu := pos_u (ρ := ρ) (R := R) (t := 1) hG hS (by decide) (by decide) (by decide) hr
  have q1 := ag_e e.sy (by decide) (ag_u hG hS (by decide) (by decide) (by decide) hr b1)
  obtain ⟨hi, -, h8⟩ := run_ln hG.1 hS (by decide) hr.1
  have p0 : pos ρ R 0 N = ρ (clp (N (4 + 0))) := if_pos hr.1
  cases ht : tc P 0 N with
  | false =>
    obtain ⟨g1, g2⟩ := ag_own hG hS (by decide) hr a1 a2 ht
    have hT : cT P n ρ 0 (pos ρ R 0 (sp P 0 N)) ≤ cT P n ρ 0 (pos ρ R 0 N) := cT_le (by omega)
    refine ⟨w, i + 1, j, ?_, ?_, ?_, ?_⟩
    · exact ⟨ag_e e.sy (by decide) g1, g2, fun k hk => by
        by_cases q : k = i
        · rw [q, tc_ag a1]; exact ht
        · exact a3 k (by omega), by omega⟩
    · exact ⟨q1, b2, b3, by rw [hu]; exact b4⟩
    · intro c z1 z2
      rw [e c z2, cells_o hG hS (by decide) hr ht z1 z2]
      exact c1 c z1 z2
    · rw [hu]; omega
  | true =>
    have hle := pos_le (t := 0) hG hk hS (by decide)
    have hf : fkT P 0 (KW P nc w).1 25 0 = i := fkT_is 25 0 (Nat.zero_le _) (by omega) (fun h _ z => a3 h z) (by rw [tc_ag a1]; exact ht)
    have d1 : ag 0 N (setc (it P 0 i (KW P nc w).1) (KW P nc w).2.2) := ⟨fun h hh => by
      show N h = if 48 ≤ h ∧ h < 56 then _ else _
      rw [if_neg (by omega)]; exact a1.1 h hh, fun l hl => by
      have e1 : setc (it P 0 i (KW P nc w).1) (KW P nc w).2.2 (40 + l) = it P 0 i (KW P nc w).1 (40 + l) := if_neg (by omega)
      have e2 : setc (it P 0 i (KW P nc w).1) (KW P nc w).2.2 (44 + l) = it P 0 i (KW P nc w).1 (44 + l) := if_neg (by omega)
      rw [e1, e2]; exact a1.2 l hl⟩
    have d2 : own 0 (setc (it P 0 i (KW P nc w).1) (KW P nc w).2.2) := fun l hl => by
      have e1 : setc (it P 0 i (KW P nc w).1) (KW P nc w).2.2 (40 + l) = it P 0 i (KW P nc w).1 (40 + l) := if_neg (by omega)
      have e2 : setc (it P 0 i (KW P nc w).1) (KW P nc w).2.2 (44 + l) = it P 0 i (KW P nc w).1 (44 + l) := if_neg (by omega)
      rw [e1, e2]; exact a2 l hl
    obtain ⟨g1, g2, g3⟩ := ag_tc hG hS (by decide) hr d1 d2 ht (fun h z1 z2 => by
      rw [c1 h z1 z2]
      exact (if_pos ⟨z1, z2⟩).symm)
    have hT : cT P n ρ 0 (pos ρ R 0 (sp P 0 N)) + 1 ≤ cT P n ρ 0 (pos ρ R 0 N) := by
      rw [p0]
      rw [p0] at hp
      refine cT_lt hi h8 ?_ hp.1
      unfold tc at ht
      obtain ⟨z1, z2⟩ := (Bool.and_eq_true _ _).mp ht
      exact ⟨of_decide_eq_true z1, of_decide_eq_true z2⟩
    have eK : KW P nc (false :: w) = (st0 P 0 (setc (it P 0 (fkT P 0 (KW P nc w).1 25 0) (KW P nc w).1) (KW P nc w).2.2), (KW P nc w).2.1, st0 P 0 (setc (it P 0 (fkT P 0 (KW P nc w).1 25 0) (KW P nc w).1) (KW P nc w).2.2)) := rfl
    refine ⟨false :: w, 0, j, ?_, ?_, ?_, ?_⟩
    · rw [eK, hf]
      exact ⟨ag_e e.sy (by decide) g1, g2, fun k hk => absurd hk (Nat.not_lt_zero k), Nat.zero_le _⟩
    · rw [eK]
      exact ⟨q1, b2, b3, by rw [hu]; exact b4⟩
    · intro c z1 z2
      rw [eK, hf, e c z2]
      exact g3 c z1 z2
    · rw [hu, List.length_cons]; omega
/-- a step of thread 1 -/
theorem JJ_1 (hG : GP P nc nl n) (hk : RK P n ρ R) (hR : R ≤ 24) (hS : SV P 0 nc nl 2 n N) (hr : rd0 P 1 N) (hJ : JJ P nc n ρ R w i j N) : ∃ w' i' j', JJ P nc n ρ R w' i' j' (sp P 1 N) := by
  obtain ⟨⟨b1, b2, b3, b4⟩, ⟨a1, a2, a3, a4⟩, c1, c2⟩ := hJ
  have e := sp_0 hG hS (by decide) hr
  have hp := pos_step hG hk hS (by decide) hr
  have hu := pos_u (ρ := ρ) (R := R) (t := 0) hG hS (by decide) (by decide) (by decide) hr
  have q1 := ag_e e.sy (by decide) (ag_u hG hS (by decide) (by decide) (by decide) hr b1)
  obtain ⟨hi, -, h8⟩ := run_ln hG.1 hS (by decide) hr.1
  have p0 : pos ρ R 1 N = ρ (clp (N (4 + 1))) := if_pos hr.1
  cases ht : tc P 1 N with
  | false =>
    obtain ⟨g1, g2⟩ := ag_own hG hS (by decide) hr a1 a2 ht
    have hT : cT P n ρ 1 (pos ρ R 1 (sp P 1 N)) ≤ cT P n ρ 1 (pos ρ R 1 N) := cT_le (by omega)
    refine ⟨w, i, j + 1, ?_, ?_, ?_, ?_⟩
    · exact ⟨q1, b2, b3, by rw [hu]; exact b4⟩
    · exact ⟨ag_e e.sy (by decide) g1, g2, fun k hk => by
        by_cases q : k = j
        · rw [q, tc_ag a1]; exact ht
        · exact a3 k (by omega), by omega⟩
    · intro c z1 z2
      rw [e c z2, cells_o hG hS (by decide) hr ht z1 z2]
      exact c1 c z1 z2
    · rw [hu]; omega
  | true =>
    have hle := pos_le (t := 1) hG hk hS (by decide)
    have hf : fkT P 1 (KW P nc w).2.1 25 0 = j := fkT_is 25 0 (Nat.zero_le _) (by omega) (fun h _ z => a3 h z) (by rw [tc_ag a1]; exact ht)
    have d1 : ag 1 N (setc (it P 1 j (KW P nc w).2.1) (KW P nc w).2.2) := ⟨fun h hh => by
      show N h = if 48 ≤ h ∧ h < 56 then _ else _
      rw [if_neg (by omega)]; exact a1.1 h hh, fun l hl => by
      have e1 : setc (it P 1 j (KW P nc w).2.1) (KW P nc w).2.2 (40 + l) = it P 1 j (KW P nc w).2.1 (40 + l) := if_neg (by omega)
      have e2 : setc (it P 1 j (KW P nc w).2.1) (KW P nc w).2.2 (44 + l) = it P 1 j (KW P nc w).2.1 (44 + l) := if_neg (by omega)
      rw [e1, e2]; exact a1.2 l hl⟩
    have d2 : own 1 (setc (it P 1 j (KW P nc w).2.1) (KW P nc w).2.2) := fun l hl => by
      have e1 : setc (it P 1 j (KW P nc w).2.1) (KW P nc w).2.2 (40 + l) = it P 1 j (KW P nc w).2.1 (40 + l) := if_neg (by omega)
      have e2 : setc (it P 1 j (KW P nc w).2.1) (KW P nc w).2.2 (44 + l) = it P 1 j (KW P nc w).2.1 (44 + l) := if_neg (by omega)
      rw [e1, e2]; exact a2 l hl
    obtain ⟨g1, g2, g3⟩ := ag_tc hG hS (by decide) hr d1 d2 ht (fun h z1 z2 => by
      rw [c1 h z1 z2]
      exact (if_pos ⟨z1, z2⟩).symm)
    have hT : cT P n ρ 1 (pos ρ R 1 (sp P 1 N)) + 1 ≤ cT P n ρ 1 (pos ρ R 1 N) := by
      rw [p0]
      rw [p0] at hp
      refine cT_lt hi h8 ?_ hp.1
      unfold tc at ht
      obtain ⟨z1, z2⟩ := (Bool.and_eq_true _ _).mp ht
      exact ⟨of_decide_eq_true z1, of_decide_eq_true z2⟩
    have eK : KW P nc (true :: w) = ((KW P nc w).1, st0 P 1 (setc (it P 1 (fkT P 1 (KW P nc w).2.1 25 0) (KW P nc w).2.1) (KW P nc w).2.2), st0 P 1 (setc (it P 1 (fkT P 1 (KW P nc w).2.1 25 0) (KW P nc w).2.1) (KW P nc w).2.2)) := rfl
    refine ⟨true :: w, i, 0, ?_, ?_, ?_, ?_⟩
    · rw [eK]
      exact ⟨q1, b2, b3, by rw [hu]; exact b4⟩
    · rw [eK, hf]
      exact ⟨ag_e e.sy (by decide) g1, g2, fun k hk => absurd hk (Nat.not_lt_zero k), Nat.zero_le _⟩
    · intro c z1 z2
      rw [eK, hf, e c z2]
      exact g3 c z1 z2
    · rw [hu, List.length_cons]; omega
theorem cod_1 : ∀ w : List Bool, 1 ≤ cod w := by
  intro w
  induction w with
  | nil => exact Nat.le_refl 1
  | cons b w ih =>
    cases b
    · show 1 ≤ 2 * cod w; omega
    · show 1 ≤ 2 * cod w + 1; omega
theorem cod_lt : ∀ w : List Bool, cod w < 2 ^ (w.length + 1) := by
  intro w
  induction w with
  | nil => decide
  | cons b w ih =>
    rw [List.length_cons, Nat.pow_succ]
    cases b
    · show 2 * cod w < _; omega
    · show 2 * cod w + 1 < _; omega
theorem cod_inj : ∀ w w' : List Bool, cod w = cod w' → w = w' := by
  intro w
  induction w with
  | nil =>
    intro w' h
    cases w' with
    | nil => rfl
    | cons b w' =>
      exfalso
      have := cod_1 w'
      cases b
      · have h : 1 = 2 * cod w' := h; omega
      · have h : 1 = 2 * cod w' + 1 := h; omega
  | cons b w ih =>
    intro w' h
    cases w' with
    | nil =>
      exfalso
      have := cod_1 w
      cases b
      · have h : 2 * cod w = 1 := h; omega
      · have h : 2 * cod w + 1 = 1 := h; omega
    | cons b' w' =>
      cases b
      · cases b'
        · have h : 2 * cod w = 2 * cod w' := h
          rw [ih w' (by omega)]
        · have h : 2 * cod w = 2 * cod w' + 1 := h; omega
      · cases b'
        · have h : 2 * cod w + 1 = 2 * cod w' := h; omega
        · have h : 2 * cod w + 1 = 2 * cod w' + 1 := h
          rw [ih w' (by omega)]
/-- one key, one state -/
theorem JJ_one (hP : PV P nc nl 2 n) (hS : SV P 0 nc nl 2 n N) (hM : SV P 0 nc nl 2 n M) (h : JJ P nc n ρ R w i j N) (g : JJ P nc n ρ R w i j M) : eqS N M := by
  refine e56_S hS hM (fun a ha => ?_)
  obtain ⟨⟨a1, -⟩, ⟨b1, -⟩, c1, -⟩ := h
  obtain ⟨⟨a2, -⟩, ⟨b2, -⟩, c2, -⟩ := g
  by_cases p0 : pv 0 a
  · exact (a1.1 a p0).trans (a2.1 a p0).symm
  by_cases p1 : pv 1 a
  · exact (b1.1 a p1).trans (b2.1 a p1).symm
  by_cases pc : 48 ≤ a
  · exact (c1 a pc ha).trans (c2 a pc ha).symm
  have L : ∀ l, l < 4 → N (40 + l) = M (40 + l) ∧ N (44 + l) = M (44 + l) := by
    intro l hl
    have x1 := a1.2 l hl
    have x2 := a2.2 l hl
    have y1 := b1.2 l hl
    have y2 := b2.2 l hl
    have key : ∀ (A B : fI), SV P 0 nc nl 2 n A → SV P 0 nc nl 2 n B → ((A (40 + l) = nI 0 ↔ B (40 + l) = nI 0) ∧ (A (40 + l) = nI 0 → A (44 + l) = B (44 + l))) → ((A (40 + l) = nI 1 ↔ B (40 + l) = nI 1) ∧ (A (40 + l) = nI 1 → A (44 + l) = B (44 + l))) → A (40 + l) = B (40 + l) ∧ A (44 + l) = B (44 + l) := by
      intro A B hA hB q0 q1
      rcases sv_lk hA hl with z | ⟨u, hu, z⟩
      · rcases sv_lk hB hl with z' | ⟨u, hu, z'⟩
        · exact ⟨z.1.trans z'.1.symm, z.2.trans z'.2.symm⟩
        · exfalso
          have : u = 0 ∨ u = 1 := by omega
          rcases this with rfl | rfl
          · exact nI_m1 (t := 0) (by decide) (z.1.symm.trans (q0.1.mpr z'))
          · exact nI_m1 (t := 1) (by decide) (z.1.symm.trans (q1.1.mpr z'))
      · have : u = 0 ∨ u = 1 := by omega
        rcases this with rfl | rfl
        · exact ⟨z.trans (q0.1.mp z).symm, q0.2 z⟩
        · exact ⟨z.trans (q1.1.mp z).symm, q1.2 z⟩
    exact key N M hS hM ⟨x1.1.trans x2.1.symm, fun z => (x1.2 z).trans (x2.2 (x2.1.mpr (x1.1.mp z))).symm⟩ ⟨y1.1.trans y2.1.symm, fun z => (y1.2 z).trans (y2.2 (y2.1.mpr (y1.1.mp z))).symm⟩
  by_cases pl : 40 ≤ a
  · by_cases pl2 : a < 44
    · have := (L (a - 40) (by omega)).1
      rw [show 40 + (a - 40) = a by omega] at this
      exact this
    · have := (L (a - 44) (by omega)).2
      rw [show 44 + (a - 44) = a by omega] at this
      exact this
  by_cases p16 : a < 16
  · have q : ∀ (A : fI), SV P 0 nc nl 2 n A → A a = if 4 ≤ a ∧ a < 8 then -1 else 0 := by
      intro A hA
      obtain ⟨t1, t2, t3, t4⟩ := hA.1.2 (a % 4) (by omega) (by omega)
      have : a = a % 4 ∨ a = 4 + a % 4 ∨ a = 8 + a % 4 ∨ a = 12 + a % 4 := by omega
      rcases this with z | z | z | z
      · rw [if_neg (by omega), z]; exact t1
      · rw [if_pos (by omega), z]; exact t2
      · rw [if_neg (by omega), z]; exact t3
      · rw [if_neg (by omega), z]; exact t4
    rw [q N hS, q M hM]
  · have q : ∀ (A : fI), SV P 0 nc nl 2 n A → A a = 0 := by
      intro A hA
      rcases hA.2.1 ((a - 16) / 6) ((a - 16) % 6) (by omega) (by omega) with ⟨z, -⟩ | ⟨-, z⟩
      · omega
      · rw [show 16 + (a - 16) / 6 * 6 + (a - 16) % 6 = a by omega] at z; exact z
    rw [q N hS, q M hM]
theorem JJ_pth (hG : GP P nc nl n) (hk : RK P n ρ R) (hR : R ≤ 24) : ∀ (l : List Nat) (N : fI), SV P 0 nc nl 2 n N → (∃ w i j, JJ P nc n ρ R w i j N) → vp P l N → ∃ w i j, JJ P nc n ρ R w i j (pth P l N) := by
  intro l
  induction l with
  | nil => intro N _ h _; rw [pth_n]; exact h
  | cons t l ih =>
    intro N hS h hv
    rw [pth_c]
    refine ih _ (sp_w hG hS hv.1 hv.2.1) ?_ hv.2.2
    obtain ⟨w, i, j, hJ⟩ := h
    have hr := hv.2.1
    have : t = 0 ∨ t = 1 := by have := hv.1; omega
    rcases this with rfl | rfl
    · exact JJ_0 hG hk hR hS hr hJ
    · exact JJ_1 hG hk hR hS hr hJ
theorem JJ_f (hG : GP P nc nl n) (hT : cT P n ρ 0 0 + cT P n ρ 1 0 ≤ 4) : JJ P nc n ρ R [] 0 0 (f00 P nc) := by
  have hc8 := hG.1.1.2
  have o : ∀ t, own t (f00 P nc) := by
    intro t l hl
    right
    constructor
    · show fst0 P 0 nc 2 (fun _ => 0) (40 + l) = -1
      rw [f0_at hc8, if_neg (by omega), if_neg (by omega), if_pos (by omega)]
    · exact f0_z hc8 (44 + l) (by omega) (by omega) (by omega) (by omega) (by omega) (by omega) (by omega)
  have c0 := @cT_le P n 0 0 (pos ρ R 0 (f00 P nc)) ρ (Nat.zero_le _)
  have c1 := @cT_le P n 1 0 (pos ρ R 1 (f00 P nc)) ρ (Nat.zero_le _)
  exact ⟨⟨⟨fun _ _ => rfl, fun _ _ => ⟨Iff.rfl, fun _ => rfl⟩⟩, o 0, fun k hk => absurd hk (Nat.not_lt_zero k), Nat.zero_le _⟩, ⟨⟨fun _ _ => rfl, fun _ _ => ⟨Iff.rfl, fun _ => rfl⟩⟩, o 1, fun k hk => absurd hk (Nat.not_lt_zero k), Nat.zero_le _⟩, fun _ _ _ => rfl, by show 0 + _ ≤ 4; omega⟩
/-- states are at most 20,000 -/
theorem HB_key (hG : GP P nc nl n) (hk : RK P n ρ R) (hR : R ≤ 24) (hT : cT P n ρ 0 0 + cT P n ρ 1 0 ≤ 4) : HB P nc nl n := by
  intro S m hS hu
  have hJ : ∀ x, x < m → SV P 0 nc nl 2 n (S x) ∧ ∃ w i j, JJ P nc n ρ R w i j (S x) := by
    intro x hx
    obtain ⟨l, l1, l2⟩ := hS x hx
    have hSl := vp_w hG l _ (f00_w hG) l1
    obtain ⟨w, i, j, h⟩ := JJ_pth hG hk hR l _ (f00_w hG) ⟨[], 0, 0, JJ_f hG hT⟩ l1
    exact ⟨SV_eqS hG.1 l2.sy hSl, w, i, j, JJ_e (eqS_e l2) h⟩
  refine pigR (r := fun x y => ∃ w i j, JJ P nc n ρ R w i j (S x) ∧ y = (cod w * 25 + i) * 25 + j) m 20000 (fun x hx => ?_) (fun x x' y hx hx' a b => ?_)
  · obtain ⟨hSx, w, i, j, h⟩ := hJ x hx
    refine ⟨(cod w * 25 + i) * 25 + j, ?_, w, i, j, h, rfl⟩
    have b1 := pos_le (t := 0) hG hk hSx (by decide)
    have b2 := pos_le (t := 1) hG hk hSx (by decide)
    have a4 := h.1.2.2.2
    have b4 := h.2.1.2.2.2
    have hw := h.2.2.2
    have hc := cod_lt w
    have : 2 ^ (w.length + 1) ≤ 2 ^ 5 := Nat.pow_le_pow_right (by decide) (by omega)
    omega
  · obtain ⟨w, i, j, h, e⟩ := a
    obtain ⟨w', i', j', h', e'⟩ := b
    have b1 := pos_le (t := 0) hG hk (hJ x hx).1 (by decide)
    have b2 := pos_le (t := 1) hG hk (hJ x hx).1 (by decide)
    have b1' := pos_le (t := 0) hG hk (hJ x' hx').1 (by decide)
    have b2' := pos_le (t := 1) hG hk (hJ x' hx').1 (by decide)
    have a4 := h.1.2.2.2
    have b4 := h.2.1.2.2.2
    have a4' := h'.1.2.2.2
    have b4' := h'.2.1.2.2.2
    obtain rfl : j = j' := by omega
    obtain rfl : i = i' := by omega
    have ec : cod w = cod w' := by omega
    obtain rfl := cod_inj w w' ec
    exact hu x x' hx hx' (JJ_one hG.1 (hJ x hx).1 (hJ x' hx').1 h h')
end KEY
