/-! ALL TURNS: steps of states that are one are one; what holds of all states found. -/
section CG
variable {t i n w a c l u ch nc nl nt k o j vv : Nat} {v x z : Int32} {N M : fI} {P : Nat → fI} {σ : qS}
theorem eqS.rf : eqS N N := fun _ _ => rfl
theorem eqS.sy (h : eqS N M) : eqS M N := fun j hj => (h j hj).symm
theorem eqS.tr {K : fI} (h : eqS N M) (g : eqS M K) : eqS N K := fun j hj => (h j hj).trans (g j hj)
theorem soF_cg : ∀ (k t : Nat) (all : Bool), (∀ u, u < t + k → N u = M u) → soF N k t all = soF M k t all := by
  intro k
  induction k with
  | zero => intro t all _; rfl
  | succ k ih =>
    intro t all e
    unfold soF
    rw [e t (by omega), ih (t + 1) _ (fun u hu => e u (by omega))]
theorem cg_soS (h : eqS N M) (hnt : nt ≤ 4) : soS N nt = soS M nt := soF_cg nt 0 true fun u hu => h u (by omega)
theorem rdl_rdS (hP : PV P nc nl nt n) (hS : SV P w nc nl nt n N) (h : a ∈ rdl P w N nt nt) : rdS P w N (a / 10) (a % 10) nt ∧ a % 10 < 10 := by
  have h10 : a % 10 < 10 := Nat.mod_lt _ (by decide)
  have e : 10 * (a / 10) + a % 10 = a := Nat.div_add_mod a 10
  have := (rdl_mem hP hS nt (Nat.le_refl _) (a / 10) (a % 10) h10).mp (by rw [e]; exact h)
  exact ⟨this.2, h10⟩
/-- searches among states -/
theorem fnd_some {S : Nat → fI} : ∀ (m i : Nat), fndS S N m i = some k → i ≤ k ∧ k < i + m ∧ eqS (S k) N ∧ ∀ j, i ≤ j → j < k → ¬ eqS (S j) N := by
  intro m
  induction m with
  | zero => intro i h; cases h
  | succ m ih =>
    intro i h
    unfold fndS at h
    by_cases q : eqS (S i) N
    · rw [if_pos q] at h
      cases h
      exact ⟨Nat.le_refl _, by omega, q, fun j h1 h2 => by omega⟩
    · rw [if_neg q] at h
      obtain ⟨a1, a2, a3, a4⟩ := ih (i + 1) h
      refine ⟨by omega, by omega, a3, fun j h1 h2 => ?_⟩
      by_cases z : j = i
      · rw [z]; exact q
      · exact a4 j (by omega) h2
theorem fnd_none {S : Nat → fI} : ∀ (m i : Nat), fndS S N m i = none → ∀ j, i ≤ j → j < i + m → ¬ eqS (S j) N := by
  intro m
  induction m with
  | zero => intro i _ j h1 h2; omega
  | succ m ih =>
    intro i h j h1 h2
    unfold fndS at h
    by_cases q : eqS (S i) N
    · rw [if_pos q] at h; cases h
    · rw [if_neg q] at h
      by_cases z : j = i
      · rw [z]; exact q
      · exact ih (i + 1) h j (by omega) (by omega)
/-- states found are all unlike -/
abbrev unl (S : Nat → fI) (m : Nat) : Prop := ∀ i j, i < m → j < m → eqS (S i) (S j) → i = j
theorem fnd_of {S : Nat → fI} {m : Nat} (hu : unl S m) (hk : k < m) (h : eqS (S k) N) : fndS S N m 0 = some k := by
  cases e : fndS S N m 0 with
  | none => exact absurd h (fnd_none m 0 e k (Nat.zero_le _) (by omega))
  | some i =>
    obtain ⟨-, a2, a3, -⟩ := fnd_some m 0 e
    rw [hu i k (by omega) hk (a3.tr h.sy)]
theorem fnd_no {S : Nat → fI} {m : Nat} (h : ∀ i, i < m → ¬ eqS (S i) N) : fndS S N m 0 = none := by
  cases e : fndS S N m 0 with
  | none => rfl
  | some i =>
    obtain ⟨-, a2, a3, -⟩ := fnd_some m 0 e
    exact absurd a3 (h i (by omega))
/-- what holds of an exploration -/
abbrev XV (P : Nat → fI) (w nc nl nt n : Nat) (x : xT) : Prop := (1 ≤ xN x ∧ xN x ≤ limS w) ∧ (∀ i, i < xN x → SV P w nc nl nt n (xS x i)) ∧ unl (xS x) (xN x) ∧ xM x ≤ 200000 ∧ (∀ e, e < xM x → (xE x e).1 < xN x ∧ (xE x e).2 < 40) ∧ (∀ i, 1 ≤ i → i < xN x → (xF x i).1 < i ∧ (xF x i).2 < 40 ∧ eqS (xS x i) (stp P w (xS x (xF x i).1) ((xF x i).2 / 10) ((xF x i).2 % 10) nt) ∧ (xF x i).2 ∈ rdl P w (xS x (xF x i).1) nt nt)
theorem lim_le : limS w ≤ 20000 := by unfold limS; split <;> omega
theorem rdl_lt (hP : PV P nc nl nt n) (hS : SV P w nc nl nt n N) (h : a ∈ rdl P w N nt nt) : a < 40 := by
  have := (rdl_rdS hP hS h).1.1
  have ht4 := hP.2.2.1.2
  omega
theorem XV_0 (hP : PV P nc nl nt n) (hw2 : w ≤ 2) (hin : ∀ c, c < nc → inR (P 4 c)) : XV P w nc nl nt n (beg0 (fst0 P w nc nt (fun _ => 0))) := by
  refine ⟨⟨Nat.le_refl 1, ?_⟩, fun i _ => f0_SV hP hw2 hin, fun i j hi hj _ => ?_, Nat.zero_le _, fun e he => absurd he (Nat.not_lt_zero e), fun i h1 h2 => ?_⟩
  · show 1 ≤ limS w
    unfold limS; split <;> omega
  · have hi : i < 1 := hi
    have hj : j < 1 := hj
    omega
  · have h2 : i < 1 := h2
    omega
theorem XV_try {lim : Nat} {y x : xT} (hP : PV P nc nl nt n) (hw2 : w ≤ 2) (hX : XV P w nc nl nt n x) (hk : k < xN x) (ha : a ∈ rdl P w (xS x k) nt nt) (hl : lim = limS w) (h : tryS P w nl nt lim k x a = some y) : XV P w nc nl nt n y ∧ xN x ≤ xN y ∧ (∀ i, i < xN x → xS y i = xS x i ∧ xF y i = xF x i ∧ xWh y i = xWh x i) ∧ xM y = xM x + 1 ∧ (∀ e, e < xM x → xE y e = xE x e) ∧ xA y = xA x := by
  obtain ⟨⟨h0, h1⟩, h2, h3, h4, h5, h6⟩ := hX
  obtain ⟨hr, h10⟩ := rdl_rdS hP (h2 k hk) ha
  have a40 := rdl_lt hP (h2 k hk) ha
  unfold tryS at h
  by_cases q : 200000 ≤ xM x
  · rw [if_pos q] at h; cases h
  rw [if_neg q] at h
  have hnew := SV_stp hP (h2 k hk) hw2 hr h10
  cases e : fndS (xS x) (stp P w (xS x k) (a / 10) (a % 10) nt) (xN x) 0 with
  | some i =>
    rw [e] at h
    cases h
    obtain ⟨-, b2, b3, -⟩ := fnd_some _ _ e
    refine ⟨⟨⟨h0, h1⟩, h2, h3, by show xM x + 1 ≤ _; omega, fun e' he => ?_, h6⟩, Nat.le_refl _, fun i _ => ⟨rfl, rfl, rfl⟩, rfl, fun e' he => at1_n (by omega), rfl⟩
    have he : e' < xM x + 1 := he
    show (at1 (xE x) (xM x) (i, a) e').1 < xN x ∧ (at1 (xE x) (xM x) (i, a) e').2 < 40
    by_cases z : e' = xM x
    · rw [z, at1_s]; exact ⟨by omega, a40⟩
    · rw [at1_n z]; exact h5 e' (by omega)
  | none =>
    rw [e] at h
    dsimp only at h
    by_cases q2 : lim ≤ xN x
    · rw [if_pos q2] at h; cases h
    rw [if_neg q2] at h
    cases h
    have hno := fnd_none _ _ e
    have S1 : ∀ i, i < xN x → at1 (xS x) (xN x) (stp P w (xS x k) (a / 10) (a % 10) nt) i = xS x i := fun i hi => at1_n (by omega)
    refine ⟨⟨⟨by show 1 ≤ xN x + 1; omega, by show xN x + 1 ≤ _; omega⟩, fun i hi => ?_, fun i j hi hj hij => ?_, by show xM x + 1 ≤ _; omega, fun e' he => ?_, fun i hi1 hi => ?_⟩, Nat.le_succ _, fun i hi => ⟨S1 i hi, at1_n (by omega), at1_n (by omega)⟩, rfl, fun e' he => at1_n (by omega), rfl⟩
    · have hi : i < xN x + 1 := hi
      show SV P w nc nl nt n (at1 (xS x) (xN x) _ i)
      by_cases z : i = xN x
      · rw [z, at1_s]; exact hnew
      · rw [at1_n z]; exact h2 i (by omega)
    · have hi : i < xN x + 1 := hi
      have hj : j < xN x + 1 := hj
      have hij : eqS (at1 (xS x) (xN x) (stp P w (xS x k) (a / 10) (a % 10) nt) i) (at1 (xS x) (xN x) (stp P w (xS x k) (a / 10) (a % 10) nt) j) := hij
      by_cases z : i = xN x
      · by_cases y : j = xN x
        · omega
        · rw [z, at1_s, at1_n y] at hij
          exact absurd hij.sy (hno j (Nat.zero_le _) (by omega))
      · by_cases y : j = xN x
        · rw [y, at1_s, at1_n z] at hij
          exact absurd hij (hno i (Nat.zero_le _) (by omega))
        · rw [at1_n z, at1_n y] at hij
          exact h3 i j (by omega) (by omega) hij
    · have he : e' < xM x + 1 := he
      show (at1 (xE x) (xM x) (xN x, a) e').1 < xN x + 1 ∧ (at1 (xE x) (xM x) (xN x, a) e').2 < 40
      by_cases z : e' = xM x
      · rw [z, at1_s]; exact ⟨Nat.lt_succ_self _, a40⟩
      · rw [at1_n z]
        have := h5 e' (by omega)
        exact ⟨by omega, this.2⟩
    · have hi : i < xN x + 1 := hi
      show (at1 (xF x) (xN x) (k, a) i).1 < i ∧ (at1 (xF x) (xN x) (k, a) i).2 < 40 ∧ eqS (at1 (xS x) (xN x) _ i) (stp P w (at1 (xS x) (xN x) _ (at1 (xF x) (xN x) (k, a) i).1) ((at1 (xF x) (xN x) (k, a) i).2 / 10) ((at1 (xF x) (xN x) (k, a) i).2 % 10) nt) ∧ (at1 (xF x) (xN x) (k, a) i).2 ∈ rdl P w (at1 (xS x) (xN x) _ (at1 (xF x) (xN x) (k, a) i).1) nt nt
      by_cases z : i = xN x
      · rw [z, at1_s, at1_s, S1 k hk]
        exact ⟨hk, a40, eqS.rf, ha⟩
      · have b := h6 i hi1 (by omega)
        rw [at1_n z, at1_n z, S1 _ (by omega)]
        exact b
theorem XV_L {lim : Nat} {o : Option Nat} (hP : PV P nc nl nt n) (hw2 : w ≤ 2) (hl : lim = limS w) : ∀ (L : List Nat) (x y : xT), XV P w nc nl nt n x → k < xN x → (∀ a ∈ L, a ∈ rdl P w (xS x k) nt nt) → tryL P w nl nt lim k o L x = some y → XV P w nc nl nt n y ∧ xN x ≤ xN y ∧ (∀ i, i < xN x → xS y i = xS x i ∧ xF y i = xF x i ∧ xWh y i = xWh x i) ∧ xM x ≤ xM y ∧ (∀ e, e < xM x → xE y e = xE x e) ∧ xA y = xA x := by
  intro L
  induction L with
  | nil => intro x y hX hk _ h; cases h; exact ⟨hX, Nat.le_refl _, fun _ _ => ⟨rfl, rfl, rfl⟩, Nat.le_refl _, fun _ _ => rfl, rfl⟩
  | cons a L ih =>
    intro x y hX hk hL h
    unfold tryL at h
    by_cases q : o = none ∨ o = some a
    · rw [if_pos q] at h
      cases e : tryS P w nl nt lim k x a with
      | none => rw [e] at h; cases h
      | some z =>
        rw [e] at h
        obtain ⟨b1, b2, b3, b4, b5, b6⟩ := XV_try hP hw2 hX hk (hL a (List.mem_cons_self ..)) hl e
        obtain ⟨c1, c2, c3, c4, c5, c6⟩ := ih z y b1 (by omega) (fun a' ha' => by rw [(b3 k hk).1]; exact hL a' (List.mem_cons_of_mem _ ha')) h
        exact ⟨c1, by omega, fun i hi => by
          obtain ⟨d1, d2, d3⟩ := c3 i (by omega)
          obtain ⟨f1, f2, f3⟩ := b3 i hi
          exact ⟨d1.trans f1, d2.trans f2, d3.trans f3⟩, by omega, fun e' he => (c5 e' (by omega)).trans (b5 e' he), c6.trans b6⟩
    · rw [if_neg q] at h
      exact ih x y hX hk (fun a' ha' => hL a' (List.mem_cons_of_mem _ ha')) h
end CG

