/-! TWO THREADS, ONE MEMORY: where states are not too many, all turns can be told. -/
/-- states that are come to, all unlike, are at most 20,000 -/
abbrev HB (P : Nat → fI) (nc nl n : Nat) : Prop := ∀ (S : Nat → fI) (m : Nat), (∀ i, i < m → ∃ l, vp P l (f00 P nc) ∧ eqS (pth P l (f00 P nc)) (S i)) → unl S m → m ≤ 20000
abbrev RX (P : Nat → fI) (nc : Nat) (x : xT) : Prop := ∀ i, i < xN x → ∃ l, vp P l (f00 P nc) ∧ eqS (pth P l (f00 P nc)) (xS x i)
section FUL
variable {P : Nat → fI} {nc nl n t u i j k o m R a : Nat} {N M : fI} {l l' : List Nat} {X x y z : xT} {fw : Bool} {oo : Option Nat}
theorem RX_new (hG : GP P nc nl n) (hX : XV P 0 nc nl 2 n x) (hR : RX P nc x) (hk : k < xN x) (ha : a ∈ rdl P 0 (xS x k) 2 2) : ∃ l, vp P l (f00 P nc) ∧ eqS (pth P l (f00 P nc)) (stp P 0 (xS x k) (a / 10) (a % 10) 2) := by
  obtain ⟨l, l1, l2⟩ := hR k hk
  obtain ⟨t, t2, -, e1, e2, t3⟩ := a_t ((rdl_0 hG (hX.2.1 k hk) _).mp ha)
  rw [e1, e2]
  have hSl := vp_w hG l _ (f00_w hG) l1
  obtain ⟨c1, c2⟩ := sp_cg hG (hX.2.1 k hk) hSl l2.sy t2 t3
  refine ⟨l ++ [t], (vp_app l [t] _).mpr ⟨l1, t2, c1, trivial⟩, ?_⟩
  rw [pth_app, pth_c, pth_n]
  exact c2.sy
theorem tryS_ok (hG : GP P nc nl n) (hH : HB P nc nl n) (hX : XV P 0 nc nl 2 n x) (hR : RX P nc x) (hk : k < xN x) (ha : a ∈ rdl P 0 (xS x k) 2 2) (hM : xM x < 200000) : ∃ y, tryS P 0 nl 2 (limS 0) k x a = some y ∧ RX P nc y := by
  have hn := RX_new hG hX hR hk ha
  unfold tryS
  rw [if_neg (by omega)]
  cases e : fndS (xS x) (stp P 0 (xS x k) (a / 10) (a % 10) 2) (xN x) 0 with
  | some i => exact ⟨_, rfl, hR⟩
  | none =>
    dsimp only
    have hno := fnd_none _ _ e
    have old : ∀ i, i < xN x → at1 (xS x) (xN x) (stp P 0 (xS x k) (a / 10) (a % 10) 2) i = xS x i := fun i hi => at1_n (by omega)
    have rx : ∀ i, i < xN x + 1 → ∃ l, vp P l (f00 P nc) ∧ eqS (pth P l (f00 P nc)) (at1 (xS x) (xN x) (stp P 0 (xS x k) (a / 10) (a % 10) 2) i) := by
      intro i hi
      by_cases q : i = xN x
      · rw [q, at1_s]; exact hn
      · rw [old i (by omega)]; exact hR i (by omega)
    have hb : xN x + 1 ≤ 20000 := by
      refine hH (at1 (xS x) (xN x) (stp P 0 (xS x k) (a / 10) (a % 10) 2)) (xN x + 1) rx (fun i j hi hj hij => ?_)
      by_cases qi : i = xN x
      · by_cases qj : j = xN x
        · omega
        · rw [qi, at1_s, old j (by omega)] at hij
          exact absurd hij.sy (hno j (Nat.zero_le _) (by omega))
      · by_cases qj : j = xN x
        · rw [qj, at1_s, old i (by omega)] at hij
          exact absurd hij (hno i (Nat.zero_le _) (by omega))
        · rw [old i (by omega), old j (by omega)] at hij
          exact hX.2.2.1 i j (by omega) (by omega) hij
    have e0 : limS 0 = 20000 := rfl
    rw [e0, if_neg (by omega)]
    exact ⟨_, rfl, rx⟩
theorem tryL_ok (hG : GP P nc nl n) (hH : HB P nc nl n) : ∀ (L : List Nat) (x : xT), XV P 0 nc nl 2 n x → RX P nc x → k < xN x → (∀ a ∈ L, a ∈ rdl P 0 (xS x k) 2 2) → xM x + L.length ≤ 200000 → ∃ y, tryL P 0 nl 2 (limS 0) k oo L x = some y ∧ RX P nc y ∧ xM y ≤ xM x + L.length := by
  intro L
  induction L with
  | nil => intro x _ hR _ _ _; exact ⟨x, rfl, hR, Nat.le_refl _⟩
  | cons b L ih =>
    intro x hX hR hk hL hM
    rw [List.length_cons] at hM ⊢
    have e0 : tryL P 0 nl 2 (limS 0) k oo (b :: L) x = if oo = none ∨ oo = some b then (match tryS P 0 nl 2 (limS 0) k x b with
      | none => none
      | some y => tryL P 0 nl 2 (limS 0) k oo L y) else tryL P 0 nl 2 (limS 0) k oo L x := rfl
    rw [e0]
    by_cases q : oo = none ∨ oo = some b
    · rw [if_pos q]
      obtain ⟨z, z1, z2⟩ := tryS_ok hG hH hX hR hk (hL b List.mem_cons_self) (by omega)
      rw [z1]
      dsimp only
      obtain ⟨b1, b2, b3, b4, -⟩ := XV_try hG.1 (by decide) hX hk (hL b List.mem_cons_self) rfl z1
      obtain ⟨y, y1, y2, y3⟩ := ih z b1 z2 (by omega) (fun a' ha' => by rw [(b3 k hk).1]; exact hL a' (List.mem_cons_of_mem _ ha')) (by omega)
      exact ⟨y, y1, y2, by omega⟩
    · rw [if_neg q]
      obtain ⟨y, y1, y2, y3⟩ := ih x hX hR hk (fun a' ha' => hL a' (List.mem_cons_of_mem _ ha')) (by omega)
      exact ⟨y, y1, y2, by omega⟩
theorem exK_ok (hG : GP P nc nl n) (hH : HB P nc nl n) : ∀ (m k : Nat) (x : xT), XV P 0 nc nl 2 n x → RX P nc x → xM x ≤ 2 * k → m + k = 20000 → ∃ y, exK P 0 nl 2 (limS 0) fw m k x = some y := by
  intro m
  induction m with
  | zero => intro k x _ _ _ _; exact ⟨x, rfl⟩
  | succ m ih =>
    intro k x hX hR hM hmk
    have e : exK P 0 nl 2 (limS 0) fw (m + 1) k x = if k < xN x then (match runK P 0 nl 2 (limS 0) fw x k with
      | none => none
      | some y => exK P 0 nl 2 (limS 0) fw m (k + 1) y) else some x := rfl
    rw [e]
    by_cases q : k < xN x
    · rw [if_pos q]
      have hl := rdl_le2 hG (hX.2.1 k q)
      have hM' : xM (begK x k) + (rdl P 0 (xS x k) 2 2).length ≤ 200000 := by show xM x + _ ≤ _; omega
      obtain ⟨z, z1, z2, z3⟩ := tryL_ok (k := k) (oo := onlS P 2 fw x k) hG hH (rdl P 0 (xS x k) 2 2) (begK x k) (XV_beg hX) hR q (fun a ha => ha) hM'
      have z3 : xM z ≤ xM x + (rdl P 0 (xS x k) 2 2).length := z3
      have hr : runK P 0 nl 2 (limS 0) fw x k = some z := z1
      rw [hr]
      dsimp only
      obtain ⟨w1, -⟩ := XV_L (lim := limS 0) (o := onlS P 2 fw x k) hG.1 (by decide) rfl (rdl P 0 (xS x k) 2 2) (begK x k) z (XV_beg hX) q (fun a ha => ha) hr
      exact ih (k + 1) z w1 z2 (by omega) (by omega)
    · rw [if_neg q]
      exact ⟨x, rfl⟩
theorem expl_ok (hG : GP P nc nl n) (hH : HB P nc nl n) : ∃ X, expl P 0 nc nl 2 fw = some X := by
  obtain ⟨z, hz⟩ := exK_ok (fw := fw) hG hH 20000 0 (beg0 (f00 P nc)) (XV_0 hG.1 (by decide) hG.2.2.2.2) (fun i hi => ⟨[], trivial, by rw [pth_n]; exact eqS.rf⟩) (Nat.zero_le _) rfl
  refine ⟨begK z (xN z), ?_⟩
  have e : expl P 0 nc nl 2 fw = match exK P 0 nl 2 (limS 0) fw 20000 0 (beg0 (f00 P nc)) with
    | none => none
    | some x => some (begK x (xN x)) := rfl
  rw [e, hz]
/-- where all turns were told, fewer can be told -/
theorem HB_of (hG : GP P nc nl n) (h : expl P 0 nc nl 2 false = some X) : HB P nc nl n := by
  intro S m hS hu
  obtain ⟨-, hX⟩ := GP.CL hG h
  have : m ≤ xN X := by
    refine pigR (r := fun i j => eqS (xS X j) (S i)) _ _ (fun i hi => ?_) (fun i i' j hi hi' a b => hu i i' hi hi' (eqS.tr a.sy b))
    obtain ⟨l, l1, l2⟩ := hS i hi
    obtain ⟨s, s1, s2⟩ := z_all hG h l1
    exact ⟨s, s1, eqS.tr s2 l2⟩
  have h2 : xN X ≤ 20000 := hX.1.2
  omega
end FUL
