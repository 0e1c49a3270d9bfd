/-! TWO THREADS, ONE MEMORY: the chances of all outcomes are all runs. -/
section CHS
variable {P : Nat → fI} {nc nl n t u i j k o m R dd : Nat} {N M : fI} {l l' : List Nat} {X : xT} {ρ : Nat → Nat} {f g : Nat → Nat} {one oth : Nat}
/-- a run by an order ends, and is a row of steps -/
theorem rn_end (hG : GP P nc nl n) (hk : RK P n ρ R) : ∀ (u k : Nat) (L : Nat → Nat) (N : fI), PL 2 L → SV P 0 nc nl 2 n N → 2 * R < u + (pos ρ R 0 N + pos ρ R 1 N) → ∃ l, vp P l N ∧ en0 P (pth P l N) ∧ rnF P 2 one oth u k L N = some (pth P l N) := by
  intro u
  induction u with
  | zero =>
    intro k L N _ hS h
    have := pos_le (t := 0) hG hk hS (by decide)
    have := pos_le (t := 1) hG hk hS (by decide)
    omega
  | succ u ih =>
    intro k L N hL hS h
    have e : rnF P 2 one oth (u + 1) k L N = match pkF (fun t => chs P 0 N t 2) L 2 0 with
      | none => some N
      | some r => rnF P 2 one oth u (k + 1) (if k + 1 = one ∨ k + 1 = oth then lowF 2 r L else L) (stp P 0 N (L r) 0 2) := rfl
    rw [e]
    cases hp : pkF (fun t => chs P 0 N t 2) L 2 0 with
    | none =>
      have q := pkF_none 2 0 hp
      have z : ∀ t, t < 2 → ¬ rd0 P t N := by
        intro t ht hr
        obtain ⟨i, hi, rfl⟩ := hL.2.2 t ht
        have := q i (Nat.zero_le _) (by omega)
        rcases chs_0 hG hS ht with ⟨-, e⟩ | ⟨e, -⟩
        · omega
        · exact e hr
      exact ⟨[], trivial, by rw [pth_n]; exact ⟨z 0 (by decide), z 1 (by decide)⟩, by rw [pth_n]⟩
    | some r =>
      obtain ⟨-, q2, q3, -⟩ := pkF_some 2 0 hp
      have ht := hL.1 r (by omega)
      have hr : rd0 P (L r) N := by
        rcases chs_0 hG hS ht with ⟨e, -⟩ | ⟨-, e⟩
        · exact e
        · omega
      have hS' := sp_w hG hS ht hr
      have := pos_sum hG hk hS ht hr
      have hL' : PL 2 (if k + 1 = one ∨ k + 1 = oth then lowF 2 r L else L) := by
        split
        · exact PL_low hL (by omega)
        · exact hL
      obtain ⟨l, l1, l2, l3⟩ := ih (k + 1) _ (sp P (L r) N) hL' hS' (by omega)
      exact ⟨L r :: l, ⟨ht, hr, l1⟩, by rw [pth_c]; exact l2, by rw [pth_c]; exact l3⟩
theorem smN_0 : ∀ n, (∀ o, o < n → f o = 0) → smN f n = 0 := by
  intro n
  induction n with
  | zero => intro _; rfl
  | succ n ih =>
    intro h
    show smN f n + f n = 0
    rw [ih (fun o ho => h o (by omega)), h n (by omega)]
theorem smN_1 : ∀ n o0, o0 < n → f o0 = 1 → (∀ o, o < n → o ≠ o0 → f o = 0) → smN f n = 1 := by
  intro n
  induction n with
  | zero => intro o0 h; omega
  | succ n ih =>
    intro o0 h h1 h0
    show smN f n + f n = 1
    by_cases q : o0 = n
    · subst q
      rw [smN_0 o0 (fun o ho => h0 o (by omega) (by omega)), h1]
    · rw [ih o0 (by omega) h1 (fun o ho => h0 o (by omega)), h0 n (by omega) (by omega)]
theorem smN_sw {F : Nat → Nat → Nat} : ∀ n m, smN (fun o => smN (fun i => F o i) m) n = smN (fun i => smN (fun o => F o i) n) m := by
  intro n
  induction n with
  | zero => intro m; exact (smN_0 m (fun _ _ => rfl)).symm
  | succ n ih =>
    intro m
    show smN (fun o => smN (fun i => F o i) m) n + smN (fun i => F n i) m = smN (fun i => smN (fun o => F o i) n + F n i) m
    rw [ih, smN_add]
theorem smN_k : ∀ n, (∀ o, o < n → f o = k) → smN f n = n * k := by
  intro n
  induction n with
  | zero => intro _; exact (Nat.zero_mul k).symm
  | succ n ih =>
    intro h
    show smN f n + f n = (n + 1) * k
    rw [ih (fun o ho => h o (by omega)), h n (by omega), Nat.succ_mul]
/-- each drawn run hits one outcome -/
theorem hit_sum (hG : GP P nc nl n) (hk : RK P n ρ R) (hR : R ≤ 100) (h : expl P 0 nc nl 2 false = some X) {L : List Nat} (hL : PL 2 (gtL L)) : smN (fun o => hitN P 2 (f00 P nc) (xS X (oK P 0 2 X o)) L one oth) (outL P 0 2 (xS X) (xN X)).length = 1 := by
  obtain ⟨l, l1, l2, l3⟩ := rn_end (one := one) (oth := oth) hG hk 201 0 (gtL L) (f00 P nc) hL (f00_w hG) (by omega)
  obtain ⟨o0, b1, b2⟩ := out_all hG h l1 l2
  refine smN_1 _ o0 b1 (hit_iff.mpr ⟨_, l3, b2⟩) (fun o ho hne => ?_)
  rcases hit_01 (P := P) (nt := 2) (N0 := f00 P nc) (K := xS X (oK P 0 2 X o)) (l := L) (one := one) (oth := oth) with e | e
  · exact e
  · exfalso
    obtain ⟨N', c1, c2⟩ := hit_iff.mp e
    rw [l3] at c1
    cases c1
    exact hne (outL_unl _ o o0 ho b1 (c2.tr b2.sy))
theorem chn_sum (hG : GP P nc nl n) (hk : RK P n ρ R) (hR : R ≤ 100) (h : expl P 0 nc nl 2 false = some X) (hd : dd = 1 ∨ dd = 2) : smN (fun o => chnN P nc 2 X o dd k) (outL P 0 2 (xS X) (xN X)).length = 2 * (if dd = 1 then 1 else k) := by
  have e : ∀ o, chnN P nc 2 X o dd k = smN (fun i => cntC dd k (hitN P 2 (f00 P nc) (xS X (oK P 0 2 X o)) (arrL 2 i))) 2 := fun _ => rfl
  have e1 : smN (fun o => chnN P nc 2 X o dd k) (outL P 0 2 (xS X) (xN X)).length = smN (fun o => smN (fun i => cntC dd k (hitN P 2 (f00 P nc) (xS X (oK P 0 2 X o)) (arrL 2 i))) 2) (outL P 0 2 (xS X) (xN X)).length := smN_cg (fun o _ => e o)
  rw [e1, smN_sw]
  refine smN_k 2 (fun i hi => ?_)
  have hL : PL 2 (gtL (arrL 2 i)) := (okPL_PL (arr_ok 2 (by decide) i hi)).2
  rcases hd with rfl | rfl
  · rw [if_pos rfl]
    have e2 : ∀ o, cntC 1 k (hitN P 2 (f00 P nc) (xS X (oK P 0 2 X o)) (arrL 2 i)) = hitN P 2 (f00 P nc) (xS X (oK P 0 2 X o)) (arrL 2 i) 0 0 := fun _ => if_pos rfl
    rw [smN_cg (fun o _ => e2 o)]
    exact hit_sum hG hk hR h hL
  · rw [if_neg (by decide)]
    have e2 : ∀ o, cntC 2 k (hitN P 2 (f00 P nc) (xS X (oK P 0 2 X o)) (arrL 2 i)) = smN (fun j => hitN P 2 (f00 P nc) (xS X (oK P 0 2 X o)) (arrL 2 i) (j + 1) 0) k := fun _ => (if_neg (by decide)).trans (if_pos rfl)
    rw [smN_cg (fun o _ => e2 o), smN_sw]
    have := smN_k (f := fun j => smN (fun o => hitN P 2 (f00 P nc) (xS X (oK P 0 2 X o)) (arrL 2 i) (j + 1) 0) (outL P 0 2 (xS X) (xN X)).length) (k := 1) k (fun j _ => hit_sum hG hk hR h hL)
    rw [this, Nat.mul_one]
end CHS
