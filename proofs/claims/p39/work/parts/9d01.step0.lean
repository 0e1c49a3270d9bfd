/-! ONE MEMORY, THE KINDS OF LINES THAT THE LAW'S PROGRAMS HAVE: a step by its places below 56. -/
/-- kinds: set, load, store, cas, add, lock, unlock, fence, assert, if -/
abbrev okK (k : Nat) : Prop := k ≤ 6 ∨ k = 12 ∨ k = 14 ∨ k = 17
/-- what a line's expressions ask for: locals of its own thread -/
abbrev ndO (P : Nat → fI) (i t : Nat) : Prop := ∀ r, r = 5 ∨ r = 7 → ∀ j, clp (P (7 + r) i) ≤ j → j < clp (P (8 + r) i) → (P 25 j = nI 2 → ∃ k, k < 6 ∧ P 26 j = nI (16 + t * 6 + k)) ∧ P 25 j ≠ nI 3
/-- a program of two threads of such lines -/
abbrev GP (P : Nat → fI) (nc nl n : Nat) : Prop := PV P nc nl 2 n ∧ MBx P nc nl 2 n ∧ (∀ i, i < n → okK (kd P i)) ∧ (∀ i t, i < n → P 8 i = nI t → t < 2 → ndO P i t) ∧ ∀ c, c < nc → inR (P 4 c)
/-- states alike on the places that count -/
def e56 (N M : fI) : Prop := ∀ j, j < 56 → N j = M j
theorem e56.rf {N : fI} : e56 N N := fun _ _ => rfl
theorem e56.sy {N M : fI} (h : e56 N M) : e56 M N := fun j hj => (h j hj).symm
theorem e56.tr {N M K : fI} (h : e56 N M) (g : e56 M K) : e56 N K := fun j hj => (h j hj).trans (g j hj)
/-- what line i does: 0 or why it goes wrong, the state -/
def ac0 (P : Nat → fI) (N : fI) (t i : Nat) : Int32 × fI :=
  if kd P i = 1 then (0, setl P N t i (N (48 + ob P i)))
  else if kd P i = 5 then (if 9 ≤ N (44 + ob P i) then (5, N) else (0, upd (upd N (40 + ob P i) (nI t)) (44 + ob P i) (N (44 + ob P i) + 1)))
  else if kd P i = 6 then (if ¬ N (40 + ob P i) = nI t then (2, N) else (0, if N (44 + ob P i) - 1 = 0 then upd (upd N (44 + ob P i) (N (44 + ob P i) - 1)) (40 + ob P i) (-1) else upd N (44 + ob P i) (N (44 + ob P i) - 1)))
  else if kd P i = 12 then (0, N)
  else match exv P 5 N i with
    | none => (1, N)
    | some v => if kd P i = 0 then (0, setl P N t i v) else if kd P i = 2 then (0, upd N (48 + ob P i) v) else if kd P i = 3 then (match exv P 7 N i with
        | none => (1, N)
        | some u => (0, if N (48 + ob P i) = v then setl P (upd N (48 + ob P i) u) t i 1 else setl P N t i 0))
      else if kd P i = 4 then (if 999 < N (48 + ob P i) + v ∨ N (48 + ob P i) + v < -999 then (1, N) else (0, setl P (upd N (48 + ob P i) (N (48 + ob P i) + v)) t i (N (48 + ob P i))))
      else (if kd P i = 14 ∧ v = 0 then 4 else 0, N)
/-- a step of a thread that runs -/
def st0 (P : Nat → fI) (t : Nat) (N : fI) : fI := if ¬ (ac0 P N t (clp (N (4 + t)))).1 = 0 then wrg N t (ac0 P N t (clp (N (4 + t)))).1 else gto (ac0 P N t (clp (N (4 + t)))).2 t (tgtS P N (clp (N (4 + t))) (kd P (clp (N (4 + t)))))
/-- it is ready -/
def rd0 (P : Nat → fI) (t : Nat) (N : fI) : Prop := N t = 1 ∧ (kd P (clp (N (4 + t))) = 5 → N (40 + ob P (clp (N (4 + t)))) < 0 ∨ N (40 + ob P (clp (N (4 + t)))) = nI t)
section S0
variable {P : Nat → fI} {nc nl n t u i j k o : Nat} {N M : fI} {v x : Int32}
theorem uE (h : e56 N M) : e56 (upd N j v) (upd M j v) := by
  intro b hb
  show (if b = j then v else N b) = if b = j then v else M b
  rw [h b hb]
theorem setl_e (h : e56 N M) : e56 (setl P N t i v) (setl P M t i v) := by
  unfold setl
  split
  · exact h
  · exact uE h
theorem lrn_e (ht : t < 4) : e56 (lrn N t v) N := fun j hj => if_neg (show ¬ j = 224 + t by omega)
theorem gto_e (h : e56 N M) : e56 (gto N t x) (gto M t x) := uE (uE h)
/-- what a good program tells of a line -/
theorem gp_ln (hG : GP P nc nl n) (hi : i < n) : (∃ t, t < 2 ∧ P 8 i = nI t ∧ ndO P i t ∧ goV P n t (P 22 i) ∧ goV P n t (P 23 i) ∧ (P 10 i = -2 ∨ ∃ k, P 10 i = nI k ∧ k < 6)) ∧ (1 ≤ kd P i → kd P i ≤ 4 → ob P i < 8) ∧ (5 ≤ kd P i → kd P i ≤ 6 → ob P i < 4) ∧ okK (kd P i) := by
  obtain ⟨hP, hB, hK, hN, -⟩ := hG
  obtain ⟨b1, b2, b3, bl⟩ := cg_ln hP hi
  have hc8 := hP.1.2
  obtain ⟨-, ⟨t, ht, h8, g1, g2, -⟩, -⟩ := hP.2.2.2.2.1 i hi
  exact ⟨⟨t, ht, h8, hN i t hi h8 ht, g1, g2, bl⟩, fun q1 q2 => by have := b1 q1 q2; omega, fun q1 q2 => b2 q1 (by omega), hK i hi⟩
/-- a thread that runs has a line -/
theorem run_ln (hP : PV P nc nl 2 n) (hS : SV P 0 nc nl 2 n N) (ht : t < 2) (h1 : N t = 1) : clp (N (4 + t)) < n ∧ N (4 + t) = nI (clp (N (4 + t))) ∧ P 8 (clp (N (4 + t))) = nI t := by
  obtain ⟨⟨i, hi, e4, h8⟩, -⟩ := sv_run (hS.1.1 t ht) h1
  have hn := hP.2.2.2.1.2
  have e : clp (N (4 + t)) = i := by rw [e4]; exact n_clp (by omega)
  rw [e]
  exact ⟨hi, e4, h8⟩
theorem sv_56 (hS : SV P 0 nc nl 2 n N) : ∀ j, 56 ≤ j → j < 233 → N j = 0 := by
  intro j h1 h2
  rcases Nat.lt_or_ge j 72 with q | q
  · rcases Nat.lt_or_ge j 60 with z | z
    · rcases hS.2.2.2.2.1 (j - 56) (by omega) with ⟨w, -⟩ | ⟨-, e, -⟩
      · cases w
      · rw [show 56 + (j - 56) = j by omega] at e; exact e
    · rcases hS.2.2.2.2.1 ((j - 60) / 3) (by omega) with ⟨w, -⟩ | ⟨-, -, e⟩
      · cases w
      · have := e ((j - 60) % 3) (by omega)
        rw [show 60 + (j - 60) / 3 * 3 + (j - 60) % 3 = j by omega] at this; exact this
  · rcases hS.2.2.2.2.2 with ⟨-, e⟩ | ⟨w, -⟩
    · exact e j q h2
    · cases w
theorem e56_S (hS : SV P 0 nc nl 2 n N) (hM : SV P 0 nc nl 2 n M) (h : e56 N M) : eqS N M := by
  intro j hj
  rcases Nat.lt_or_ge j 56 with q | q
  · exact h j q
  · rw [sv_56 hS j q hj, sv_56 hM j q hj]
theorem eqS_e (h : eqS N M) : e56 N M := fun j hj => h j (by omega)
theorem n3_1 : ¬ (1 : Int32) = 3 := by decide
/-- threads neither wait nor are woken -/
theorem no_w (hG : GP P nc nl n) (hS : SV P 0 nc nl 2 n N) (ht : t < 2) : N t ≠ 2 ∧ N t ≠ 3 := by
  have key : ¬ (N t = 2 ∨ N t = 3) := by
    intro q
    rcases hS.1.1 t ht with ⟨z, -⟩ | ⟨z, -⟩ | ⟨-, ⟨i, hi, -, -, h7⟩, -⟩ | ⟨z, -⟩
    · rcases q with q | q <;> rcases z with z | z <;> rw [q] at z <;> exact absurd z (by decide)
    · rcases q with q | q <;> rw [q] at z <;> exact absurd z (by decide)
    · have := hG.2.2.1 i hi
      omega
    · rcases q with q | q <;> rw [q] at z <;> exact absurd z (by decide)
  exact ⟨fun z => key (Or.inl z), fun z => key (Or.inr z)⟩
theorem chs_0 (hG : GP P nc nl n) (hS : SV P 0 nc nl 2 n N) (ht : t < 2) : (rd0 P t N ∧ chs P 0 N t 2 = 1) ∨ (¬ rd0 P t N ∧ chs P 0 N t 2 = 0) := by
  have hw := no_w hG hS ht
  unfold chs
  rw [if_neg hw.2]
  by_cases h1 : N t = 1
  · rw [if_pos h1]
    obtain ⟨hi, -, -⟩ := run_ln hG.1 hS ht h1
    have hk := hG.2.2.1 _ hi
    have h56 := sv_56 hS (56 + t) (by omega) (by omega)
    unfold chK
    rw [if_neg (fun z => z.1 h56)]
    unfold rd0
    by_cases k5 : kd P (clp (N (4 + t))) = 5
    · rw [if_neg (show ¬ kd P (clp (N (4 + t))) = 1 by omega), if_neg (show ¬ (kd P (clp (N (4 + t))) = 2 ∨ kd P (clp (N (4 + t))) = 3 ∨ kd P (clp (N (4 + t))) = 4) by omega), if_pos k5]
      by_cases g : N (40 + ob P (clp (N (4 + t)))) < 0 ∨ N (40 + ob P (clp (N (4 + t)))) = nI t
      · rw [if_pos g]; exact Or.inl ⟨⟨h1, fun _ => g⟩, rfl⟩
      · rw [if_neg g]; exact Or.inr ⟨fun z => g (z.2 k5), rfl⟩
    · refine Or.inl ⟨⟨h1, fun z => absurd z k5⟩, ?_⟩
      split
      · rw [if_neg (fun z => absurd z.1 (by decide))]
      · split
        · rw [show roS P 0 N t (clp (N (4 + t))) (ob P (clp (N (4 + t)))) (kd P (clp (N (4 + t)))) = true from (if_neg (by decide)).trans (if_pos rfl)]
          rfl
        · rw [if_neg (show ¬ kd P (clp (N (4 + t))) = 8 by omega), if_neg (show ¬ kd P (clp (N (4 + t))) = 11 by omega)]
  · rw [if_neg h1]
    exact Or.inr ⟨fun z => h1 z.1, rfl⟩
/-- the steps that are ready -/
theorem rdS_0 (hG : GP P nc nl n) (hS : SV P 0 nc nl 2 n N) (ht : t < 2) : rdS P 0 N t k 2 ↔ k = 0 ∧ rd0 P t N := by
  have h56 := sv_56 hS (56 + t) (by omega) (by omega)
  unfold rdS
  rcases chs_0 hG hS ht with ⟨h, e⟩ | ⟨h, e⟩
  · rw [e]
    constructor
    · rintro ⟨-, q | q⟩
      · exact ⟨by omega, h⟩
      · exact absurd h56 q.2
    · rintro ⟨rfl, -⟩
      exact ⟨ht, Or.inl (by omega)⟩
  · rw [e]
    constructor
    · rintro ⟨-, q | q⟩
      · omega
      · exact absurd h56 q.2
    · rintro ⟨-, q⟩
      exact absurd q h
theorem rdl_0 (hG : GP P nc nl n) (hS : SV P 0 nc nl 2 n N) (a : Nat) : a ∈ rdl P 0 N 2 2 ↔ (a = 0 ∧ rd0 P 0 N) ∨ (a = 10 ∧ rd0 P 1 N) := by
  have e : 10 * (a / 10) + a % 10 = a := Nat.div_add_mod a 10
  have h := rdl_mem hG.1 hS 2 (Nat.le_refl _) (a / 10) (a % 10) (Nat.mod_lt _ (by decide))
  rw [e] at h
  rw [h]
  constructor
  · rintro ⟨h1, h2⟩
    have h3 := (rdS_0 hG hS h1).mp h2
    have : a / 10 = 0 ∨ a / 10 = 1 := by omega
    rcases this with q | q
    · rw [q] at h3; exact Or.inl ⟨by omega, h3.2⟩
    · rw [q] at h3; exact Or.inr ⟨by omega, h3.2⟩
  · rintro (⟨rfl, h1⟩ | ⟨rfl, h1⟩)
    · exact ⟨by decide, (rdS_0 hG hS (by decide)).mpr ⟨rfl, h1⟩⟩
    · exact ⟨by decide, (rdS_0 hG hS (by decide)).mpr ⟨rfl, h1⟩⟩
theorem rdl_le2 (hG : GP P nc nl n) (hS : SV P 0 nc nl 2 n N) : (rdl P 0 N 2 2).length ≤ 2 := by
  have h0 := sv_56 hS 56 (by omega) (by omega)
  have h1 := sv_56 hS 57 (by omega) (by omega)
  show (([] ++ rdT P 0 N 2 0) ++ rdT P 0 N 2 1).length ≤ 2
  have a : ∀ t, t < 2 → (rdT P 0 N 2 t).length ≤ 1 := by
    intro t ht
    unfold rdT
    rw [if_pos (sv_56 hS (56 + t) (by omega) (by omega)), List.append_nil, List.length_map, List.length_range]
    rcases chs_0 hG hS ht with ⟨-, e⟩ | ⟨-, e⟩ <;> rw [e] <;> omega
  have := a 0 (by decide)
  have := a 1 (by decide)
  rw [List.nil_append, List.length_append]
  omega
end S0
