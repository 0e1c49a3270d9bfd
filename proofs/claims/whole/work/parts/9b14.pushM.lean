/-! SWITCHES, the model's side: a step looked at. -/
/-- what may be read of the first places -/
abbrev mwP (X : xT) (oN : Nat) (s : qS) (T Q G : Nat → Nat) (f b : Nat) : Prop := (∀ j, j < 5 * xN X → s.1 227 j = nI (T j)) ∧ (∀ i, f ≤ i → i < b → s.1 228 i = nI (Q i)) ∧ ∀ o, o < oN → s.1 229 o = nI (G o)
abbrev mwF (τ s : qS) : Prop := (∀ c, c ≠ 227 → c ≠ 228 → c ≠ 229 → s.1 c = τ.1 c) ∧ s.2 = τ.2
/-- from the first state no step is a switch -/
def cs5 (P : Nat → fI) (w nt : Nat) (X : xT) (k l t : Nat) : Nat := if l = 4 then 0 else cstS P w nt X k l t
abbrev clV (P : Nat → fI) (w nt : Nat) (X : xT) (T : Nat → Nat) (v : Nat) : Prop := ∀ e, xA X (v / 5) ≤ e → e < xA X (v / 5 + 1) → T (5 * (xE X e).1 + (xE X e).2 / 10) ≤ T v + cs5 P w nt X (v / 5) (v % 5) ((xE X e).2 / 10)
/-- a node is done -/
abbrev dnV (P : Nat → fI) (w nt : Nat) (X : xT) (T G : Nat → Nat) (v : Nat) : Prop := clV P w nt X T v ∧ (endC P w (xS X (v / 5)) nt = true → G (outN P w nt (xS X) (v / 5)) ≤ T v)
/-- what holds at level D: places f to m are of it, m to b of the next; x: a node at hand, or none -/
abbrev mwI (P : Nat → fI) (w nt : Nat) (X : xT) (oN : Nat) (x : Option Nat) (D : Nat) (T Q G : Nat → Nat) (f m b : Nat) : Prop :=
  (∀ j, j < 5 * xN X → T j ≤ D + 1 ∨ T j = 100000) ∧
  (∀ U, clT P w nt X U → (∀ k, k < xN X → ∀ l, l < 4 → U k l ≤ 100000) → ∀ k, k < xN X → ∀ l, l < 4 → U k l ≤ T (5 * k + l)) ∧
  ((f ≤ m ∧ m ≤ b) ∧ m - f ≤ cqL T D (5 * xN X) ∧ b - m ≤ cqL T (D + 1) (5 * xN X)) ∧
  (∀ i, f ≤ i → i < b → Q i < 5 * xN X ∧ (Q i % 5 = 4 → Q i = 4) ∧ (i < m → T (Q i) ≤ D) ∧ T (Q i) ≤ D + 1) ∧
  (∀ v, v < 5 * xN X → T v ≠ 100000 → x = some v ∨ dnV P w nt X T G v ∨ (∃ i, f ≤ i ∧ i < m ∧ Q i = v ∧ T v = D) ∨ ∃ i, m ≤ i ∧ i < b ∧ Q i = v ∧ T v = D + 1) ∧
  (∀ o, o < oN → G o ≤ 100000 ∧ (G o = 100000 ∨ ∃ v, v < 5 * xN X ∧ endC P w (xS X (v / 5)) nt = true ∧ outN P w nt (xS X) (v / 5) = o ∧ T v ≤ G o ∧ T v ≠ 100000)) ∧
  (262144 ≤ f + cqL T D (5 * xN X) ∧ b ≤ 262145 + cqL T 99999 (5 * xN X)) ∧
  (D + 1 ≤ cqL T 99999 (5 * xN X) ∧ (b = m ∨ D + 2 ≤ cqL T 99999 (5 * xN X))) ∧
  (T 4 = 0 ∧ ∀ k, 1 ≤ k → k < xN X → T (5 * k + 4) = 100000)
section MW1
variable {en : pN} {d w nc nl nt n D D' v f m b t e k l oN : Nat} {P : Nat → fI} {s s' s'' τ : qS} {X : xT} {T T' Q Q' G G' : Nat → Nat} {x : Option Nat}
theorem mwF.rf : mwF τ τ := ⟨fun _ _ _ _ => rfl, rfl⟩
theorem mwF.tr (h : mwF s s') (g : mwF s' s'') : mwF s s'' := ⟨fun c a b y => (g.1 c a b y).trans (h.1 c a b y), g.2.trans h.2⟩
theorem dnV.le (h : dnV P w nt X T G v) (hT : ∀ j, T' j ≤ T j) (hG : ∀ j, G' j ≤ G j) (hv : T' v = T v) : dnV P w nt X T' G' v := ⟨fun e a b => by rw [hv]; exact Nat.le_trans (hT _) (h.1 e a b), fun he => by rw [hv]; exact Nat.le_trans (hG _) (h.2 he)⟩
/-- levels are few -/
theorem mw_D (hN : 1 ≤ xN X ∧ xN X ≤ 20000) (I : mwI P w nt X oN x D T Q G f m b) : D + 1 < 100000 ∧ cqL T 99999 (5 * xN X) < 100000 := by
  obtain ⟨-, -, -, -, -, -, -, ⟨i8, -⟩, -, i9⟩ := I
  have h : cqL T 99999 (5 * xN X) < 100000 := by
    by_cases q : xN X = 1
    · have := cqL_le (T := T) (b := 99999) (5 * xN X)
      omega
    · have h1 := i9 1 (Nat.le_refl _) (by omega)
      have := cqL_lt (T := T) (b := 99999) (v := 9) (5 * xN X) (by omega) (by
        have h1 : T 9 = 100000 := h1
        omega)
      omega
  omega
/-- a node at the level's front, or behind the queue -/
theorem mw_push (hN : 1 ≤ xN X ∧ xN X ≤ 20000) (I : mwI P w nt X oN x D T Q G f m b) (hv : v < 5 * xN X) (hv4 : ¬ v % 5 = 4) {c : Nat} (hc : c ≤ 1) (hT : ¬ T v ≤ D + c) (hx : ∀ u, x = some u → u ≠ v) (hs : ∀ U, clT P w nt X U → (∀ k, k < xN X → ∀ l, l < 4 → U k l ≤ 100000) → U (v / 5) (v % 5) ≤ D + c) :
    (c = 0 → f ≥ 1 ∧ mwI P w nt X oN x D (at1 T v D) (at1 Q (f - 1) v) G (f - 1) m b) ∧ (c = 1 → mwI P w nt X oN x D (at1 T v (D + 1)) (at1 Q b v) G f m (b + 1)) := by
  have hD := mw_D hN I
  obtain ⟨i1, i2, ⟨⟨i3, i3'⟩, i3a, i3b⟩, i4, i5, i6, ⟨i7, i7'⟩, ⟨i8, i8'⟩, i9, i9'⟩ := I
  have gle : ∀ j, at1 T v (D + c) j ≤ T j := fun j => by
    by_cases z : j = v
    · rw [z, at1_s]; omega
    · rw [at1_n z]; exact Nat.le_refl _
  have j1 : ∀ j, j < 5 * xN X → at1 T v (D + c) j ≤ D + 1 ∨ at1 T v (D + c) j = 100000 := fun j hj => by
    by_cases z : j = v
    · left; rw [z, at1_s]; omega
    · rw [at1_n z]; exact i1 j hj
  have j2 : ∀ U, clT P w nt X U → (∀ k, k < xN X → ∀ l, l < 4 → U k l ≤ 100000) → ∀ k, k < xN X → ∀ l, l < 4 → U k l ≤ at1 T v (D + c) (5 * k + l) := fun U hU hb k hk l hl => by
    by_cases z : 5 * k + l = v
    · rw [z, at1_s]
      have := hs U hU hb
      rw [show v / 5 = k by omega, show v % 5 = l by omega] at this
      exact this
    · rw [at1_n z]; exact i2 U hU hb k hk l hl
  have j6 : ∀ o, o < oN → G o ≤ 100000 ∧ (G o = 100000 ∨ ∃ u, u < 5 * xN X ∧ endC P w (xS X (u / 5)) nt = true ∧ outN P w nt (xS X) (u / 5) = o ∧ at1 T v (D + c) u ≤ G o ∧ at1 T v (D + c) u ≠ 100000) := fun o ho => by
    obtain ⟨a, q⟩ := i6 o ho
    refine ⟨a, ?_⟩
    rcases q with q | ⟨u, a1, a2, a3, a4, a5⟩
    · exact Or.inl q
    · refine Or.inr ⟨u, a1, a2, a3, Nat.le_trans (gle u) a4, ?_⟩
      by_cases z : u = v
      · rw [z, at1_s]; omega
      · rw [at1_n z]; exact a5
  have j9 : at1 T v (D + c) 4 = 0 ∧ ∀ k, 1 ≤ k → k < xN X → at1 T v (D + c) (5 * k + 4) = 100000 := ⟨by rw [at1_n (by omega)]; exact i9, fun k a b => by rw [at1_n (by omega)]; exact i9' k a b⟩
  refine ⟨fun h0 => ?_, fun h1 => ?_⟩
  · subst h0
    have hup := cqL_up (T := T) (b := D) (x := D) (5 * xN X) hv (by omega) (by omega)
    have hcl := cqL_lt (T := T) (b := D) (5 * xN X) hv (by omega)
    have hf : f ≥ 1 := by omega
    refine ⟨hf, j1, j2, ⟨⟨by omega, i3'⟩, by omega, Nat.le_trans i3b (cqL_dn (by omega))⟩, fun i a b' => ?_, fun u hu hT' => ?_, j6, ⟨by omega, Nat.le_trans i7' (Nat.add_le_add_left (cqL_dn (by omega)) _)⟩, ⟨Nat.le_trans i8 (cqL_dn (by omega)), ?_⟩, j9⟩
    · by_cases z : i = f - 1
      · rw [z, at1_s, at1_s]
        exact ⟨hv, fun y => absurd y hv4, fun _ => by omega, by omega⟩
      · rw [at1_n z]
        obtain ⟨a1, a2, a3, a4⟩ := i4 i (by omega) b'
        exact ⟨a1, a2, fun y => Nat.le_trans (gle _) (a3 y), Nat.le_trans (gle _) a4⟩
    · by_cases z : u = v
      · right; right; left
        exact ⟨f - 1, Nat.le_refl _, by omega, by rw [at1_s, z], by rw [z, at1_s]⟩
      · rw [at1_n z] at hT'
        rcases i5 u hu hT' with q | q | ⟨i, a1, a2, a3, a4⟩ | ⟨i, a1, a2, a3, a4⟩
        · exact Or.inl q
        · exact Or.inr (Or.inl (q.le gle (fun _ => Nat.le_refl _) (at1_n z)))
        · exact Or.inr (Or.inr (Or.inl ⟨i, by omega, a2, by rw [at1_n (by omega)]; exact a3, by rw [at1_n z]; exact a4⟩))
        · exact Or.inr (Or.inr (Or.inr ⟨i, a1, a2, by rw [at1_n (by omega)]; exact a3, by rw [at1_n z]; exact a4⟩))
    · rcases i8' with q | q
      · exact Or.inl q
      · exact Or.inr (Nat.le_trans q (cqL_dn (by omega)))
  · subst h1
    have hTv : T v = 100000 := by
      rcases i1 v hv with z | z <;> omega
    have hup := cqL_up (T := T) (b := D + 1) (x := D + 1) (5 * xN X) hv (by omega) (by omega)
    have hup2 := cqL_up (T := T) (b := 99999) (x := D + 1) (5 * xN X) hv (by omega) (by omega)
    refine ⟨j1, j2, ⟨⟨i3, by omega⟩, Nat.le_trans i3a (cqL_dn (by omega)), by omega⟩, fun i a b' => ?_, fun u hu hT' => ?_, j6, ⟨Nat.le_trans i7 (Nat.add_le_add_left (cqL_dn (by omega)) _), by omega⟩, ⟨by omega, Or.inr (by omega)⟩, j9⟩
    · by_cases z : i = b
      · rw [z, at1_s, at1_s]
        exact ⟨hv, fun y => absurd y hv4, fun y => by omega, Nat.le_refl _⟩
      · rw [at1_n z]
        obtain ⟨a1, a2, a3, a4⟩ := i4 i (by omega) (by omega)
        exact ⟨a1, a2, fun y => Nat.le_trans (gle _) (a3 y), Nat.le_trans (gle _) a4⟩
    · by_cases z : u = v
      · right; right; right
        exact ⟨b, i3', Nat.lt_succ_self _, by rw [at1_s, z], by rw [z, at1_s]⟩
      · rw [at1_n z] at hT'
        rcases i5 u hu hT' with q | q | ⟨i, a1, a2, a3, a4⟩ | ⟨i, a1, a2, a3, a4⟩
        · exact Or.inl q
        · exact Or.inr (Or.inl (q.le gle (fun _ => Nat.le_refl _) (at1_n z)))
        · exact Or.inr (Or.inr (Or.inl ⟨i, a1, a2, by rw [at1_n (by omega)]; exact a3, by rw [at1_n z]; exact a4⟩))
        · exact Or.inr (Or.inr (Or.inr ⟨i, a1, by omega, by rw [at1_n (by omega)]; exact a3, by rw [at1_n z]; exact a4⟩))
/-- how much is still to do -/
def mwM (X : xT) (D : Nat) (T : Nat → Nat) (f b : Nat) : Nat := 2 * (2 * (5 * xN X) - cqL T D (5 * xN X) - cqL T (D + 1) (5 * xN X)) + (b - f)
end MW1
