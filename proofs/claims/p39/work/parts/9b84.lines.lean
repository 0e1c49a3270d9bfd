/-! THE READER: lines on both sides. -/
/-- lines one behind the other: f tells the next, nn is none, h the first -/
def lkd (f : fI) (nn : Int32) : Int32 → List Nat → Prop
  | h, [] => h = nn
  | h, a :: L => h = nI a ∧ lkd f nn (f a) L
/-- the first line of block k -/
def hdK (f g h : fI) (k : Nat) : Int32 := if k < 4 then f k else if (k - 4) % 2 = 0 then g ((k - 4) / 2) else h ((k - 4) / 2)
/-- blocks that there are -/
abbrev kyV (nt N k : Nat) : Prop := k < nt ∨ (4 ≤ k ∧ k < 4 + 2 * N)
/-- what a statement changes of the class; N its line -/
abbrev stF (N m : Nat) (s s' : qS) : Prop := (∀ a, a ≠ 1 → a ≠ 14 → a ≠ 7 → a ≠ 8 → a ≠ 9 → a ≠ 65 → a ≠ 68 → (a < 18 ∨ 27 < a) → s'.1 a = s.1 a) ∧ (∀ a, 18 ≤ a → a ≤ 27 → ∀ j, j ≠ N → s'.1 a j = s.1 a j) ∧ (∀ j, j ≠ N → s'.1 68 j = s.1 68 j) ∧ (∀ j, j ≠ 8 → j ≠ 9 → j ≠ 10 → s'.1 1 j = s.1 1 j) ∧ (∀ j, j ≠ 3 → s'.1 7 j = s.1 7 j) ∧ (∀ j, j < m → s'.1 8 j = s.1 8 j ∧ s'.1 9 j = s.1 9 j) ∧ (∀ j, j ≠ 11 → j ≠ 12 → j ≠ 13 → s'.1 65 j = s.1 65 j) ∧ (∀ a, a ≠ 1 → a ≠ 13 → a ≠ 67 → s'.2.1 a = s.2.1 a) ∧ (∀ j, j ≠ N → s'.2.1 67 j = s.2.1 67 j) ∧ s'.2.2 = s.2.2
def smW (a : Nat) : Bool := [164, 166, 167, 176, 177, 178, 179, 183].contains a
/-- what reading may change at all -/
abbrev wkX (s s' : qS) : Prop := (∀ a, a ≠ 1 → a ≠ 65 → a ≠ 68 → (a < 7 ∨ a = 10 ∨ a = 15 ∨ 35 < a) → s'.1 a = s.1 a) ∧ (∀ j, j ≠ 8 → j ≠ 9 → j ≠ 10 → s'.1 1 j = s.1 1 j) ∧ ((∀ j, j ≠ 3 → s'.1 7 j = s.1 7 j) ∧ ∀ j, j ≠ 12 → s'.1 11 j = s.1 11 j) ∧ (∀ j, j ≠ 11 → j ≠ 12 → j ≠ 13 → j ≠ 14 → s'.1 65 j = s.1 65 j) ∧ (∀ a, a ≠ 1 → a ≠ 67 → (a < 12 ∨ 13 < a) → s'.2.1 a = s.2.1 a) ∧ s'.2.2 = s.2.2
def wmJ (j : Nat) : Bool := [2, 3, 4, 6, 7, 8, 12, 16, 18, 25, 28, 31, 32, 56].contains j
section LNS
variable {en : pN} {d d' k q bs u n i j m m' N nc nl nt a e c p z l x : Nat} {lw : Bool} {V cl cl' th th' K K' : Nat → Nat} {U U' : Nat → Nat → Nat} {bl bl' : Nat → List Nat} {s s' s'' t t' t'' : qS} {B : Nat → Nat} {f f' : fI} {nn h v : Int32} {w : Int64} {L : List Nat}
theorem lkd_cg : ∀ (L : List Nat) (h : Int32), lkd f nn h L → (∀ a, a ∈ L → f' a = f a) → lkd f' nn h L := by
  intro L
  induction L with
  | nil => intro h g _; exact g
  | cons a L ih =>
    intro h g e
    refine ⟨g.1, ?_⟩
    rw [e a (List.mem_cons_self)]
    exact ih _ g.2 (fun b hb => e b (List.mem_cons_of_mem a hb))
/-- one more at the end -/
theorem lkd_snoc : ∀ (L : List Nat) (h : Int32), lkd f nn h L → L.Nodup → f' N = nn → (∀ a, a ∈ L → L.getLast? ≠ some a → f' a = f a) → (∀ l, L.getLast? = some l → f' l = nI N) → lkd f' nn (if L = [] then nI N else h) (L ++ [N]) := by
  intro L
  induction L with
  | nil =>
    intro h g _ hN _ _
    rw [if_pos rfl]
    exact ⟨rfl, hN⟩
  | cons a L ih =>
    intro h g hd hN he hl
    rw [if_neg (by simp)]
    refine ⟨g.1, ?_⟩
    cases hL : L with
    | nil =>
      subst hL
      rw [hl a (by simp)]
      exact ⟨rfl, hN⟩
    | cons b M =>
      rw [← hL]
      have hlast : (a :: L).getLast? = L.getLast? := by rw [hL, List.getLast?_cons_cons]
      have hna : a ∉ L := (List.nodup_cons.mp hd).1
      have e1 : f' a = f a := he a List.mem_cons_self (fun z => hna (by
        rw [hlast] at z
        exact List.mem_of_getLast? z))
      rw [e1]
      have := ih (f a) g.2 (List.nodup_cons.mp hd).2 hN (fun c hc hc' => he c (List.mem_cons_of_mem a hc) (by rw [hlast]; exact hc')) (fun l h => hl l (by rw [hlast]; exact h))
      rw [if_neg (by rw [hL]; simp)] at this
      exact this
/-! frames -/
theorem stF.rf : stF N m s s := ⟨fun _ _ _ _ _ _ _ _ _ => rfl, fun _ _ _ _ _ => rfl, fun _ _ => rfl, fun _ _ _ _ => rfl, fun _ _ => rfl, fun _ _ => ⟨rfl, rfl⟩, fun _ _ _ _ => rfl, fun _ _ _ _ => rfl, fun _ _ => rfl, rfl⟩
theorem stF.tr (h : stF N m s s') (g : stF N m' s' s'') (hm : m ≤ m') : stF N m s s'' := ⟨fun a h1 h2 h3 h4 h5 h6 h7 h8 => (g.1 a h1 h2 h3 h4 h5 h6 h7 h8).trans (h.1 a h1 h2 h3 h4 h5 h6 h7 h8), fun a h1 h2 j hj => (g.2.1 a h1 h2 j hj).trans (h.2.1 a h1 h2 j hj), fun j hj => (g.2.2.1 j hj).trans (h.2.2.1 j hj), fun j a b c => (g.2.2.2.1 j a b c).trans (h.2.2.2.1 j a b c), fun j a => (g.2.2.2.2.1 j a).trans (h.2.2.2.2.1 j a), fun j hj => ⟨(g.2.2.2.2.2.1 j (by omega)).1.trans (h.2.2.2.2.2.1 j hj).1, (g.2.2.2.2.2.1 j (by omega)).2.trans (h.2.2.2.2.2.1 j hj).2⟩, fun j a b c => (g.2.2.2.2.2.2.1 j a b c).trans (h.2.2.2.2.2.2.1 j a b c), fun a h1 h2 h3 => (g.2.2.2.2.2.2.2.1 a h1 h2 h3).trans (h.2.2.2.2.2.2.2.1 a h1 h2 h3), fun j hj => (g.2.2.2.2.2.2.2.2.1 j hj).trans (h.2.2.2.2.2.2.2.2.1 j hj), g.2.2.2.2.2.2.2.2.2.trans h.2.2.2.2.2.2.2.2.2⟩
theorem stF.rx (h : rxF false 7 m s s') : stF N m s s' := ⟨fun a h1 h2 h3 h4 h5 h6 _ _ => h.1 a h1 (Or.inl h2) h3 h4 h5 h6, fun a h1 h2 j _ => by rw [h.1 a (by omega) (Or.inl (by omega)) (by omega) (by omega) (by omega) (by omega)], fun j _ => by rw [h.1 68 (by decide) (Or.inl (by decide)) (by decide) (by decide) (by decide) (by decide)], h.2.1, h.2.2.1, h.2.2.2.1, h.2.2.2.2.1, fun a h1 h2 _ => h.2.2.2.2.2.1 a h1 (Or.inl h2), fun j _ => by rw [h.2.2.2.2.2.1 67 (by decide) (Or.inl (by decide))], h.2.2.2.2.2.2⟩
theorem stF.ui (ha : 18 ≤ a ∧ a ≤ 27 ∨ a = 68) : stF N m s (uI s a N v) := by
  have e : ∀ c, c ≠ a → (uI s a N v).1 c = s.1 c := fun c hc => uI_ne hc
  have r : ∀ j, j ≠ N → (uI s a N v).1 a j = s.1 a j := fun j hj => by rw [rdU, if_neg (fun z => hj z.2)]
  refine ⟨fun b _ _ _ _ _ _ h7 h8 => e b (by omega), fun b h1 h2 j hj => ?_, fun j hj => ?_, fun j _ _ _ => by rw [e 1 (by omega)], fun j _ => by rw [e 7 (by omega)], fun j _ => ⟨by rw [e 8 (by omega)], by rw [e 9 (by omega)]⟩, fun j _ _ _ => by rw [e 65 (by omega)], fun _ _ _ _ => rfl, fun _ _ => rfl, rfl⟩
  · by_cases z : b = a
    · rw [z]; exact r j hj
    · rw [e b z]
  · by_cases z : 68 = a
    · rw [z]; exact r j hj
    · rw [e 68 z]
theorem stF.uj : stF N m s (uJ s 67 N w) := ⟨fun _ _ _ _ _ _ _ _ _ => rfl, fun _ _ _ _ _ => rfl, fun _ _ => rfl, fun _ _ _ _ => rfl, fun _ _ => rfl, fun _ _ => ⟨rfl, rfl⟩, fun _ _ _ _ => rfl, fun a _ _ h => uJ_ne h, fun j hj => by
  show (if 67 = 67 ∧ j = N then w else s.2.1 67 j) = _
  rw [if_neg (fun z => hj z.2)], rfl⟩
theorem wkX.rf : wkX s s := ⟨fun _ _ _ _ _ => rfl, fun _ _ _ _ => rfl, ⟨fun _ _ => rfl, fun _ _ => rfl⟩, fun _ _ _ _ _ => rfl, fun _ _ _ _ => rfl, rfl⟩
theorem wkX.tr (h : wkX s s') (g : wkX s' s'') : wkX s s'' := ⟨fun a h1 h2 h3 h4 => (g.1 a h1 h2 h3 h4).trans (h.1 a h1 h2 h3 h4), fun j a b c => (g.2.1 j a b c).trans (h.2.1 j a b c), ⟨fun j a => (g.2.2.1.1 j a).trans (h.2.2.1.1 j a), fun j a => (g.2.2.1.2 j a).trans (h.2.2.1.2 j a)⟩, fun j a b c d => (g.2.2.2.1 j a b c d).trans (h.2.2.2.1 j a b c d), fun a h1 h2 h3 => (g.2.2.2.2.1 a h1 h2 h3).trans (h.2.2.2.2.1 a h1 h2 h3), g.2.2.2.2.2.trans h.2.2.2.2.2⟩
theorem wkX.st (h : stF N m s s') : wkX s s' := ⟨fun a h1 h2 h3 h4 => h.1 a h1 (by omega) (by omega) (by omega) (by omega) h2 h3 (by omega), h.2.2.2.1, ⟨h.2.2.2.2.1, fun j _ => by rw [h.1 11 (by decide) (by decide) (by decide) (by decide) (by decide) (by decide) (by decide) (by decide)]⟩, fun j a b c _ => h.2.2.2.2.2.2.1 j a b c, fun a h1 h2 h3 => h.2.2.2.2.2.2.2.1 a h1 (by omega) h2, h.2.2.2.2.2.2.2.2.2⟩
theorem wkX.rx (h : rxF false 7 m s s') : wkX s s' := wkX.st (N := 0) (stF.rx h)
/-! what stands under frames -/
/-! single places -/
end LNS

