/-! THE READER: lines on both sides. -/
/-- lines one behind the other: f tells the next, nn is none, h the first -/
def lkd (f : fI) (nn : Int32) : Int32 → List Nat → Prop
  | h, [] => h = nn
  | h, a :: L => h = nI a ∧ lkd f nn (f a) L
/-- an expression of a line on both sides -/
abbrev exA (s t : qS) (u m : Nat) (A E A' E' : Int32) : Prop := ∃ a e : Nat, A = nI a ∧ E = nI e ∧ ((a = e ∧ a ≤ 400 ∧ ∃ z : Nat, z ≤ 900 ∧ A' = nI z ∧ E' = nI z) ∨ (a < e ∧ e ≤ m ∧ m ≤ 400 ∧ A' = nI a ∧ E' = nI e ∧ ndZ false u s t 7 0 a e ∧ gw (s.1 8) (s.1 9) a e))
/-- a line of both that is read -/
abbrev lnB (s t : qS) (nc nl nt m : Nat) (cl th : Nat → Nat) (i : Nat) : Prop := ∃ k : Nat, (k < 19 ∧ s.1 18 i = nI k ∧ t.1 164 i = nI k) ∧ (th i < nt ∧ s.1 19 i = nI (th i) ∧ t.1 165 i = nI (th i)) ∧ t.1 166 i = s.1 20 i ∧ ((1 ≤ k → k ≤ 4 → ∃ c, c < nc ∧ s.1 20 i = nI c) ∧ (5 ≤ k → k ≤ 9 → ∃ l, l < nl ∧ s.1 20 i = nI l)) ∧ (t.1 167 i = s.1 21 i ∧ ((s.1 21 i = -2 ∧ k ≠ 1) ∨ ∃ j, j < cl (th i) ∧ s.1 21 i = nI j)) ∧ t.1 168 i = s.1 22 i ∧ (s.1 35 i = 0 ∧ t.1 175 i = 0) ∧
  exA s t (th i) m (s.1 23 i) (s.1 24 i) (t.1 176 i) (t.1 177 i) ∧ exA s t (th i) m (s.1 25 i) (s.1 26 i) (t.1 178 i) (t.1 179 i) ∧ (k = 1 ∨ 5 ≤ k ∧ k ≤ 13 → s.1 23 i = s.1 24 i) ∧ (k ≠ 3 → s.1 25 i = s.1 26 i) ∧ (k = 15 → wdR (s.1 27 i) (t.2.1 180 i)) ∧
  (k = 10 ∨ k = 11 → ∃ W p : Nat, (W < 128 ^ 8 ∧ W ≠ 0) ∧ s.2.1 67 i = Int64.ofNat W ∧ t.2.1 182 i = Int64.ofNat (w8 8 W) ∧ p ≤ 4000 ∧ s.1 68 i = nI p ∧ t.1 183 i = nI p)
/-- the first line of block k -/
def hdK (f g h : fI) (k : Nat) : Int32 := if k < 4 then f k else if (k - 4) % 2 = 0 then g ((k - 4) / 2) else h ((k - 4) / 2)
/-- blocks that there are -/
abbrev kyV (nt N k : Nat) : Prop := k < nt ∨ (4 ≤ k ∧ k < 4 + 2 * N)
/-- the tree of lines: bl k are the lines of block k (u: thread u's own; 4 + 2 p, 5 + 2 p: those within line p), K i is the block that line i is in -/
abbrev lnG (s t : qS) (nt N : Nat) (K th : Nat → Nat) (bl : Nat → List Nat) : Prop :=
  (∀ k, kyV nt N k → lkd (s.1 28) (-1) (hdK (s.1 16) (s.1 31) (s.1 32) k) (bl k) ∧ lkd (t.1 171) (-2) (hdK (t.1 181) (t.1 172) (t.1 173) k) (bl k)) ∧
  (∀ k i, i ∈ bl k → i < N ∧ K i = k) ∧ (∀ i, i < N → i ∈ bl (K i)) ∧ (∀ k, (bl k).Nodup) ∧
  ∀ i, i < N → (th i < nt ∧ s.1 19 i = nI (th i)) ∧ ((K i = th i ∧ s.1 29 i = -1 ∧ t.1 169 i = -2) ∨ ∃ p b : Nat, p < i ∧ b < 2 ∧ K i = 4 + 2 * p + b ∧ s.1 29 i = nI p ∧ t.1 169 i = nI p ∧ th p = th i ∧ s.1 30 i = nI b ∧ t.1 170 i = nI b)
/-- what a statement changes of the class; N its line -/
abbrev stF (N m : Nat) (s s' : qS) : Prop := (∀ a, a ≠ 1 → a ≠ 14 → a ≠ 7 → a ≠ 8 → a ≠ 9 → a ≠ 65 → a ≠ 68 → (a < 18 ∨ 27 < a) → s'.1 a = s.1 a) ∧ (∀ a, 18 ≤ a → a ≤ 27 → ∀ j, j ≠ N → s'.1 a j = s.1 a j) ∧ (∀ j, j ≠ N → s'.1 68 j = s.1 68 j) ∧ (∀ j, j ≠ 8 → j ≠ 9 → j ≠ 10 → s'.1 1 j = s.1 1 j) ∧ (∀ j, j ≠ 3 → s'.1 7 j = s.1 7 j) ∧ (∀ j, j < m → s'.1 8 j = s.1 8 j ∧ s'.1 9 j = s.1 9 j) ∧ (∀ j, j ≠ 11 → j ≠ 12 → j ≠ 13 → s'.1 65 j = s.1 65 j) ∧ (∀ a, a ≠ 1 → a ≠ 13 → a ≠ 67 → s'.2.1 a = s.2.1 a) ∧ (∀ j, j ≠ N → s'.2.1 67 j = s.2.1 67 j) ∧ s'.2.2 = s.2.2
def smW (a : Nat) : Bool := [164, 166, 167, 176, 177, 178, 179, 183].contains a
/-- what it changes of the model -/
abbrev smF (N m : Nat) (t t' : qS) : Prop := (∀ a, a ≠ 151 → a ≠ 159 → a ≠ 161 → a ≠ 162 → a ≠ 163 → smW a = false → t'.1 a = t.1 a) ∧ (∀ a, smW a = true → ∀ j, j ≠ N → t'.1 a j = t.1 a j) ∧ (∀ j, mvJ j = false → t'.1 151 j = t.1 151 j) ∧ (∀ j, j < m → t'.1 161 j = t.1 161 j ∧ t'.1 162 j = t.1 162 j) ∧ (∀ a, a ≠ 151 → a ≠ 160 → a ≠ 180 → a ≠ 182 → t'.2.1 a = t.2.1 a) ∧ (∀ a, a = 180 ∨ a = 182 → ∀ j, j ≠ N → t'.2.1 a j = t.2.1 a j) ∧ (∀ j, j ≠ 5 → t'.2.1 151 j = t.2.1 151 j) ∧ t'.2.2 = t.2.2
/-- what reading may change at all -/
abbrev wkX (s s' : qS) : Prop := (∀ a, a ≠ 1 → a ≠ 65 → a ≠ 68 → (a < 7 ∨ a = 10 ∨ a = 15 ∨ 35 < a) → s'.1 a = s.1 a) ∧ (∀ j, j ≠ 8 → j ≠ 9 → j ≠ 10 → s'.1 1 j = s.1 1 j) ∧ ((∀ j, j ≠ 3 → s'.1 7 j = s.1 7 j) ∧ ∀ j, j ≠ 12 → s'.1 11 j = s.1 11 j) ∧ (∀ j, j ≠ 11 → j ≠ 12 → j ≠ 13 → j ≠ 14 → s'.1 65 j = s.1 65 j) ∧ (∀ a, a ≠ 1 → a ≠ 67 → (a < 12 ∨ 13 < a) → s'.2.1 a = s.2.1 a) ∧ s'.2.2 = s.2.2
def wmJ (j : Nat) : Bool := [2, 3, 4, 6, 7, 8, 12, 16, 18, 25, 28, 31, 32, 56].contains j
abbrev wkM (t t' : qS) : Prop := (∀ a, a ≠ 151 → (a < 153 ∨ a = 154 ∨ a = 155 ∨ a = 158 ∨ 186 < a) → t'.1 a = t.1 a) ∧ (∀ j, wmJ j = false → t'.1 151 j = t.1 151 j) ∧ (∀ a, a ≠ 151 → (a < 153 ∨ 186 < a) → t'.2.1 a = t.2.1 a) ∧ (∀ j, j ≠ 5 → t'.2.1 151 j = t.2.1 151 j) ∧ t'.2.2 = t.2.2
section LNS
variable {en : pN} {d d' k q bs u n i j m m' N nc nl nt a e c p z l x : Nat} {lw : Bool} {V cl cl' th th' K K' : Nat → Nat} {U U' : Nat → Nat → Nat} {bl bl' : Nat → List Nat} {s s' s'' t t' t'' : qS} {B : Nat → Nat} {f f' : fI} {nn h v : Int32} {w : Int64} {L : List Nat}
theorem lkd_cg : ∀ (L : List Nat) (h : Int32), lkd f nn h L → (∀ a, a ∈ L → f' a = f a) → lkd f' nn h L := by
  intro L
  induction L with
  | nil => intro h g _; exact g
  | cons a L ih =>
    intro h g e
    refine ⟨g.1, ?_⟩
    rw [e a (List.mem_cons_self)]
    exact ih _ g.2 (fun b hb => e b (List.mem_cons_of_mem a hb))
/-- one more at the end -/
theorem lkd_snoc : ∀ (L : List Nat) (h : Int32), lkd f nn h L → L.Nodup → f' N = nn → (∀ a, a ∈ L → L.getLast? ≠ some a → f' a = f a) → (∀ l, L.getLast? = some l → f' l = nI N) → lkd f' nn (if L = [] then nI N else h) (L ++ [N]) := by
  intro L
  induction L with
  | nil =>
    intro h g _ hN _ _
    rw [if_pos rfl]
    exact ⟨rfl, hN⟩
  | cons a L ih =>
    intro h g hd hN he hl
    rw [if_neg (by simp)]
    refine ⟨g.1, ?_⟩
    cases hL : L with
    | nil =>
      subst hL
      rw [hl a (by simp)]
      exact ⟨rfl, hN⟩
    | cons b M =>
      rw [← hL]
      have hlast : (a :: L).getLast? = L.getLast? := by rw [hL, List.getLast?_cons_cons]
      have hna : a ∉ L := (List.nodup_cons.mp hd).1
      have e1 : f' a = f a := he a List.mem_cons_self (fun z => hna (by
        rw [hlast] at z
        exact List.mem_of_getLast? z))
      rw [e1]
      have := ih (f a) g.2 (List.nodup_cons.mp hd).2 hN (fun c hc hc' => he c (List.mem_cons_of_mem a hc) (by rw [hlast]; exact hc')) (fun l h => hl l (by rw [hlast]; exact h))
      rw [if_neg (by rw [hL]; simp)] at this
      exact this
/-! frames -/
theorem stF.rf : stF N m s s := ⟨fun _ _ _ _ _ _ _ _ _ => rfl, fun _ _ _ _ _ => rfl, fun _ _ => rfl, fun _ _ _ _ => rfl, fun _ _ => rfl, fun _ _ => ⟨rfl, rfl⟩, fun _ _ _ _ => rfl, fun _ _ _ _ => rfl, fun _ _ => rfl, rfl⟩
theorem stF.tr (h : stF N m s s') (g : stF N m' s' s'') (hm : m ≤ m') : stF N m s s'' := ⟨fun a h1 h2 h3 h4 h5 h6 h7 h8 => (g.1 a h1 h2 h3 h4 h5 h6 h7 h8).trans (h.1 a h1 h2 h3 h4 h5 h6 h7 h8), fun a h1 h2 j hj => (g.2.1 a h1 h2 j hj).trans (h.2.1 a h1 h2 j hj), fun j hj => (g.2.2.1 j hj).trans (h.2.2.1 j hj), fun j a b c => (g.2.2.2.1 j a b c).trans (h.2.2.2.1 j a b c), fun j a => (g.2.2.2.2.1 j a).trans (h.2.2.2.2.1 j a), fun j hj => ⟨(g.2.2.2.2.2.1 j (by omega)).1.trans (h.2.2.2.2.2.1 j hj).1, (g.2.2.2.2.2.1 j (by omega)).2.trans (h.2.2.2.2.2.1 j hj).2⟩, fun j a b c => (g.2.2.2.2.2.2.1 j a b c).trans (h.2.2.2.2.2.2.1 j a b c), fun a h1 h2 h3 => (g.2.2.2.2.2.2.2.1 a h1 h2 h3).trans (h.2.2.2.2.2.2.2.1 a h1 h2 h3), fun j hj => (g.2.2.2.2.2.2.2.2.1 j hj).trans (h.2.2.2.2.2.2.2.2.1 j hj), g.2.2.2.2.2.2.2.2.2.trans h.2.2.2.2.2.2.2.2.2⟩
theorem stF.rx (h : rxF false 7 m s s') : stF N m s s' := ⟨fun a h1 h2 h3 h4 h5 h6 _ _ => h.1 a h1 (Or.inl h2) h3 h4 h5 h6, fun a h1 h2 j _ => by rw [h.1 a (by omega) (Or.inl (by omega)) (by omega) (by omega) (by omega) (by omega)], fun j _ => by rw [h.1 68 (by decide) (Or.inl (by decide)) (by decide) (by decide) (by decide) (by decide)], h.2.1, h.2.2.1, h.2.2.2.1, h.2.2.2.2.1, fun a h1 h2 _ => h.2.2.2.2.2.1 a h1 (Or.inl h2), fun j _ => by rw [h.2.2.2.2.2.1 67 (by decide) (Or.inl (by decide))], h.2.2.2.2.2.2⟩
theorem stF.ui (ha : 18 ≤ a ∧ a ≤ 27 ∨ a = 68) : stF N m s (uI s a N v) := by
  have e : ∀ c, c ≠ a → (uI s a N v).1 c = s.1 c := fun c hc => uI_ne hc
  have r : ∀ j, j ≠ N → (uI s a N v).1 a j = s.1 a j := fun j hj => by rw [rdU, if_neg (fun z => hj z.2)]
  refine ⟨fun b _ _ _ _ _ _ h7 h8 => e b (by omega), fun b h1 h2 j hj => ?_, fun j hj => ?_, fun j _ _ _ => by rw [e 1 (by omega)], fun j _ => by rw [e 7 (by omega)], fun j _ => ⟨by rw [e 8 (by omega)], by rw [e 9 (by omega)]⟩, fun j _ _ _ => by rw [e 65 (by omega)], fun _ _ _ _ => rfl, fun _ _ => rfl, rfl⟩
  · by_cases z : b = a
    · rw [z]; exact r j hj
    · rw [e b z]
  · by_cases z : 68 = a
    · rw [z]; exact r j hj
    · rw [e 68 z]
theorem stF.uj : stF N m s (uJ s 67 N w) := ⟨fun _ _ _ _ _ _ _ _ _ => rfl, fun _ _ _ _ _ => rfl, fun _ _ => rfl, fun _ _ _ _ => rfl, fun _ _ => rfl, fun _ _ => ⟨rfl, rfl⟩, fun _ _ _ _ => rfl, fun a _ _ h => uJ_ne h, fun j hj => by
  show (if 67 = 67 ∧ j = N then w else s.2.1 67 j) = _
  rw [if_neg (fun z => hj z.2)], rfl⟩
theorem smF.rf : smF N m t t := ⟨fun _ _ _ _ _ _ _ => rfl, fun _ _ _ _ => rfl, fun _ _ => rfl, fun _ _ => ⟨rfl, rfl⟩, fun _ _ _ _ _ => rfl, fun _ _ _ _ => rfl, fun _ _ => rfl, rfl⟩
theorem smF.tr (h : smF N m t t') (g : smF N m' t' t'') (hm : m ≤ m') : smF N m t t'' := ⟨fun a h1 h2 h3 h4 h5 h6 => (g.1 a h1 h2 h3 h4 h5 h6).trans (h.1 a h1 h2 h3 h4 h5 h6), fun a h1 j hj => (g.2.1 a h1 j hj).trans (h.2.1 a h1 j hj), fun j a => (g.2.2.1 j a).trans (h.2.2.1 j a), fun j hj => ⟨(g.2.2.2.1 j (by omega)).1.trans (h.2.2.2.1 j hj).1, (g.2.2.2.1 j (by omega)).2.trans (h.2.2.2.1 j hj).2⟩, fun a h1 h2 h3 h4 => (g.2.2.2.2.1 a h1 h2 h3 h4).trans (h.2.2.2.2.1 a h1 h2 h3 h4), fun a h1 j hj => (g.2.2.2.2.2.1 a h1 j hj).trans (h.2.2.2.2.2.1 a h1 j hj), fun j hj => (g.2.2.2.2.2.2.1 j hj).trans (h.2.2.2.2.2.2.1 j hj), g.2.2.2.2.2.2.2.trans h.2.2.2.2.2.2.2⟩
theorem smW_lt (h : smW a = true) : 164 ≤ a ∧ a ≤ 183 ∧ a ≠ 165 ∧ a ≠ 168 ∧ a ≠ 169 ∧ a ≠ 170 ∧ a ≠ 171 ∧ a ≠ 172 ∧ a ≠ 173 ∧ a ≠ 174 ∧ a ≠ 175 ∧ a ≠ 181 := by
  unfold smW at h
  have := List.contains_iff_mem.mp h
  simp at this
  omega
theorem smF.rm (h : rmF false m t t') : smF N m t t' := ⟨fun a h1 h2 h3 h4 h5 _ => h.1 a h1 (Or.inl h2) h3 h4 h5, fun a h1 j _ => by
  have := smW_lt h1
  rw [h.1 a (by omega) (Or.inl (by omega)) (by omega) (by omega) (by omega)], h.2.1, h.2.2.1, fun a h1 h2 _ _ => h.2.2.2.1 a h1 (Or.inl h2), fun a h1 j _ => by rw [h.2.2.2.1 a (by omega) (Or.inl (by omega))], h.2.2.2.2.1, h.2.2.2.2.2⟩
theorem smF.ui (ha : smW a = true) : smF N m t (uI t a N v) := by
  have hl := smW_lt ha
  have e : ∀ c, c ≠ a → (uI t a N v).1 c = t.1 c := fun c hc => uI_ne hc
  refine ⟨fun b _ _ _ _ _ h7 => e b (fun z => by rw [z, ha] at h7; cases h7), fun b _ j hj => ?_, fun j _ => by rw [e 151 (by omega)], fun j _ => ⟨by rw [e 161 (by omega)], by rw [e 162 (by omega)]⟩, fun _ _ _ _ _ => rfl, fun _ _ _ _ => rfl, fun _ _ => rfl, rfl⟩
  by_cases z : b = a
  · rw [z, rdU, if_neg (fun y => hj y.2)]
  · rw [e b z]
theorem smF.uj (ha : a = 180 ∨ a = 182) : smF N m t (uJ t a N w) := ⟨fun _ _ _ _ _ _ _ => rfl, fun _ _ _ _ => rfl, fun _ _ => rfl, fun _ _ => ⟨rfl, rfl⟩, fun b _ _ h3 h4 => uJ_ne (by omega), fun b _ j hj => by
  show (if b = a ∧ j = N then w else t.2.1 b j) = _
  rw [if_neg (fun z => hj z.2)], fun j _ => by
  show (if 151 = a ∧ j = N then w else t.2.1 151 j) = _
  rw [if_neg (by omega)], rfl⟩
theorem wkX.rf : wkX s s := ⟨fun _ _ _ _ _ => rfl, fun _ _ _ _ => rfl, ⟨fun _ _ => rfl, fun _ _ => rfl⟩, fun _ _ _ _ _ => rfl, fun _ _ _ _ => rfl, rfl⟩
theorem wkX.tr (h : wkX s s') (g : wkX s' s'') : wkX s s'' := ⟨fun a h1 h2 h3 h4 => (g.1 a h1 h2 h3 h4).trans (h.1 a h1 h2 h3 h4), fun j a b c => (g.2.1 j a b c).trans (h.2.1 j a b c), ⟨fun j a => (g.2.2.1.1 j a).trans (h.2.2.1.1 j a), fun j a => (g.2.2.1.2 j a).trans (h.2.2.1.2 j a)⟩, fun j a b c d => (g.2.2.2.1 j a b c d).trans (h.2.2.2.1 j a b c d), fun a h1 h2 h3 => (g.2.2.2.2.1 a h1 h2 h3).trans (h.2.2.2.2.1 a h1 h2 h3), g.2.2.2.2.2.trans h.2.2.2.2.2⟩
theorem wkX.st (h : stF N m s s') : wkX s s' := ⟨fun a h1 h2 h3 h4 => h.1 a h1 (by omega) (by omega) (by omega) (by omega) h2 h3 (by omega), h.2.2.2.1, ⟨h.2.2.2.2.1, fun j _ => by rw [h.1 11 (by decide) (by decide) (by decide) (by decide) (by decide) (by decide) (by decide) (by decide)]⟩, fun j a b c _ => h.2.2.2.2.2.2.1 j a b c, fun a h1 h2 h3 => h.2.2.2.2.2.2.2.1 a h1 (by omega) h2, h.2.2.2.2.2.2.2.2.2⟩
theorem wkX.rx (h : rxF false 7 m s s') : wkX s s' := wkX.st (N := 0) (stF.rx h)
theorem wkM.rf : wkM t t := ⟨fun _ _ _ => rfl, fun _ _ => rfl, fun _ _ _ => rfl, fun _ _ => rfl, rfl⟩
theorem wkM.tr (h : wkM t t') (g : wkM t' t'') : wkM t t'' := ⟨fun a h1 h2 => (g.1 a h1 h2).trans (h.1 a h1 h2), fun j a => (g.2.1 j a).trans (h.2.1 j a), fun a h1 h2 => (g.2.2.1 a h1 h2).trans (h.2.2.1 a h1 h2), fun j a => (g.2.2.2.1 j a).trans (h.2.2.2.1 j a), g.2.2.2.2.trans h.2.2.2.2⟩
theorem wmJ_mv (h : wmJ j = false) : mvJ j = false := by
  cases g : mvJ j
  · rfl
  · exfalso
    unfold mvJ at g
    have := List.contains_iff_mem.mp g
    simp at this
    rcases this with z | z | z | z | z | z | z | z | z <;> (rw [z] at h; cases h)
theorem wkM.sm (h : smF N m t t') : wkM t t' := ⟨fun a h1 h2 => h.1 a h1 (by omega) (by omega) (by omega) (by omega) (by
  cases g : smW a
  · rfl
  · have := smW_lt g; omega), fun j hj => h.2.2.1 j (wmJ_mv hj), fun a h1 h2 => h.2.2.2.2.1 a h1 (by omega) (by omega) (by omega), h.2.2.2.2.2.2.1, h.2.2.2.2.2.2.2⟩
theorem wkM.rm (h : rmF false m t t') : wkM t t' := wkM.sm (N := 0) (smF.rm h)
/-! what stands under frames -/
theorem ndZ_fr (h : ndZ false u s t 7 0 a e) (he : e ≤ m) (f : stF N m s s') (g : smF N m t t') : ndZ false u s' t' 7 0 a e := fun j j1 j2 => by
  obtain ⟨e1, e2⟩ := f.2.2.2.2.2.1 j (by omega)
  obtain ⟨e3, e4⟩ := g.2.2.2.1 (0 + j) (by omega)
  exact nd1_eq (h j j1 j2) e1 e2 e3 e4
theorem exA_fr {A E A' E' : Int32} (h : exA s t u m A E A' E') (hm : m ≤ m') (hm4 : m' ≤ 400) (f : stF N m s s') (g : smF N m t t') : exA s' t' u m' A E A' E' := by
  obtain ⟨a, e, h1, h2, h3 | ⟨h3, h4, h4', h5, h6, h7, h8⟩⟩ := h
  · exact ⟨a, e, h1, h2, Or.inl h3⟩
  · exact ⟨a, e, h1, h2, Or.inr ⟨h3, Nat.le_trans h4 hm, hm4, h5, h6, ndZ_fr h7 h4 f g, gw_ag h8 (fun j _ j2 => f.2.2.2.2.2.1 j (by omega))⟩⟩
theorem lnB_fr (h : lnB s t nc nl nt m cl th i) (hi : i ≠ N) (hm : m ≤ m') (hm4 : m' ≤ 400) (hcl : ∀ w, cl w ≤ cl' w) (f : stF N m s s') (g : smF N m t t') : lnB s' t' nc nl nt m' cl' th i := by
  obtain ⟨k, ⟨h1, h2, h3⟩, ⟨h4, h5, h6⟩, h7, ⟨h8, h9⟩, ⟨h10, h11⟩, h12, ⟨h13, h14⟩, h15, h16, h17, h18, h19, h20⟩ := h
  have x : ∀ a, 18 ≤ a → a ≤ 27 → s'.1 a i = s.1 a i := fun a a1 a2 => f.2.1 a a1 a2 i hi
  have y : ∀ a, smW a = true → t'.1 a i = t.1 a i := fun a a1 => g.2.1 a a1 i hi
  have z : ∀ a, 165 ≤ a → a ≤ 181 → smW a = false → t'.1 a = t.1 a := fun a a1 a2 a3 => g.1 a (by omega) (by omega) (by omega) (by omega) (by omega) a3
  have e35 : s'.1 35 i = s.1 35 i := by rw [f.1 35 (by decide) (by decide) (by decide) (by decide) (by decide) (by decide) (by decide) (Or.inr (by decide))]
  refine ⟨k, ⟨h1, (x 18 (by decide) (by decide)).trans h2, (y 164 rfl).trans h3⟩, ⟨h4, (x 19 (by decide) (by decide)).trans h5, by rw [z 165 (by decide) (by decide) rfl]; exact h6⟩, by rw [y 166 rfl, x 20 (by decide) (by decide)]; exact h7, ⟨by rw [x 20 (by decide) (by decide)]; exact h8, by rw [x 20 (by decide) (by decide)]; exact h9⟩, ⟨by rw [y 167 rfl, x 21 (by decide) (by decide)]; exact h10, ?_⟩, by rw [z 168 (by decide) (by decide) rfl, x 22 (by decide) (by decide)]; exact h12, ⟨e35.trans h13, by rw [z 175 (by decide) (by decide) rfl]; exact h14⟩, ?_, ?_, ?_, ?_, ?_, ?_⟩
  · rw [x 21 (by decide) (by decide)]
    rcases h11 with h11 | ⟨j, h11, h11'⟩
    · exact Or.inl h11
    · exact Or.inr ⟨j, Nat.lt_of_lt_of_le h11 (hcl _), h11'⟩
  · rw [x 23 (by decide) (by decide), x 24 (by decide) (by decide), y 176 rfl, y 177 rfl]; exact exA_fr h15 hm hm4 f g
  · rw [x 25 (by decide) (by decide), x 26 (by decide) (by decide), y 178 rfl, y 179 rfl]; exact exA_fr h16 hm hm4 f g
  · rw [x 23 (by decide) (by decide), x 24 (by decide) (by decide)]; exact h17
  · rw [x 25 (by decide) (by decide), x 26 (by decide) (by decide)]; exact h18
  · rw [x 27 (by decide) (by decide), g.2.2.2.2.2.1 180 (Or.inl rfl) i hi]; exact h19
  · rw [f.2.2.1 i hi, f.2.2.2.2.2.2.2.2.1 i hi, g.2.2.2.2.2.1 182 (Or.inr rfl) i hi, y 183 rfl]; exact h20
theorem lnG_fr (h : lnG s t nt N K th bl) (f : stF z m s s') (hz : N ≤ z) (g : smF z m t t') : lnG s' t' nt N K th bl := by
  have x : ∀ a, a = 16 ∨ a = 28 ∨ a = 29 ∨ a = 30 ∨ a = 31 ∨ a = 32 → s'.1 a = s.1 a := fun a ha => f.1 a (by omega) (by omega) (by omega) (by omega) (by omega) (by omega) (by omega) (by omega)
  have y : ∀ a, 169 ≤ a → a ≤ 181 → smW a = false → t'.1 a = t.1 a := fun a a1 a2 a3 => g.1 a (by omega) (by omega) (by omega) (by omega) (by omega) a3
  obtain ⟨h1, h3, h4, h5, h6⟩ := h
  unfold lnG
  rw [x 16 (by decide), x 28 (by decide), x 31 (by decide), x 32 (by decide), y 171 (by decide) (by decide) rfl, y 181 (by decide) (by decide) rfl, y 172 (by decide) (by decide) rfl, y 173 (by decide) (by decide) rfl, x 29 (by decide), x 30 (by decide), y 169 (by decide) (by decide) rfl, y 170 (by decide) (by decide) rfl]
  refine ⟨h1, h3, h4, h5, fun i hi => ?_⟩
  obtain ⟨⟨g1, g2⟩, g3⟩ := h6 i hi
  exact ⟨⟨g1, by rw [f.2.1 19 (by decide) (by decide) i (by omega)]; exact g2⟩, g3⟩
/-! single places -/
theorem exS_ui (h : exS false 7 0 u B n s t V U cl nc nl nt i m) (ha : 15 ≤ a ∧ a ≤ 35 ∨ a = 68) : exS false 7 0 u B n (uI s a j v) t V U cl nc nl nt i m := by
  obtain ⟨h1, h2, ⟨h3, h3'⟩, ⟨h4, h5⟩, ⟨h6, h7⟩, h8, h9⟩ := h
  have e : ∀ c, c ≠ a → (uI s a j v).1 c = s.1 c := fun c hc => uI_ne hc
  have e65 := e 65 (by omega)
  obtain ⟨n1, ⟨s9, s10, s11⟩, n3, n4, n5, n6⟩ := h2
  have e11 := e 11 (by omega)
  refine ⟨⟨cL_fr h1.1 (fun _ _ => by rw [e 1 (by omega)]) (e 4 (by omega)) (e 5 (by omega)) rfl rfl rfl (fun _ _ => by rw [e65]), h1.2⟩, ⟨n1, ⟨by rw [e11]; exact s9, by rw [e11]; exact s10, by rw [e11]; exact s11⟩, n3, n4, n5, by rw [e 14 (by omega)]; exact n6⟩, ⟨by rw [e65]; exact h3, h3'⟩, ⟨h4, by rw [e65]; exact h5⟩, ⟨by rw [e65]; exact h6, h7⟩, by rw [e 7 (by omega)]; exact h8, h9⟩
theorem exS_uj (h : exS false 7 0 u B n s t V U cl nc nl nt i m) : exS false 7 0 u B n (uJ s 67 j w) t V U cl nc nl nt i m := by
  obtain ⟨h1, h2, h3, h4, h6, h8⟩ := h
  have e : ∀ c, c ≠ 67 → (uJ s 67 j w).2.1 c = s.2.1 c := fun c hc => uJ_ne hc
  obtain ⟨n1, n2, n3, ⟨n4, n4'⟩, n5, n6⟩ := h2
  refine ⟨⟨cL_fr h1.1 (fun _ _ => rfl) rfl rfl (by rw [e 1 (by decide)]) (e 3 (by decide)) (e 6 (by decide)) (fun _ _ => rfl), h1.2⟩, ⟨n1, n2, n3, ⟨by rw [e 12 (by decide)]; exact n4, n4'⟩, n5, by rw [e 13 (by decide)]; exact n6⟩, h3, h4, h6, h8⟩
theorem exS_mi (h : exS false 7 0 u B n s t V U cl nc nl nt i m) (ha : 164 ≤ a) : exS false 7 0 u B n s (uI t a j v) V U cl nc nl nt i m := by
  obtain ⟨h1, h2, ⟨h3, h3'⟩, h4, ⟨h6, h7, h7'⟩, h8, h9⟩ := h
  have e : ∀ c, c ≠ a → (uI t a j v).1 c = t.1 c := fun c hc => uI_ne hc
  have e151 := e 151 (by omega)
  obtain ⟨n1, n2, ⟨t12, t16, t18⟩, n4, n5, n6⟩ := h2
  refine ⟨⟨h1.1, mtL_fr h1.2 (fun _ _ => by rw [e151]) (e 152 (by omega)) rfl⟩, ⟨n1, n2, ⟨by rw [e151]; exact t12, by rw [e151]; exact t16, by rw [e151]; exact t18⟩, n4, n5, by rw [e 159 (by omega)]; exact n6⟩, ⟨h3, by rw [e151]; exact h3'⟩, h4, ⟨h6, by rw [e151]; exact h7, h7'⟩, h8, by rw [e151]; exact h9⟩
theorem exS_mj (h : exS false 7 0 u B n s t V U cl nc nl nt i m) (ha : 164 ≤ a) : exS false 7 0 u B n s (uJ t a j w) V U cl nc nl nt i m := by
  obtain ⟨h1, h2, h3, h4, h6, h8⟩ := h
  have e : ∀ c, c ≠ a → (uJ t a j w).2.1 c = t.2.1 c := fun c hc => uJ_ne hc
  obtain ⟨n1, n2, n3, n4, ⟨w1, w2, w3⟩, n6⟩ := h2
  refine ⟨⟨h1.1, mtL_fr h1.2 (fun _ _ => rfl) rfl (by rw [e 151 (by omega)])⟩, ⟨n1, n2, n3, n4, ⟨by rw [e 153 (by omega)]; exact w1, by rw [e 156 (by omega)]; exact w2, by rw [e 157 (by omega)]; exact w3⟩, by rw [e 160 (by omega)]; exact n6⟩, h3, h4, h6, h8⟩
/-- fields 32 and 56 of the model -/
theorem exS_mf (h : exS false 7 0 u B n s t V U cl nc nl nt i m) (hj : j = 32 ∨ j = 56) : exS false 7 0 u B n s (uI t 151 j v) V U cl nc nl nt i m := by
  obtain ⟨h1, h2, ⟨h3, h3'⟩, h4, ⟨h6, h7, h7'⟩, h8, h9⟩ := h
  have e : ∀ c, c ≠ j → (uI t 151 j v).1 151 c = t.1 151 c := fun c hc => by rw [rdU, if_neg (fun z => hc z.2)]
  have e' : ∀ c, c ≠ 151 → (uI t 151 j v).1 c = t.1 c := fun c hc => uI_ne hc
  obtain ⟨n1, n2, ⟨t12, t16, t18⟩, n4, n5, n6⟩ := h2
  refine ⟨⟨h1.1, mtL_fr h1.2 (fun c hc => e c (by omega)) (e' 152 (by decide)) rfl⟩, ⟨n1, n2, ⟨by rw [e 12 (by omega)]; exact t12, by rw [e 16 (by omega)]; exact t16, by rw [e 18 (by omega)]; exact t18⟩, n4, n5, by rw [e' 159 (by decide)]; exact n6⟩, ⟨h3, by rw [e 29 (by omega)]; exact h3'⟩, h4, ⟨h6, by rw [e 28 (by omega)]; exact h7, h7'⟩, h8, by rw [e 25 (by omega)]; exact h9⟩
/-- field 12 of the class's program -/
theorem exS_xf (h : exS false 7 0 u B n s t V U cl nc nl nt i m) : exS false 7 0 u B n (uI s 11 12 v) t V U cl nc nl nt i m := by
  obtain ⟨h1, h2, h3, h4, h6, h8⟩ := h
  obtain ⟨n1, ⟨s9, s10, s11⟩, n3, n4, n5, n6⟩ := h2
  have e : ∀ c, c ≠ 11 → (uI s 11 12 v).1 c = s.1 c := fun c hc => uI_ne hc
  exact ⟨⟨cL_fr h1.1 (fun _ _ => by rw [e 1 (by decide)]) (e 4 (by decide)) (e 5 (by decide)) rfl rfl rfl (fun _ _ => by rw [e 65 (by decide)]), h1.2⟩, ⟨n1, ⟨by rw [rdU, if_neg (by decide)]; exact s9, by rw [rdU, if_neg (by decide)]; exact s10, by rw [rdU, if_neg (by decide)]; exact s11⟩, n3, n4, n5, by rw [e 14 (by decide)]; exact n6⟩, by rw [e 65 (by decide)]; exact h3, by rw [e 65 (by decide)]; exact h4, by rw [e 65 (by decide)]; exact h6, by rw [e 7 (by decide)]; exact h8⟩
end LNS
