/-! THE READER, the class's own: lines in their blocks. -/
/-- a link of the class's program that is read -/
def pt1 (s : qS) (lo : Option Nat) (key : Nat) (z : Int32) : qS := uI s (lkA 16 28 31 32 key lo).1 (lkA 16 28 31 32 key lo).2 z
/-- the lines' tree: blocks bl, line i in block Km i of thread tm i -/
abbrev TRs (s : qS) (nt L : Nat) (bl : Nat → List Nat) (Km tm : Nat → Nat) : Prop :=
  (∀ k, kyV nt L k → lkd (s.1 28) (-1) (hdK (s.1 16) (s.1 31) (s.1 32) k) (bl k)) ∧ (∀ k i, i ∈ bl k → i < L ∧ Km i = k) ∧ (∀ i, i < L → i ∈ bl (Km i)) ∧ (∀ k, (bl k).Nodup) ∧
  (∀ i, i < L → (tm i < nt ∧ s.1 19 i = nI (tm i)) ∧ ((Km i = tm i ∧ s.1 29 i = -1) ∨ ∃ p b : Nat, p < i ∧ b < 2 ∧ Km i = 4 + 2 * p + b ∧ s.1 29 i = nI p ∧ tm p = tm i ∧ s.1 30 i = nI b) ∧ s.1 35 i = 0) ∧ ∀ p, p < L → bl (5 + 2 * p) ≠ [] → s.1 18 p = 17
section PTO
variable {en : pN} {d k i j L N nt th key a p : Nat} {bl : Nat → List Nat} {Km tm : Nat → Nat} {s s' : qS} {z u pa pt lv : Int32} {lo : Option Nat}
theorem pt1_nx : (pt1 s lo key z).1 28 a = if lo = some a then z else s.1 28 a := by
  unfold pt1 lkA
  cases lo with
  | some l =>
    dsimp only
    rw [rdU]
    by_cases q : a = l
    · rw [if_pos ⟨rfl, q⟩, if_pos (by rw [q])]
    · rw [if_neg (fun y => q y.2), if_neg (fun y => q (by injection y with y; exact y.symm))]
  | none =>
    dsimp only
    rw [if_neg (show ¬ (none : Option Nat) = some a from fun y => by cases y)]
    by_cases q : key < 4
    · rw [if_pos q]
      show (uI s 16 key z).1 28 a = _
      rw [uI_ne (by decide)]
    · rw [if_neg q]
      by_cases q2 : (key - 4) % 2 = 0
      · rw [if_pos q2]
        show (uI s 31 _ z).1 28 a = _
        rw [uI_ne (by decide)]
      · rw [if_neg q2]
        show (uI s 32 _ z).1 28 a = _
        rw [uI_ne (by decide)]
theorem pt1_hd : hdK ((pt1 s lo key z).1 16) ((pt1 s lo key z).1 31) ((pt1 s lo key z).1 32) k = if lo = none ∧ k = key then z else hdK (s.1 16) (s.1 31) (s.1 32) k := by
  unfold pt1 lkA
  cases lo with
  | some l =>
    dsimp only
    rw [uI_ne (show 16 ≠ 28 by decide), uI_ne (show 31 ≠ 28 by decide), uI_ne (show 32 ≠ 28 by decide), if_neg (fun y => by cases y.1)]
  | none =>
    dsimp only
    unfold hdK
    by_cases q : key < 4
    · rw [if_pos q]
      dsimp only
      rw [uI_ne (show 31 ≠ 16 by decide), uI_ne (show 32 ≠ 16 by decide), rdU]
      by_cases q1 : k = key
      · rw [if_pos (⟨rfl, q1⟩ : (none : Option Nat) = none ∧ k = key), if_pos (by omega), if_pos ⟨rfl, q1⟩]
      · rw [if_neg (show ¬ ((none : Option Nat) = none ∧ k = key) from fun y => q1 y.2)]
        by_cases q3 : k < 4
        · rw [if_pos q3, if_pos q3, if_neg (fun y => q1 y.2)]
        · rw [if_neg q3, if_neg q3]
    · rw [if_neg q]
      by_cases q2 : (key - 4) % 2 = 0
      · rw [if_pos q2]
        dsimp only
        rw [uI_ne (show 16 ≠ 31 by decide), uI_ne (show 32 ≠ 31 by decide), rdU]
        by_cases q1 : k = key
        · rw [if_pos (⟨rfl, q1⟩ : (none : Option Nat) = none ∧ k = key), if_neg (by omega), if_pos (by rw [q1]; exact q2), if_pos ⟨rfl, by rw [q1]⟩]
        · rw [if_neg (show ¬ ((none : Option Nat) = none ∧ k = key) from fun y => q1 y.2)]
          by_cases q3 : k < 4
          · rw [if_pos q3, if_pos q3]
          · rw [if_neg q3, if_neg q3]
            by_cases q4 : (k - 4) % 2 = 0
            · rw [if_pos q4, if_pos q4, if_neg (fun y => q1 (by have := y.2; omega))]
            · rw [if_neg q4, if_neg q4]
      · rw [if_neg q2]
        dsimp only
        rw [uI_ne (show 16 ≠ 32 by decide), uI_ne (show 31 ≠ 32 by decide), rdU]
        by_cases q1 : k = key
        · rw [if_pos (⟨rfl, q1⟩ : (none : Option Nat) = none ∧ k = key), if_neg (by omega), if_neg (by rw [q1]; exact q2), if_pos ⟨rfl, by rw [q1]⟩]
        · rw [if_neg (show ¬ ((none : Option Nat) = none ∧ k = key) from fun y => q1 y.2)]
          by_cases q3 : k < 4
          · rw [if_pos q3, if_pos q3]
          · rw [if_neg q3, if_neg q3]
            by_cases q4 : (k - 4) % 2 = 0
            · rw [if_pos q4, if_pos q4]
            · rw [if_neg q4, if_neg q4, if_neg (fun y => q1 (by have := y.2; omega))]
theorem pt1_o (h1 : a ≠ 16) (h2 : a ≠ 28) (h3 : a ≠ 31) (h4 : a ≠ 32) : (pt1 s lo key z).1 a = s.1 a := by
  unfold pt1
  have := lkA_r (key := key) (lo := lo) (q16 := 16) (q28 := 28) (q31 := 31) (q32 := 32)
  exact uI_ne (by omega)
theorem naS_r {a : Nat} (h : a ≠ 11 ∨ j ≠ 12) (h' : a < 18 ∨ 36 ≤ a ∨ j ≠ N) : (naS s N u pa pt lv).1 a j = s.1 a j := by
  show (if a = 11 ∧ j = 12 then nI (N + 1) else if 18 ≤ a ∧ a < 36 ∧ j = N then naV u pa pt lv a else s.1 a j) = _
  rw [if_neg (by omega), if_neg (by omega)]
theorem naS_N {a : Nat} (h : 18 ≤ a ∧ a < 36) : (naS s N u pa pt lv).1 a N = naV u pa pt lv a := by
  show (if a = 11 ∧ N = 12 then nI (N + 1) else if 18 ≤ a ∧ a < 36 ∧ N = N then naV u pa pt lv a else s.1 a N) = _
  rw [if_neg (by omega), if_pos ⟨h.1, h.2, rfl⟩]
theorem naS_hd (hk : kyV nt N k) (hnt : nt ≤ 4) : hdK ((naS s N u pa pt lv).1 16) ((naS s N u pa pt lv).1 31) ((naS s N u pa pt lv).1 32) k = hdK (s.1 16) (s.1 31) (s.1 32) k := by
  unfold hdK
  by_cases q : k < 4
  · rw [if_pos q, if_pos q]; exact naS_r (by omega) (by omega)
  · have : (k - 4) / 2 < N := by
      unfold kyV at hk; omega
    rw [if_neg q, if_neg q]
    by_cases q2 : (k - 4) % 2 = 0
    · rw [if_pos q2, if_pos q2]; exact naS_r (by omega) (by omega)
    · rw [if_neg q2, if_neg q2]; exact naS_r (by omega) (by omega)
theorem naS_hN (hk : k = 4 + 2 * N ∨ k = 5 + 2 * N) : hdK ((naS s N u pa pt lv).1 16) ((naS s N u pa pt lv).1 31) ((naS s N u pa pt lv).1 32) k = -1 := by
  unfold hdK
  rw [if_neg (by omega)]
  rcases hk with rfl | rfl
  · rw [if_pos (by omega), show (4 + 2 * N - 4) / 2 = N by omega, naS_N (by decide)]; rfl
  · rw [if_neg (by omega), show (5 + 2 * N - 4) / 2 = N by omega, naS_N (by decide)]; rfl
theorem TRs_no (h : TRs s nt L bl Km tm) (hnt : nt ≤ 4) (hk : k = 4 + 2 * L ∨ k = 5 + 2 * L) : bl k = [] := by
  rcases hl : bl k with _ | ⟨a, C⟩
  · rfl
  · exfalso
    obtain ⟨a1, a2⟩ := h.2.1 k a (by rw [hl]; exact List.mem_cons_self)
    obtain ⟨⟨t1, -⟩, h5, -⟩ := h.2.2.2.2.1 a a1
    rcases h5 with ⟨h5, -⟩ | ⟨p, b, p1, b1, h5, -⟩ <;> omega
/-- a block of thread th, to which a line may come -/
abbrev keyB (tm : Nat → Nat) (th L key : Nat) (pa pt : Int32) : Prop := (key = th ∧ pa = -1) ∨ ∃ p b : Nat, p < L ∧ b < 2 ∧ key = 4 + 2 * p + b ∧ pa = nI p ∧ pt = nI b ∧ tm p = th
/-- one line more -/
theorem TRs_add (h : TRs s nt L bl Km tm) (hth : th < nt) (hnt : nt ≤ 4) (hL : L < 100) (hk : keyB tm th L key pa pt) (h17 : ∀ p, key = 5 + 2 * p → s.1 18 p = 17) : TRs (pt1 (naS s L (nI th) pa pt lv) (bl key).getLast? key (nI L)) nt (L + 1) (at1 bl key (bl key ++ [L])) (at1 Km L key) (at1 tm L th) := by
  have hky : kyV nt L key := by
    unfold kyV
    rcases hk with ⟨rfl, -⟩ | ⟨p, b, p1, b1, rfl, -⟩
    · exact Or.inl hth
    · right; omega
  have lo_lt : ∀ l, (bl key).getLast? = some l → l < L := fun l hl => (h.2.1 key l (List.mem_of_getLast? hl)).1
  have nL : L ∉ bl key := fun z => by have := (h.2.1 key L z).1; omega
  refine ⟨lk_add h.1 h.2.1 h.2.2.2.1 ?_ ?_ ?_ ?_ ?_ ?_ hky, fun k i hi => ?_, fun i hi => ?_, fun k => ?_, fun i hi => ?_, fun p hp hne => ?_⟩
  · rw [pt1_nx, if_neg (fun z => by have := lo_lt L z; omega), naS_N (by decide)]; rfl
  · intro a ha hn
    rw [pt1_nx, if_neg hn, naS_r (by omega) (by omega)]
  · intro l hl
    rw [pt1_nx, if_pos hl]
  · intro k hk' hn
    rw [pt1_hd, if_neg (fun z => hn ⟨z.2, List.getLast?_eq_none_iff.mp z.1⟩), naS_hd hk' hnt]
  · intro h0
    rw [pt1_hd, if_pos ⟨by rw [h0]; rfl, rfl⟩]
  · intro k hk'
    have hkk : k ≠ key := by
      unfold kyV at hky; omega
    rw [pt1_hd, if_neg (fun z => hkk z.2), naS_hN hk']
    exact ⟨rfl, TRs_no h hnt hk', hkk⟩
  · by_cases g : k = key
    · subst g
      rw [at1_s] at hi
      rcases List.mem_append.mp hi with hi | hi
      · obtain ⟨a1, a2⟩ := h.2.1 k i hi
        exact ⟨by omega, by rw [at1_n (by omega)]; exact a2⟩
      · obtain rfl := List.mem_singleton.mp hi
        exact ⟨by omega, at1_s⟩
    · rw [at1_n g] at hi
      obtain ⟨a1, a2⟩ := h.2.1 k i hi
      exact ⟨by omega, by rw [at1_n (by omega)]; exact a2⟩
  · by_cases q : i = L
    · subst q
      rw [at1_s, at1_s]
      exact List.mem_append_right _ (List.mem_singleton.mpr rfl)
    · rw [at1_n q]
      by_cases g : Km i = key
      · rw [g, at1_s]
        exact List.mem_append_left _ (by rw [← g]; exact h.2.2.1 i (by omega))
      · rw [at1_n g]; exact h.2.2.1 i (by omega)
  · by_cases g : k = key
    · subst g
      rw [at1_s]
      exact List.nodup_append.mpr ⟨h.2.2.2.1 k, List.nodup_cons.mpr ⟨List.not_mem_nil, List.nodup_nil⟩, fun a ha b hb => by
        obtain rfl := List.mem_singleton.mp hb
        exact fun z => nL (z ▸ ha)⟩
    · rw [at1_n g]; exact h.2.2.2.1 k
  · rw [pt1_o (by decide) (by decide) (by decide) (by decide), pt1_o (by decide) (by decide) (by decide) (by decide), pt1_o (by decide) (by decide) (by decide) (by decide), pt1_o (by decide) (by decide) (by decide) (by decide)]
    by_cases q : i = L
    · subst q
      rw [at1_s, at1_s, naS_N (by decide), naS_N (by decide), naS_N (by decide), naS_N (by decide)]
      refine ⟨⟨hth, rfl⟩, ?_, rfl⟩
      rcases hk with ⟨a1, a2⟩ | ⟨p, b, p1, b1, a1, a2, a3, a4⟩
      · exact Or.inl ⟨a1, a2⟩
      · exact Or.inr ⟨p, b, p1, b1, a1, a2, by rw [at1_n (by omega)]; exact a4, a3⟩
    · rw [at1_n q, at1_n q, naS_r (by omega) (by omega), naS_r (by omega) (by omega), naS_r (by omega) (by omega), naS_r (by omega) (by omega)]
      obtain ⟨⟨t1, t2⟩, h5, h6⟩ := h.2.2.2.2.1 i (by omega)
      refine ⟨⟨t1, t2⟩, ?_, h6⟩
      rcases h5 with h5 | ⟨p, b, p1, b1, a1, a2, a3, a4⟩
      · exact Or.inl h5
      · exact Or.inr ⟨p, b, p1, b1, a1, a2, by rw [at1_n (by omega)]; exact a3, a4⟩
  · rw [pt1_o (by decide) (by decide) (by decide) (by decide)]
    by_cases q : 5 + 2 * p = key
    · rw [naS_r (by omega) (by
        rcases hk with ⟨a1, a2⟩ | ⟨p', b, p1, b1, a1, -⟩ <;> omega)]
      exact h17 p q.symm
    · rw [at1_n q] at hne
      have hpL : p ≠ L := fun z => hne (by rw [z]; exact TRs_no h hnt (Or.inr rfl))
      rw [naS_r (by omega) (by omega)]
      exact h.2.2.2.2.2 p (by omega) hne
/-- what the tree hangs on -/
theorem TRs_cg (h : TRs s nt L bl Km tm) (hnt : nt ≤ 4) (h1 : ∀ u, u < 4 → s'.1 16 u = s.1 16 u) (h2 : ∀ a, a = 19 ∨ (28 ≤ a ∧ a ≤ 32) ∨ a = 35 → ∀ i, i < L → s'.1 a i = s.1 a i) (h3 : ∀ p, p < L → bl (5 + 2 * p) ≠ [] → s'.1 18 p = s.1 18 p) : TRs s' nt L bl Km tm := by
  refine ⟨fun k hk => ?_, h.2.1, h.2.2.1, h.2.2.2.1, fun i hi => ?_, fun p hp hn => (h3 p hp hn).trans (h.2.2.2.2.2 p hp hn)⟩
  · rw [hdK_cg (f := s.1 16) (g := s.1 31) (h2 := s.1 32) (fun u hu => h1 u (by omega)) (fun i hi => h2 31 (by decide) i hi) (fun i hi => h2 32 (by decide) i hi) hk hnt]
    exact lkd_cg _ _ (h.1 k hk) (fun a ha => h2 28 (by decide) a (h.2.1 k a ha).1)
  · rw [h2 19 (by decide) i hi, h2 29 (by decide) i hi, h2 30 (by decide) i hi, h2 35 (by decide) i hi]
    exact h.2.2.2.2.1 i hi
end PTO
