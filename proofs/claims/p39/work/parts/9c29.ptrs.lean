/-! REWRITINGS: the tree of the rewritten program, what stands before a line, one link more. -/
/-- the tree of the rewritten program on both sides; go: lines that are left out -/
abbrev TG (s t : qS) (nt N : Nat) (K th : Nat → Nat) (bl : Nat → List Nat) (go : Nat → Bool) : Prop :=
  (∀ k, kyV nt N k → lkd (s.1 53) (-1) (hdK (s.1 41) (s.1 56) (s.1 57) k) (bl k) ∧ lkd (fun j => t.1 171 (100 + j)) (-2) (hdK (fun j => t.1 181 (4 + j)) (fun j => t.1 172 (100 + j)) (fun j => t.1 173 (100 + j)) k) (bl k)) ∧
  (∀ k i, i ∈ bl k → i < N ∧ K i = k ∧ go i = false) ∧ (∀ i, i < N → go i = false → i ∈ bl (K i)) ∧ (∀ k, (bl k).Nodup) ∧
  (∀ i, i < N → (th i < nt ∧ s.1 44 i = nI (th i) ∧ t.1 165 (100 + i) = nI (th i)) ∧ ((K i = th i ∧ s.1 54 i = -1 ∧ t.1 169 (100 + i) = -2) ∨ ∃ p b : Nat, p < i ∧ b < 2 ∧ K i = 4 + 2 * p + b ∧ s.1 54 i = nI p ∧ t.1 169 (100 + i) = nI p ∧ th p = th i ∧ s.1 55 i = nI b ∧ t.1 170 (100 + i) = nI b)) ∧
  (∀ i, i < N → s.1 60 i = bt (go i) ∧ t.1 175 (100 + i) = bt (go i) ∧ (go i = true → s.1 53 i = -1 ∧ t.1 171 (100 + i) = -2)) ∧
  ∀ p, p < N → bl (5 + 2 * p) ≠ [] → t.1 164 (100 + p) = 17
def lstX (A : List Nat) (v : Int32) : Int32 := match A.getLast? with
  | some l => nI l
  | none => v
def loV (lo : Option Nat) (v : Int32) : Int32 := match lo with
  | some l => nI l
  | none => v
/-- a link of the class, of the model -/
def ptX (s : qS) (lo : Option Nat) (key : Nat) (z : Int32) : qS := uI s (lkA 41 53 56 57 key lo).1 (lkA 41 53 56 57 key lo).2 z
def ptM (t : qS) (lo : Option Nat) (key : Nat) (z : Int32) : qS := match lo with
  | some l => uI t 171 (100 + l) z
  | none => if key < 4 then uI t 181 (4 + key) z else if (key - 4) % 2 = 0 then uI t 172 (100 + (key - 4) / 2) z else uI t 173 (100 + (key - 4) / 2) z
section PTR
variable {en : pN} {d d' k i n N j r v u m nc nl nt key a : Nat} {th K : Nat → Nat} {bl : Nat → List Nat} {go : Nat → Bool} {s s' t t' : qS} {A C : List Nat} {z : Int32} {lo : Option Nat} {nn h : Int32}
theorem lstX_cons {v : Int32} : lstX (a :: A) v = lstX A (nI a) := by
  unfold lstX
  cases A with
  | nil => rfl
  | cons b A =>
    rw [List.getLast?_cons_cons]
    cases hq : (b :: A).getLast? with
    | none => exact absurd (List.getLast?_eq_none_iff.mp hq) (by simp)
    | some l => rfl
theorem ptX_nx : (ptX s lo key z).1 53 a = if lo = some a then z else s.1 53 a := by
  unfold ptX lkA
  cases lo with
  | some l =>
    dsimp only
    rw [rdU]
    by_cases q : a = l
    · rw [if_pos ⟨rfl, q⟩, if_pos (by rw [q])]
    · rw [if_neg (fun y => q y.2), if_neg (fun y => q (by injection y with y; exact y.symm))]
  | none =>
    dsimp only
    rw [if_neg (show ¬ (none : Option Nat) = some a from fun y => by cases y)]
    by_cases q : key < 4
    · rw [if_pos q]
      show (uI s 41 key z).1 53 a = _
      rw [uI_ne (by decide)]
    · rw [if_neg q]
      by_cases q2 : (key - 4) % 2 = 0
      · rw [if_pos q2]
        show (uI s 56 _ z).1 53 a = _
        rw [uI_ne (by decide)]
      · rw [if_neg q2]
        show (uI s 57 _ z).1 53 a = _
        rw [uI_ne (by decide)]
theorem ptX_hd : hdK ((ptX s lo key z).1 41) ((ptX s lo key z).1 56) ((ptX s lo key z).1 57) k = if lo = none ∧ k = key then z else hdK (s.1 41) (s.1 56) (s.1 57) k := by
  unfold ptX lkA
  cases lo with
  | some l =>
    dsimp only
    rw [uI_ne (show 41 ≠ 53 by decide), uI_ne (show 56 ≠ 53 by decide), uI_ne (show 57 ≠ 53 by decide), if_neg (fun y => by cases y.1)]
  | none =>
    dsimp only
    unfold hdK
    by_cases q : key < 4
    · rw [if_pos q]
      dsimp only
      rw [uI_ne (show 56 ≠ 41 by decide), uI_ne (show 57 ≠ 41 by decide), rdU]
      by_cases q1 : k = key
      · rw [if_pos (⟨rfl, q1⟩ : (none : Option Nat) = none ∧ k = key), if_pos (by omega), if_pos ⟨rfl, q1⟩]
      · rw [if_neg (show ¬ ((none : Option Nat) = none ∧ k = key) from fun y => q1 y.2)]
        by_cases q3 : k < 4
        · rw [if_pos q3, if_pos q3, if_neg (fun y => q1 y.2)]
        · rw [if_neg q3, if_neg q3]
    · rw [if_neg q]
      by_cases q2 : (key - 4) % 2 = 0
      · rw [if_pos q2]
        dsimp only
        rw [uI_ne (show 41 ≠ 56 by decide), uI_ne (show 57 ≠ 56 by decide), rdU]
        by_cases q1 : k = key
        · rw [if_pos (⟨rfl, q1⟩ : (none : Option Nat) = none ∧ k = key), if_neg (by omega), if_pos (by rw [q1]; exact q2), if_pos ⟨rfl, by rw [q1]⟩]
        · rw [if_neg (show ¬ ((none : Option Nat) = none ∧ k = key) from fun y => q1 y.2)]
          by_cases q3 : k < 4
          · rw [if_pos q3, if_pos q3]
          · rw [if_neg q3, if_neg q3]
            by_cases q4 : (k - 4) % 2 = 0
            · rw [if_pos q4, if_pos q4, if_neg (fun y => q1 (by have := y.2; omega))]
            · rw [if_neg q4, if_neg q4]
      · rw [if_neg q2]
        dsimp only
        rw [uI_ne (show 41 ≠ 57 by decide), uI_ne (show 56 ≠ 57 by decide), rdU]
        by_cases q1 : k = key
        · rw [if_pos (⟨rfl, q1⟩ : (none : Option Nat) = none ∧ k = key), if_neg (by omega), if_neg (by rw [q1]; exact q2), if_pos ⟨rfl, by rw [q1]⟩]
        · rw [if_neg (show ¬ ((none : Option Nat) = none ∧ k = key) from fun y => q1 y.2)]
          by_cases q3 : k < 4
          · rw [if_pos q3, if_pos q3]
          · rw [if_neg q3, if_neg q3]
            by_cases q4 : (k - 4) % 2 = 0
            · rw [if_pos q4, if_pos q4]
            · rw [if_neg q4, if_neg q4, if_neg (fun y => q1 (by have := y.2; omega))]
theorem ptX_o (h1 : a ≠ 41) (h2 : a ≠ 53) (h3 : a ≠ 56) (h4 : a ≠ 57) : (ptX s lo key z).1 a = s.1 a := by
  unfold ptX
  have := lkA_r (key := key) (lo := lo) (q16 := 41) (q28 := 53) (q31 := 56) (q32 := 57)
  exact uI_ne (by omega)
theorem ptX_2 : (ptX s lo key z).2 = s.2 := rfl
theorem ptM_nx : (ptM t lo key z).1 171 (100 + a) = if lo = some a then z else t.1 171 (100 + a) := by
  unfold ptM
  cases lo with
  | some l =>
    dsimp only
    rw [rdU]
    by_cases q : a = l
    · rw [if_pos ⟨rfl, by rw [q]⟩, if_pos (by rw [q])]
    · rw [if_neg (fun y => q (by have := y.2; omega)), if_neg (fun y => q (by injection y with y; exact y.symm))]
  | none =>
    dsimp only
    rw [if_neg (show ¬ (none : Option Nat) = some a from fun y => by cases y)]
    by_cases q : key < 4
    · rw [if_pos q, uI_ne (by decide)]
    · rw [if_neg q]
      by_cases q2 : (key - 4) % 2 = 0
      · rw [if_pos q2, uI_ne (by decide)]
      · rw [if_neg q2, uI_ne (by decide)]
theorem ptM_hd : hdK (fun j => (ptM t lo key z).1 181 (4 + j)) (fun j => (ptM t lo key z).1 172 (100 + j)) (fun j => (ptM t lo key z).1 173 (100 + j)) k = if lo = none ∧ k = key then z else hdK (fun j => t.1 181 (4 + j)) (fun j => t.1 172 (100 + j)) (fun j => t.1 173 (100 + j)) k := by
  unfold ptM
  cases lo with
  | some l =>
    dsimp only
    rw [uI_ne (show 181 ≠ 171 by decide), uI_ne (show 172 ≠ 171 by decide), uI_ne (show 173 ≠ 171 by decide), if_neg (fun y => by cases y.1)]
  | none =>
    dsimp only
    unfold hdK
    by_cases q : key < 4
    · rw [if_pos q]
      dsimp only
      rw [uI_ne (show 172 ≠ 181 by decide), uI_ne (show 173 ≠ 181 by decide), rdU]
      by_cases q1 : k = key
      · rw [if_pos (⟨rfl, q1⟩ : (none : Option Nat) = none ∧ k = key), if_pos (by omega), if_pos ⟨rfl, by rw [q1]⟩]
      · rw [if_neg (show ¬ ((none : Option Nat) = none ∧ k = key) from fun y => q1 y.2)]
        by_cases q3 : k < 4
        · rw [if_pos q3, if_pos q3, if_neg (fun y => q1 (by have := y.2; omega))]
        · rw [if_neg q3, if_neg q3]
    · rw [if_neg q]
      by_cases q2 : (key - 4) % 2 = 0
      · rw [if_pos q2]
        dsimp only
        rw [uI_ne (show 181 ≠ 172 by decide), uI_ne (show 173 ≠ 172 by decide), rdU]
        by_cases q1 : k = key
        · rw [if_pos (⟨rfl, q1⟩ : (none : Option Nat) = none ∧ k = key), if_neg (by omega), if_pos (by rw [q1]; exact q2), if_pos ⟨rfl, by rw [q1]⟩]
        · rw [if_neg (show ¬ ((none : Option Nat) = none ∧ k = key) from fun y => q1 y.2)]
          by_cases q3 : k < 4
          · rw [if_pos q3, if_pos q3]
          · rw [if_neg q3, if_neg q3]
            by_cases q4 : (k - 4) % 2 = 0
            · rw [if_pos q4, if_pos q4, if_neg (fun y => q1 (by have := y.2; omega))]
            · rw [if_neg q4, if_neg q4]
      · rw [if_neg q2]
        dsimp only
        rw [uI_ne (show 181 ≠ 173 by decide), uI_ne (show 172 ≠ 173 by decide), rdU]
        by_cases q1 : k = key
        · rw [if_pos (⟨rfl, q1⟩ : (none : Option Nat) = none ∧ k = key), if_neg (by omega), if_neg (by rw [q1]; exact q2), if_pos ⟨rfl, by rw [q1]⟩]
        · rw [if_neg (show ¬ ((none : Option Nat) = none ∧ k = key) from fun y => q1 y.2)]
          by_cases q3 : k < 4
          · rw [if_pos q3, if_pos q3]
          · rw [if_neg q3, if_neg q3]
            by_cases q4 : (k - 4) % 2 = 0
            · rw [if_pos q4, if_pos q4]
            · rw [if_neg q4, if_neg q4, if_neg (fun y => q1 (by have := y.2; omega))]
theorem ptM_o (h1 : a ≠ 171) (h2 : a ≠ 172) (h3 : a ≠ 173) (h4 : a ≠ 181) : (ptM t lo key z).1 a = t.1 a := by
  unfold ptM
  cases lo with
  | some l => exact uI_ne h1
  | none =>
    dsimp only
    by_cases q : key < 4
    · rw [if_pos q]; exact uI_ne h4
    · rw [if_neg q]
      by_cases q2 : (key - 4) % 2 = 0
      · rw [if_pos q2]; exact uI_ne h2
      · rw [if_neg q2]; exact uI_ne h3
theorem ptM_2 : (ptM t lo key z).2 = t.2 := by
  unfold ptM
  cases lo with
  | some l => rfl
  | none =>
    dsimp only
    by_cases q : key < 4
    · rw [if_pos q]; rfl
    · rw [if_neg q]
      by_cases q2 : (key - 4) % 2 = 0
      · rw [if_pos q2]; rfl
      · rw [if_neg q2]; rfl
/-- places below 100, or behind 200: version 0 and others -/
theorem ptM_lo (hlo : ∀ l, lo = some l → l < 100) (hk : key < 4 + 2 * 100) (hc : a = 171 ∨ a = 172 ∨ a = 173) (hj : j < 100 ∨ 200 ≤ j) : (ptM t lo key z).1 a j = t.1 a j := by
  unfold ptM
  cases lo with
  | some l =>
    have := hlo l rfl
    dsimp only
    rw [rdU, if_neg (by omega)]
  | none =>
    dsimp only
    by_cases q : key < 4
    · rw [if_pos q, rdU, if_neg (by omega)]
    · rw [if_neg q]
      by_cases q2 : (key - 4) % 2 = 0
      · rw [if_pos q2, rdU, if_neg (by omega)]
      · rw [if_neg q2, rdU, if_neg (by omega)]
theorem ptM_lo2 (hj : j < 4 ∨ 8 ≤ j) : (ptM t lo key z).1 181 j = t.1 181 j := by
  unfold ptM
  cases lo with
  | some l => rw [uI_ne (by decide)]
  | none =>
    dsimp only
    by_cases q : key < 4
    · rw [if_pos q, rdU, if_neg (by omega)]
    · rw [if_neg q]
      by_cases q2 : (key - 4) % 2 = 0
      · rw [if_pos q2, uI_ne (by decide)]
      · rw [if_neg q2, uI_ne (by decide)]
/-- the class links -/
theorem x_linkG (hN : N ≤ 100) (hnt : nt ≤ 4) (hj : j < N) (hG : (th j < nt ∧ s.1 44 j = nI (th j)) ∧ ((K j = th j ∧ s.1 54 j = -1) ∨ ∃ p b : Nat, p < j ∧ b < 2 ∧ K j = 4 + 2 * p + b ∧ s.1 54 j = nI p ∧ s.1 55 j = nI b)) (hlo : ∀ l, lo = some l → l < N) : qev en (d + 1) 100 [.ref 36, .int (loV lo (-1)), .int (nI j)] s = some (none, ptX s lo (K j) (nI j)) := by
  have e36 : lc 36 = 5 := rfl
  obtain ⟨⟨g1, g2⟩, g3⟩ := hG
  refine le_X5_link en _ _ _ _ _ _ ?_
  unfold loV
  unfold ptX lkA
  cases lo with
  | some l =>
    have := hlo l rfl
    dsimp only
    rw [gd_true e36, if_neg (by rw [n_gt (by decide) (by omega)]; omega), gd_in (by omega) (by decide), n_cl (by omega), nm_eq]
  | none =>
    dsimp only
    rw [gd_true e36, if_pos (by decide), gd_in (by omega) (by decide), n_cl (by omega), nm_eq]
    rcases g3 with ⟨k1, k2⟩ | ⟨p, b, k1, k2, k3, k4, k5⟩
    · rw [show s.1 (36 + 18) j = -1 from k2, if_neg (by decide), show s.1 (36 + 8) j = nI (th j) from g2, gd_in (by omega) (by decide), n_cl (by omega), nm_eq, if_pos (by omega), k1]
    · have f69 : ∀ z : Nat, z = 13 ∨ z = 14 → ∀ r, (some (none, uI s (43 + z) p (nI j)) : Option qR) = some r → L_X5_link_69 en d (nI j) (nI p) 36 (nI z) s = some r := fun z hz r hr => by
        refine le_X5_link_69 en _ _ _ _ _ _ _ ?_
        rw [gd_true e36, gd_in (by omega) (by decide), gd_in (by omega) (by decide), n_cl (by omega), n_cl (by omega), nm_eq, show 36 + 7 + z = 43 + z by omega]
        exact hr
      rw [show s.1 (36 + 18) j = nI p from k4, if_pos (by rw [n_le (by decide) (by omega)]; omega), show s.1 (36 + 19) j = nI b from k5, if_neg (show ¬ K j < 4 by omega)]
      by_cases hb : b = 0
      · subst hb
        rw [if_neg (show ¬ ¬ nI 0 = (0 : Int32) from not_not_intro rfl), if_pos (show (K j - 4) % 2 = 0 by omega), show (K j - 4) / 2 = p by omega]
        exact f69 13 (Or.inl rfl) _ rfl
      · rw [if_pos (by rw [n_eq (by decide) (by omega)]; exact hb), if_neg (show ¬ (K j - 4) % 2 = 0 by omega), show (K j - 4) / 2 = p by omega]
        exact f69 14 (Or.inr rfl) _ rfl
/-- the class looks for what stands before -/
theorem x_aheadL (hi : i < 100) : ∀ (A : List Nat) (h v4 : Int32) (v5 : Nat), lkd (s.1 53) (-1) h (A ++ i :: C) → i ∉ A → (∀ x, x ∈ A → x < 100) → v5 + A.length < 100 → L_X5_ahead_63 en d 36 (nI i) h v4 (nI v5) s = some (some (.int (lstX A v4)), s)
  | [], h, v4, v5, hl, hni, hb, hv => by
    have e36 : lc 36 = 5 := rfl
    have hh : h = nI i := hl.1
    refine le_X5_ahead_63 en _ _ _ _ _ _ _ _ ?_
    have hv' : v5 < 100 := by simpa using hv
    rw [gd_true e36, if_neg (by rw [n_le (by decide) (by omega)]; omega), hh, if_neg (by rw [n_gt (by decide) (by omega)]; omega), if_pos rfl]
    rfl
  | a :: A, h, v4, v5, hl, hni, hb, hv => by
    have e36 : lc 36 = 5 := rfl
    have hh : h = nI a := hl.1
    have ha := hb a List.mem_cons_self
    have hne : a ≠ i := fun z => hni (z ▸ List.mem_cons_self)
    have hv' : v5 + (A.length + 1) < 100 := hv
    refine le_X5_ahead_63 en _ _ _ _ _ _ _ _ ?_
    rw [gd_true e36, if_neg (by rw [n_le (by decide) (by omega)]; omega), hh, if_neg (by rw [n_gt (by decide) (by omega)]; omega), if_neg (by rw [n_EQ (by omega) (by omega)]; exact hne), gd_in ha (by decide), n_cl (by omega), nm_eq, show nI v5 + (1 : Int32) = nI (v5 + 1) from n_ar, lstX_cons]
    exact x_aheadL hi A (s.1 53 a) (nI a) (v5 + 1) hl.2 (fun z => hni (List.mem_cons_of_mem _ z)) (fun x hx => hb x (List.mem_cons_of_mem _ hx)) (by omega)
theorem x_ahead (hG : TG s t nt N K th bl go) (hN : N ≤ 100) (hnt : nt ≤ 4) (hi : i < N) (hL : bl (K i) = A ++ i :: C) : qev en (d + 1) 106 [.ref 36, .int (nI i)] s = some (some (.int (lstX A (-1))), s) := by
  have e36 : lc 36 = 5 := rfl
  obtain ⟨h1, h2, h3, h4, h5, h6, h7⟩ := hG
  have hnd := h4 (K i)
  have hlt : ∀ x, x ∈ bl (K i) → x < N := fun x hx => (h2 _ x hx).1
  have hlen := lst_len N _ hnd hlt
  rw [hL] at hnd hlen hlt
  rw [List.length_append, List.length_cons] at hlen
  have hiA : i ∉ A := fun z => by
    have := (List.nodup_append.mp hnd).2.2 i z i List.mem_cons_self
    exact this rfl
  have hkv : kyV nt N (K i) := by
    obtain ⟨⟨g1, -⟩, ⟨g2, -⟩ | ⟨p, b, p1, p2, p3, -⟩⟩ := h5 i hi
    · exact Or.inl (by omega)
    · exact Or.inr ⟨by omega, by omega⟩
  have hlk := (h1 (K i) hkv).1
  rw [hL] at hlk
  have go63 := x_aheadL (en := en) (d := d) (s := s) (C := C) (by omega : i < 100) A _ (-1) 0 hlk hiA (fun x hx => by
    have := hlt x (List.mem_append_left _ hx)
    omega) (by omega)
  obtain ⟨⟨g1, g2, -⟩, g3⟩ := h5 i hi
  refine le_X5_ahead en _ _ _ _ _ ?_
  rw [gd_true e36, gd_in (by omega) (by decide), n_cl (by omega), nm_eq]
  rcases g3 with ⟨k1, k2, -⟩ | ⟨p, b, k1, k2, k3, k4, -, -, k5, -⟩
  · rw [show s.1 (36 + 18) i = -1 from k2, if_neg (by decide), show s.1 (36 + 8) i = nI (th i) from g2, gd_in (by omega) (by decide), n_cl (by omega), nm_eq]
    rw [k1, hdK_t (by omega)] at go63
    exact go63
  · rw [show s.1 (36 + 18) i = nI p from k4, if_pos (by rw [n_le (by decide) (by omega)]; omega), show s.1 (36 + 19) i = nI b from k5]
    have f53 : ∀ z : Nat, z = 13 ∨ z = 14 → L_X5_ahead_63 en d 36 (nI i) (s.1 (43 + z) p) (-1) (nI 0) s = some (some (.int (lstX A (-1))), s) → L_X5_ahead_53 en d 36 (nI i) (nI p) 36 (nI z) s = some (some (.int (lstX A (-1))), s) := fun z hz hr => by
      refine le_X5_ahead_53 en _ _ _ _ _ _ _ _ ?_
      rw [gd_true e36, gd_true e36, gd_in (by omega) (by decide), gd_in (by omega) (by decide), n_cl (by omega), n_cl (by omega), nm_eq, show 36 + 7 + z = 43 + z by omega]
      exact hr
    by_cases hb : b = 0
    · subst hb
      rw [if_neg (show ¬ ¬ nI 0 = (0 : Int32) from not_not_intro rfl)]
      rw [show K i = 4 + 2 * p by omega, hdK_c] at go63
      exact f53 13 (Or.inl rfl) go63
    · rw [if_pos (by rw [n_eq (by decide) (by omega)]; exact hb)]
      rw [show K i = 5 + 2 * p by omega, hdK_o] at go63
      exact f53 14 (Or.inr rfl) go63
end PTR

