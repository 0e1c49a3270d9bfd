/-! CHANCES, the model's side: a thread goes behind all others. -/
section CHL
variable {en : pN} {d nc nl nt n t k r m o q u : Nat} {P : Nat → fI} {σ σ' s : qS} {F N : fI} {L : Nat → Nat} {pr : Nat → Int32} {c : Nat → Nat} {v1 : Int32}
/-- the least of the priorities -/
theorem m_min157 (hnt : nt ≤ 4) (h18 : s.1 151 18 = nI nt) {a k' kk : Nat} (ha : a < 40) : ∀ (m i : Nat) (x : Int32), i + m = nt → (∀ t, t < i → x ≤ s.1 231 t) → (∃ t, t < nt ∧ x = s.1 231 t) → ∃ y : Int32, (∀ t, t < nt → y ≤ s.1 231 t) ∧ (∃ t, t < nt ∧ y = s.1 231 t) ∧ ∀ r, L_X12_endsWith_129 en d v1 (nI k') (nI a) (nI kk + 1) (uI s 231 (a / 10) (y - 1)) = some r → L_X12_endsWith_157 en d v1 (nI k') (nI a) (nI kk) x (nI i) s = some r := by
  intro m
  induction m with
  | zero =>
    intro i x hi h1 h2
    refine ⟨x, fun t ht => h1 t (by omega), h2, fun r hh => le_X12_endsWith_157 en _ _ _ _ _ _ _ _ _ ?_⟩
    rw [h18, if_pos (by rw [n_LE (by omega) (by omega)]; omega), n_d10 (by omega), gd_true (n_in (by omega) (by decide)), nm_eq, n_cl (by omega)]
    exact hh
  | succ m ih =>
    intro i x hi h1 h2
    have ei : nI i + (1 : Int32) = nI (i + 1) := n_ar
    by_cases q : x ≤ s.1 231 i
    · obtain ⟨y, a1, a2, a3⟩ := ih (i + 1) x (by omega) (fun t ht => by
        by_cases z : t = i
        · rw [z]; exact q
        · exact h1 t (by omega)) h2
      refine ⟨y, a1, a2, fun r hh => le_X12_endsWith_157 en _ _ _ _ _ _ _ _ _ ?_⟩
      rw [h18, if_neg (by rw [n_LE (by omega) (by omega)]; omega), gd_true (n_in (by omega) (by decide)), n_cl (by omega), if_pos q, ei]
      exact a3 r hh
    · obtain ⟨y, a1, a2, a3⟩ := ih (i + 1) (s.1 231 i) (by omega) (fun t ht => by
        by_cases z : t = i
        · rw [z]; exact Int32.le_refl _
        · exact Int32.le_trans (Int32.le_of_lt (Int32.not_le.mp q)) (h1 t (by omega))) ⟨i, by omega, rfl⟩
      refine ⟨y, a1, a2, fun r hh => le_X12_endsWith_157 en _ _ _ _ _ _ _ _ _ ?_⟩
      rw [h18, if_neg (by rw [n_LE (by omega) (by omega)]; omega), gd_true (n_in (by omega) (by decide)), n_cl (by omega), if_neg q, nm_eq, ei]
      exact a3 r hh
theorem sub1 {x : Int32} (h : -1000000 ≤ x.toInt ∧ x.toInt ≤ 1000000) : (x - 1).toInt = x.toInt - 1 := by
  rw [Int32.toInt_sub]
  show (x.toInt - 1).bmod (2 ^ 32) = _
  exact Int.bmod_eq_of_le (by omega) (by omega)
/-- lowered once -/
theorem cmp_low (hL : PL nt L) (hc : cmpP nt pr L) (hr : r < nt) {y : Int32} (hy : ∀ t, t < nt → y - 1 < pr t) : cmpP nt (upd pr (L r) (y - 1)) (lowF nt r L) := by
  have hne : ∀ i, i < nt → i ≠ r → L i ≠ L r := fun i hi q z => q (hL.2.1 i hi r hr z)
  intro i j hij hj
  unfold lowF
  by_cases j1 : j < r
  · rw [if_pos j1, if_pos (by omega), pk_un (hne j hj (by omega)), pk_un (hne i (by omega) (by omega))]
    exact hc i j hij hj
  · rw [if_neg j1]
    by_cases j2 : j + 1 < nt
    · rw [if_pos j2, pk_un (hne (j + 1) j2 (by omega))]
      by_cases i1 : i < r
      · rw [if_pos i1, pk_un (hne i (by omega) (by omega))]
        exact hc i (j + 1) (by omega) j2
      · rw [if_neg i1, if_pos (by omega), pk_un (hne (i + 1) (by omega) (by omega))]
        exact hc (i + 1) (j + 1) (by omega) j2
    · rw [if_neg j2, pk_us]
      by_cases i1 : i < r
      · rw [if_pos i1, pk_un (hne i (by omega) (by omega))]
        exact hy _ (hL.1 i (by omega))
      · rw [if_neg i1, if_pos (by omega), pk_un (hne (i + 1) (by omega) (by omega))]
        exact hy _ (hL.1 (i + 1) (by omega))
/-- and once more -/
theorem cmp_last (hL : PL nt L) (hc : cmpP nt pr L) (hnt : 0 < nt) {y : Int32} (hy : ∀ t, t < nt → y - 1 < pr t) : cmpP nt (upd pr (L (nt - 1)) (y - 1)) L := by
  have hne : ∀ i, i < nt → i ≠ nt - 1 → L i ≠ L (nt - 1) := fun i hi q z => q (hL.2.1 i hi (nt - 1) (by omega) z)
  intro i j hij hj
  by_cases q : j = nt - 1
  · rw [q, pk_us, pk_un (hne i (by omega) (by omega))]
    exact hy _ (hL.1 i (by omega))
  · rw [pk_un (hne j hj q), pk_un (hne i (by omega) (by omega))]
    exact hc i j hij hj
/-- bounds of priorities -/
abbrev bdP (nt B : Nat) (pr : Nat → Int32) : Prop := ∀ t, t < nt → -(B : Int) ≤ (pr t).toInt ∧ (pr t).toInt ≤ 4
/-- both numbers drawn are looked at -/
theorem m_low129 (hnt : nt ≤ 4) (h18 : s.1 151 18 = nI nt) (hL : PL nt L) (hr : r < nt) (hc : cmpP nt (s.1 231) L) {B one oth a k' : Nat} (hB : B < 10000) (hb : bdP nt B (s.1 231)) (h0 : s.1 232 0 = nI one) (h1 : s.1 232 1 = nI oth) (ho : one < 2 ^ 30) (ho2 : oth < 2 ^ 30) (hk : k' < 2 ^ 30) (ha : a < 40) (ha2 : a / 10 = L r) :
    ∃ s', (∀ x, L_X12_endsWith_8 en d v1 (nI k') s' = some x → L_X12_endsWith_129 en d v1 (nI k') (nI a) 0 s = some x) ∧ cmpP nt (s'.1 231) (if k' = one ∨ k' = oth then lowF nt r L else L) ∧ bdP nt (B + 2) (s'.1 231) ∧ (∀ c, c ≠ 231 → s'.1 c = s.1 c) ∧ s'.2 = s.2 := by
  have step : ∀ (s : qS) (B : Nat), B < 10002 → s.1 151 18 = nI nt → bdP nt B (s.1 231) → ∀ kk, kk < 2 → ∃ y : Int32, (∀ t, t < nt → y - 1 < s.1 231 t) ∧ bdP nt (B + 1) (upd (s.1 231) (L r) (y - 1)) ∧ ∀ x, L_X12_endsWith_129 en d v1 (nI k') (nI a) (nI (kk + 1)) (uI s 231 (L r) (y - 1)) = some x → L_X12_endsWith_157 en d v1 (nI k') (nI a) (nI kk) (s.1 231 0) 1 s = some x := fun s B hB h18 hb kk _ => by
    obtain ⟨y, y1, ⟨t, y2, y3⟩, y4⟩ := m_min157 (en := en) (d := d) (v1 := v1) (k' := k') (kk := kk) hnt h18 ha (nt - 1) 1 (s.1 231 0) (by omega) (fun t ht => by rw [show t = 0 by omega]; exact Int32.le_refl _) ⟨0, by omega, rfl⟩
    have hyb := hb t y2
    rw [← y3] at hyb
    have hs1 := sub1 (x := y) (by omega)
    refine ⟨y, fun u hu => ?_, fun u hu => ?_, fun x hx => y4 x ?_⟩
    · have := Int32.le_iff_toInt_le.mp (y1 u hu)
      exact Int32.lt_iff_toInt_lt.mpr (by omega)
    · by_cases z : u = L r
      · rw [z, pk_us, hs1]; omega
      · rw [pk_un z]; have := hb u hu; omega
    · rw [ha2, show nI kk + (1 : Int32) = nI (kk + 1) from n_ar]; exact hx
  have n129 : ∀ (s : qS) (kk z : Nat), kk < 2 → z < 2 ^ 30 → s.1 232 kk = nI z → ∀ x, (if z = k' then L_X12_endsWith_157 en d v1 (nI k') (nI a) (nI kk) (s.1 231 0) 1 s else L_X12_endsWith_129 en d v1 (nI k') (nI a) (nI (kk + 1)) s) = some x → L_X12_endsWith_129 en d v1 (nI k') (nI a) (nI kk) s = some x := fun s kk z hkk hz h x hx => by
    refine le_X12_endsWith_129 en _ _ _ _ _ _ _ ?_
    rw [if_neg (by rw [show (2 : Int32) = nI 2 from rfl, n_LE (by omega) (by omega)]; omega), gd_true (n_in (by omega) (by decide)), n_cl (by omega), h]
    by_cases q : z = k'
    · rw [if_pos q] at hx
      rw [if_neg (not_not_intro (by rw [q]))]
      exact hx
    · rw [if_neg q] at hx
      rw [if_pos (by rw [n_EQ (by omega) (by omega)]; exact q), show nI kk + (1 : Int32) = nI (kk + 1) from n_ar]
      exact hx
  have last : ∀ (s : qS) x, L_X12_endsWith_8 en d v1 (nI k') s = some x → L_X12_endsWith_129 en d v1 (nI k') (nI a) (nI 2) s = some x := fun s x hx => by
    refine le_X12_endsWith_129 en _ _ _ _ _ _ _ ?_
    rw [if_pos (by decide)]
    exact hx
  by_cases q0 : one = k'
  · obtain ⟨y, y1, y2, y3⟩ := step s B (by omega) h18 hb 0 (by decide)
    have hc1 := cmp_low hL hc hr y1
    have e1 : (uI s 231 (L r) (y - 1)).1 231 = upd (s.1 231) (L r) (y - 1) := uI_row
    by_cases q1 : oth = k'
    · obtain ⟨z, z1, z2, z3⟩ := step (uI s 231 (L r) (y - 1)) (B + 1) (by omega) (by rw [uI_ne (by decide)]; exact h18) (by rw [e1]; exact y2) 1 (by decide)
      rw [e1] at z1 z2
      have hlast : lowF nt r L (nt - 1) = L r := by
        unfold lowF
        by_cases w : nt - 1 < r
        · omega
        · rw [if_neg w, if_neg (by omega)]
      have hc2 := cmp_last (PL_low hL hr) hc1 (by omega) z1
      rw [hlast] at hc2
      refine ⟨uI (uI s 231 (L r) (y - 1)) 231 (L r) (z - 1), fun x hx => n129 s 0 one (by decide) ho h0 x ?_, ?_, ?_, fun c hc => (uI_ne hc).trans (uI_ne hc), rfl⟩
      · rw [if_pos q0]
        refine y3 x (n129 _ 1 oth (by decide) ho2 (by rw [uI_ne (by decide)]; exact h1) x ?_)
        rw [if_pos q1]
        exact z3 x (last _ x hx)
      · rw [uI_row, e1, if_pos (Or.inl q0.symm)]; exact hc2
      · rw [uI_row, e1]; exact z2
    · refine ⟨uI s 231 (L r) (y - 1), fun x hx => n129 s 0 one (by decide) ho h0 x ?_, ?_, ?_, fun c hc => uI_ne hc, rfl⟩
      · rw [if_pos q0]
        refine y3 x (n129 _ 1 oth (by decide) ho2 (by rw [uI_ne (by decide)]; exact h1) x ?_)
        rw [if_neg q1]
        exact last _ x hx
      · rw [e1, if_pos (Or.inl q0.symm)]; exact hc1
      · rw [e1]; intro t ht; have := y2 t ht; omega
  · by_cases q1 : oth = k'
    · obtain ⟨y, y1, y2, y3⟩ := step s B (by omega) h18 hb 1 (by decide)
      have hc1 := cmp_low hL hc hr y1
      have e1 : (uI s 231 (L r) (y - 1)).1 231 = upd (s.1 231) (L r) (y - 1) := uI_row
      refine ⟨uI s 231 (L r) (y - 1), fun x hx => n129 s 0 one (by decide) ho h0 x ?_, ?_, ?_, fun c hc => uI_ne hc, rfl⟩
      · rw [if_neg q0]
        refine n129 s 1 oth (by decide) ho2 h1 x ?_
        rw [if_pos q1]
        exact y3 x (last _ x hx)
      · rw [e1, if_pos (Or.inr q1.symm)]; exact hc1
      · rw [e1]; intro t ht; have := y2 t ht; omega
    · refine ⟨s, fun x hx => n129 s 0 one (by decide) ho h0 x ?_, ?_, ?_, fun _ _ => rfl, rfl⟩
      · rw [if_neg q0]
        refine n129 s 1 oth (by decide) ho2 h1 x ?_
        rw [if_neg q1]
        exact last _ x hx
      · rw [if_neg (fun z => z.elim (fun y => q0 y.symm) (fun y => q1 y.symm))]; exact hc
      · intro t ht; have := hb t ht; omega
/-- the step chosen of those that are ready -/
theorem m_best38 {v2 len : Nat} (hlen : len ≤ 48) (h66 : s.1 151 66 = nI len) : ∀ (l : List Nat) (i : Nat) (b : Option Nat), i + l.length = len → (∀ j (h : j < l.length), s.1 190 (i + j) = nI l[j]) → (∀ a ∈ l, a < 40) → (∀ a, b = some a → a < 40) → ∀ x, L_X12_endsWith_38 en d v1 (nI v2) (match bstF (s.1 231) l b with
    | some a => nI a
    | none => -2) (nI len) s = some x → L_X12_endsWith_38 en d v1 (nI v2) (match b with
    | some a => nI a
    | none => -2) (nI i) s = some x := by
  intro l
  induction l with
  | nil =>
    intro i b hi _ _ _ x hx
    have : i = len := by rw [List.length_nil] at hi; omega
    rw [this]
    exact hx
  | cons a l ih =>
    intro i b hi hrow hl hb x hx
    rw [List.length_cons] at hi
    have ha := hl a (List.mem_cons_self ..)
    have e190 : s.1 190 i = nI a := by
      have := hrow 0 (by rw [List.length_cons]; omega)
      rw [Nat.add_zero] at this
      exact this
    have ei : nI i + (1 : Int32) = nI (i + 1) := n_ar
    have e : bstF (s.1 231) (a :: l) b = bstF (s.1 231) l (if ∀ e, b = some e → s.1 231 (e / 10) < s.1 231 (a / 10) then some a else b) := rfl
    rw [e] at hx
    have hrow' : ∀ j (h : j < l.length), s.1 190 (i + 1 + j) = nI l[j] := fun j h => by
      have := hrow (j + 1) (by rw [List.length_cons]; omega)
      rw [show i + (j + 1) = i + 1 + j by omega] at this
      exact this
    have l84 : ∀ x, L_X12_endsWith_38 en d v1 (nI v2) (nI a) (nI (i + 1)) s = some x → L_X12_endsWith_84 en d v1 (nI v2) (nI i) s = some x := fun x h => by
      refine le_X12_endsWith_84 en _ _ _ _ _ _ ?_
      rw [gd_true (n_in (by omega) (by decide)), nm_eq, n_cl (by omega), e190, ei]
      exact h
    have n38 : ∀ v3 : Int32, ¬ s.1 151 66 ≤ nI i := fun _ => by rw [h66, n_LE (by omega) (by omega)]; omega
    cases b with
    | none =>
      rw [if_pos (fun e h => by cases h)] at hx
      have := ih (i + 1) (some a) (by omega) hrow' (fun b hb => hl b (List.mem_cons_of_mem _ hb)) (fun e h => by cases h; exact ha) x hx
      refine le_X12_endsWith_38 en _ _ _ _ _ _ _ ?_
      rw [if_neg (n38 0), gd_true (n_in (by omega) (by decide)), nm_eq, if_pos rfl]
      exact l84 x this
    | some e0 =>
      have he0 := hb e0 rfl
      refine le_X12_endsWith_38 en _ _ _ _ _ _ _ ?_
      show (if s.1 151 66 ≤ nI i then _ else gd (p_inB (nI i) 48 = true) (nm ((s.1 190 (nI i).toNatClampNeg) / (10 : Int32)) (fun z7 => if nI e0 = (-2 : Int32) then _ else gd (p_inB z7 4 = true) (gd (p_inB (nI e0 / (10 : Int32)) 4 = true) (if (s.1 231 z7.toNatClampNeg) ≤ (s.1 231 (nI e0 / (10 : Int32)).toNatClampNeg) then L_X12_endsWith_38 en d v1 (nI v2) (nI e0) (nI i + (1 : Int32)) s else L_X12_endsWith_84 en d v1 (nI v2) (nI i) s))))) = some x
      rw [if_neg (n38 0), gd_true (n_in (by omega) (by decide)), nm_eq, n_cl (by omega), e190, n_d10 (by omega), if_neg (by rw [n_m2 (by omega)]; exact fun z => z), gd_true (n_in (by omega) (by decide)), n_d10 (by omega), gd_true (n_in (by omega) (by decide)), n_cl (by omega), n_cl (by omega), ei]
      by_cases q : s.1 231 (e0 / 10) < s.1 231 (a / 10)
      · rw [if_pos (fun e h => by cases h; exact q)] at hx
        rw [if_neg (Int32.not_le.mpr q)]
        exact l84 x (ih (i + 1) (some a) (by omega) hrow' (fun b hb => hl b (List.mem_cons_of_mem _ hb)) (fun e h => by cases h; exact ha) x hx)
      · rw [if_neg (fun z => q (z e0 rfl))] at hx
        rw [if_pos (Int32.not_lt.mp q)]
        exact ih (i + 1) (some e0) (by omega) hrow' (fun b hb => hl b (List.mem_cons_of_mem _ hb)) hb x hx
end CHL
