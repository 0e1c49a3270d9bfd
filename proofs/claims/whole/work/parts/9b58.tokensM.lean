/-! THE READER: the row of tokens on the model's side. -/
/-- a token's kind, as the model has it -/
def kdM (k : Nat) : Nat := if k = 2 ∨ 300 ≤ k then 1 else if k = 3 then 2 else k
/-- the model looks at token i -/
abbrev mtL (s : qS) (B : Nat → Nat) (n i : Nat) : Prop := (MX s n B ∧ n ≤ 4000 ∧ i < tkL B n) ∧ s.1 151 7 = 0 ∧ s.1 151 4 = nI (tkN B n i).1 ∧ tkK B n i ≠ 1 ∧ s.1 151 2 = nI (tkN B n i).2.2.2 ∧ s.1 151 3 = nI (kdM (tkK B n i)) ∧ ((tkK B n i = 2 ∨ 300 ≤ tkK B n i) → s.2.1 151 5 = Int64.ofNat (w8 8 (tkN B n i).2.2.1)) ∧ (tkK B n i = 3 → s.1 151 6 = nI (tkN B n i).2.2.1)
/-- the model has the fault F at p -/
abbrev mtD (s : qS) (F p : Nat) : Prop := s.1 151 7 = nI F ∧ F ≠ 0 ∧ F < 16 ∧ s.1 151 8 = nI p
/-- what a step on to the next token changes -/
abbrev mvF (s s' : qS) : Prop := (∀ c, c ≠ 151 → s'.1 c = s.1 c) ∧ (∀ j, j ≠ 2 → j ≠ 3 → j ≠ 4 → j ≠ 6 → j ≠ 7 → j ≠ 8 → s'.1 151 j = s.1 151 j) ∧ (∀ c, c ≠ 151 → s'.2.1 c = s.2.1 c) ∧ (∀ j, j ≠ 5 → s'.2.1 151 j = s.2.1 151 j) ∧ s'.2.2 = s.2.2
section TKM
variable {en : pN} {d n q f i p k F : Nat} {B : Nat → Nat} {s s' s'' : qS}
theorem mvF.rf : mvF s s := ⟨fun _ _ => rfl, fun _ _ _ _ _ _ _ => rfl, fun _ _ => rfl, fun _ _ => rfl, rfl⟩
theorem mvF.tr' (h : mvF s s') (g : mvF s' s'') : mvF s s'' := ⟨fun c a => (g.1 c a).trans (h.1 c a), fun j a b c d e f => (g.2.1 j a b c d e f).trans (h.2.1 j a b c d e f), fun c a => (g.2.2.1 c a).trans (h.2.2.1 c a), fun j a => (g.2.2.2.1 j a).trans (h.2.2.2.1 j a), g.2.2.2.2.trans h.2.2.2.2⟩
theorem mvF_uI {v : Int32} (hk : k = 2 ∨ k = 3 ∨ k = 4 ∨ k = 6 ∨ k = 7 ∨ k = 8) : mvF s (uI s 151 k v) := ⟨fun c hc => uI_ne hc, fun j a b c d e f => by rw [rdU, if_neg (fun z => by omega)], fun _ _ => rfl, fun _ _ => rfl, rfl⟩
theorem mvF_uJ {v : Int64} : mvF s (uJ s 151 5 v) := by
  refine ⟨fun _ _ => rfl, fun _ _ _ _ _ _ _ => rfl, fun c hc => ?_, fun j hj => ?_, rfl⟩
  · funext k
    show (if c = 151 ∧ k = 5 then v else s.2.1 c k) = _
    rw [if_neg (fun z => hc z.1)]
  · show (if 151 = 151 ∧ j = 5 then v else s.2.1 151 j) = _
    rw [if_neg (fun z => hj z.2)]
theorem mvF_nd {ok : Bool} {w : Int32} : mvF s (ndS ok w s) := by
  unfold ndS
  split
  · exact mvF.rf
  · unfold flS
    split
    · exact (mvF_uI (by omega)).tr' (mvF_uI (by omega))
    · exact mvF.rf
theorem mvF_nx : mvF s (nxS s B n q) := by
  unfold nxS
  have h0 : mvF s (uI (uI (uI s 151 2 (nI (skp B (n - q) false q))) 151 4 (nI (skp B (n - q) false q))) 151 3 0) := (mvF_uI (by omega)).tr' ((mvF_uI (by omega)).tr' (mvF_uI (by omega)))
  refine h0.tr' ?_
  generalize uI (uI (uI s 151 2 (nI (skp B (n - q) false q))) 151 4 (nI (skp B (n - q) false q))) 151 3 0 = t
  unfold mTok
  split
  · exact mvF.rf
  · split
    · have h1 : ∀ a b, mvF t (mW t a b) := fun a b => by unfold mW; exact mvF_uJ.tr' (mvF_uI (by omega))
      exact (h1 _ _).tr' (mvF_nd.tr' (mvF_uI (by omega)))
    · split
      · have h1 : ∀ a b, mvF t (mN t a b) := fun a b => by unfold mN; exact (mvF_uI (by omega)).tr' (mvF_uI (by omega))
        exact (h1 _ _).tr' (mvF_nd.tr' (mvF_uI (by omega)))
      · unfold mG
        exact mvF_nd.tr' ((mvF_uI (by omega)).tr' (mvF_uI (by omega)))
/-- a token shown is token i, or broken -/
theorem mt_of (hX : MX s n B) (hn : n ≤ 4000) (hi : i < tkL B n) (h : MT s (tkN B n i).1 (tkN B n i).2) : (tkK B n i ≠ 1 → mtL s B n i) ∧ (tkK B n i = 1 → mtD s 1 (tkN B n i).1) := by
  obtain ⟨h1, h2, h3⟩ := h
  constructor
  · intro hk
    obtain ⟨g1, g2, g3, g4, g5⟩ := h3 hk
    exact ⟨⟨hX, hn, hi⟩, g1, h1, hk, g2, g3, g4, g5⟩
  · intro hk
    obtain ⟨g1, g2⟩ := h2 hk
    exact ⟨g1, by decide, by decide, g2⟩
theorem MX.mv (h : MX s n B) (g : mvF s s') : MX s' n B := by
  obtain ⟨h1, h2, h3, h4⟩ := h
  exact ⟨by rw [g.2.1 1 (by decide) (by decide) (by decide) (by decide) (by decide) (by decide)]; exact h1, h2, h3, fun j hj => by rw [g.1 152 (by decide)]; exact h4 j hj⟩
theorem m_adv (h : mtL s B n i) (hk : tkK B n i ≠ 0) : ∃ s', qev en (d + 3) 249 [.ref 151] s = some (none, s') ∧ (i + 1 < tkL B n ∧ (tkK B n (i + 1) ≠ 1 → mtL s' B n (i + 1)) ∧ (tkK B n (i + 1) = 1 → mtD s' 1 (tkN B n (i + 1)).1)) ∧ mvF s s' := by
  obtain ⟨⟨hX, hn, hi⟩, h7, h4, hk1, h2, h3, h5, h6⟩ := h
  have hl := (tk_last hi).1.mpr ⟨hk, hk1⟩
  obtain ⟨a1, a2, a3, a4, -⟩ := aL_next (n + 1) 0 i _ (by omega) (by omega) (tk_at hi)
  have a5 := a4 hk hk1
  rw [tk_at hl] at a5
  have a6 := Option.some.inj a5
  obtain ⟨s', e1, e2⟩ := m_nextT (en := en) (d := d) hX h7 h2 a1
  have e3 := m_next (en := en) (d := d) hX h7 h2 a1
  rw [e3] at e1
  have es : s' = nxS s B n (tkN B n i).2.2.2 := by
    have := Option.some.inj e1
    exact (Prod.mk.inj this).2.symm
  have hF : mvF s s' := by rw [es]; exact mvF_nx
  have e2' : MT s' (tkN B n (i + 1)).1 (tkN B n (i + 1)).2 := by
    have p1 := congrArg Prod.fst a6
    have p2 := congrArg Prod.snd a6
    simp only at p1 p2
    rw [p2, p1]
    exact e2
  exact ⟨s', by rw [e3, es], ⟨hl, (mt_of (hX.mv hF) hn hl e2').1, (mt_of (hX.mv hF) hn hl e2').2⟩, hF⟩
/-- where there is a fault nothing is done -/
theorem m_goodD (h : mtD s F p) : qev en (d + 1) 243 [.ref 151] s = some (some (.int 0), s) := by
  refine le_X12_good en _ _ _ ?_
  rw [if_pos (by rw [h.1, n_eq (by decide) (by have := h.2.2.1; omega)]; exact h.2.1)]
theorem m_goodL (h : s.1 151 7 = 0) : qev en (d + 1) 243 [.ref 151] s = some (some (.int 1), s) := by
  refine le_X12_good en _ _ _ ?_
  rw [if_neg (not_not_intro h)]
theorem m_nextD (h : mtD s F p) : qev en (d + 2) 249 [.ref 151] s = some (none, s) := m_next0 (by rw [h.1, n_eq (by decide) (by have := h.2.2.1; omega)]; exact h.2.1)
/-- a demand that is met -/
theorem m_needT {k : Int32} : qev en (d + 1) 245 [.ref 151, .int 1, .int k] s = some (none, s) := by
  refine le_X12_need en _ _ _ _ _ ?_
  rw [if_pos (by decide)]
/-- one that isn't -/
theorem m_needF (h7 : s.1 151 7 = 0) (h4 : s.1 151 4 = nI p) (hk : k ≠ 0 ∧ k < 16) : ∃ s', qev en (d + 2) 245 [.ref 151, .int 0, .int (nI k)] s = some (none, s') ∧ mtD s' k p ∧ mvF s s' := by
  refine ⟨uI (uI s 151 7 (nI k)) 151 8 (nI p), le_X12_need en _ _ _ _ _ ?_, ⟨rfl, hk.1, hk.2, rfl⟩, (mvF_uI (by omega)).tr' (mvF_uI (by omega))⟩
  rw [if_neg (not_not_intro rfl), h4]
  have e : qev en (d + 1) 244 [.ref 151, .int (nI k), .int (nI p)] s = some (none, uI (uI s 151 7 (nI k)) 151 8 (nI p)) := by
    refine le_X12_fail en _ _ _ _ _ ?_
    rw [if_neg (not_not_intro h7), nm_eq, nm_eq]
  rw [e, bV_some]
/-- nothing changes a fault -/
theorem m_needD {x k : Int32} (h : mtD s F p) : qev en (d + 2) 245 [.ref 151, .int x, .int k] s = some (none, s) := by
  refine le_X12_need en _ _ _ _ _ ?_
  by_cases q : x = 0
  · rw [if_neg (not_not_intro q)]
    have e : qev en (d + 1) 244 [.ref 151, .int k, .int (s.1 151 4)] s = some (none, s) := by
      refine le_X12_fail en _ _ _ _ _ ?_
      rw [if_pos (by rw [h.1, n_eq (by decide) (by have := h.2.2.1; omega)]; exact h.2.1)]
    rw [e, bV_some]
  · rw [if_pos q]
end TKM
