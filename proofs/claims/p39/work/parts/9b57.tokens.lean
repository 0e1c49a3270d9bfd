/-! THE READER: the row of tokens, one by one, on both sides. -/
section TKN
variable {en : pN} {d n q f i p k : Nat} {B : Nat → Nat} {s s' : qS} {a : Nat × aT}
theorem aTok_end (h : p ≤ n) : (aTok B n p).2.2 ≤ n ∧ ((aTok B n p).1 ≠ 0 → (aTok B n p).1 ≠ 1 → p < (aTok B n p).2.2) := by
  obtain ⟨e1, e2, -⟩ := tokX_is (K := fun i => Int64.ofNat (KN.getD i 0)) (B := B) (n := n) (p := p) (fun _ _ => rfl)
  have := tokX_stop (K := fun i => Int64.ofNat (KN.getD i 0)) (B := B) h
  rw [← e1, ← e2]
  exact this
/-- what follows a token -/
theorem aL_next : ∀ (f q i : Nat) (a : Nat × aT), q ≤ n → n - q < f → (aL B n f q)[i]? = some a → a.2.2.2 ≤ n ∧ a.1 ≤ n ∧ a.2 = aTok B n a.1 ∧ (a.2.1 ≠ 0 → a.2.1 ≠ 1 → (aL B n f q)[i + 1]? = some (skp B (n - a.2.2.2) false a.2.2.2, aTok B n (skp B (n - a.2.2.2) false a.2.2.2))) ∧ ((a.2.1 = 0 ∨ a.2.1 = 1) → (aL B n f q)[i + 1]? = none) := by
  intro f
  induction f with
  | zero => intro q i a _ h; omega
  | succ f ih =>
    intro q i a hq hf ha
    have hs := skp_ge (B := B) (n - q) false q
    have he := aTok_end (B := B) (n := n) (p := skp B (n - q) false q) (by omega)
    have hs2 := fun e (he : e ≤ n) => skp_ge (B := B) (n - e) false e
    unfold aL at ha ⊢
    cases i with
    | zero =>
      have ha' : a = (skp B (n - q) false q, aTok B n (skp B (n - q) false q)) := by
        rw [List.getElem?_cons_zero] at ha
        exact (Option.some.inj ha).symm
      subst ha'
      refine ⟨he.1, by show skp B (n - q) false q ≤ n; omega, rfl, fun h0 h1 => ?_, fun h => ?_⟩
      · have h0' : (aTok B n (skp B (n - q) false q)).1 ≠ 0 := h0
        have h1' : (aTok B n (skp B (n - q) false q)).1 ≠ 1 := h1
        rw [List.getElem?_cons_succ, if_neg (fun z => z.elim h0' h1')]
        have := he.2 h0' h1'
        show (aL B n f (aTok B n (skp B (n - q) false q)).2.2)[0]? = _
        cases f with
        | zero => omega
        | succ f => unfold aL; rw [List.getElem?_cons_zero]
      · have h' : (aTok B n (skp B (n - q) false q)).1 = 0 ∨ (aTok B n (skp B (n - q) false q)).1 = 1 := h
        rw [List.getElem?_cons_succ, if_pos h']; rfl
    | succ i =>
      rw [List.getElem?_cons_succ] at ha
      rw [List.getElem?_cons_succ]
      by_cases h : (aTok B n (skp B (n - q) false q)).1 = 0 ∨ (aTok B n (skp B (n - q) false q)).1 = 1
      · rw [if_pos h] at ha
        exact absurd ha (by simp)
      · rw [if_neg h] at ha ⊢
        have := he.2 (fun z => h (Or.inl z)) (fun z => h (Or.inr z))
        exact ih _ i a he.1 (by omega) ha
/-- the token i of the text: where it begins, and itself -/
def tkN (B : Nat → Nat) (n i : Nat) : Nat × aT := (aL B n (n + 1) 0).getD i (0, 0, 0, 0)
abbrev tkK (B : Nat → Nat) (n i : Nat) : Nat := (tkN B n i).2.1
abbrev tkL (B : Nat → Nat) (n : Nat) : Nat := (aL B n (n + 1) 0).length
theorem tk_at (h : i < tkL B n) : (aL B n (n + 1) 0)[i]? = some (tkN B n i) := by
  unfold tkN
  rw [List.getD_eq_getElem?_getD, List.getElem?_eq_getElem h]
  rfl
theorem tk_pos : 0 < tkL B n := by
  show 0 < (aL B n (n + 1) 0).length
  unfold aL
  exact Nat.succ_pos _
/-- the last token is the end, or broken; the others are neither -/
theorem tk_last (h : i < tkL B n) : (i + 1 < tkL B n ↔ tkK B n i ≠ 0 ∧ tkK B n i ≠ 1) ∧ (tkN B n i).1 ≤ n := by
  obtain ⟨h1, h2, h3, h4, h5⟩ := aL_next (n + 1) 0 i _ (by omega) (by omega) (tk_at (B := B) h)
  refine ⟨⟨fun hl => ?_, fun ⟨z1, z2⟩ => ?_⟩, h2⟩
  · constructor
    · intro z
      have := h5 (Or.inl z)
      rw [List.getElem?_eq_none_iff] at this
      have hl' : i + 1 < (aL B n (n + 1) 0).length := hl
      omega
    · intro z
      have := h5 (Or.inr z)
      rw [List.getElem?_eq_none_iff] at this
      have hl' : i + 1 < (aL B n (n + 1) 0).length := hl
      omega
  · have := h4 z1 z2
    rw [List.getElem?_eq_some_iff] at this
    exact this.1
/-- the class looks at token i -/
abbrev cL (s : qS) (B : Nat → Nat) (n i : Nat) : Prop := TC s (cutL (s.2.1 3) B n (n + 1) 0) ∧ TA s (cutL (s.2.1 3) B n (n + 1) 0) i ∧ (∀ j, j < 33 → s.2.1 3 j = Int64.ofNat (KN.getD j 0)) ∧ (s.1 65 11 = 0 ∧ s.1 65 12 = -2) ∧ n ≤ 4000
theorem cL_at (h : cL s B n i) : i < tkL B n ∧ s.1 1 9 = nI (tkK B n i) ∧ s.1 1 10 = nI (tkN B n i).1 ∧ (tkK B n i ≠ 1 → s.2.1 1 11 = Int64.ofNat (tkN B n i).2.2.1) := by
  obtain ⟨h1, ⟨hi, t1, t2, t3, t4⟩, hK, h0, hn⟩ := h
  obtain ⟨r1, r2⟩ := cut_rel (B := B) (n := n) hK (n + 1) 0
  have hi' : i < tkL B n := by show i < (aL B n (n + 1) 0).length; omega
  obtain ⟨e1, e2, e3⟩ := r2 i _ _ (List.getElem?_eq_getElem hi) (tk_at hi')
  exact ⟨hi', by rw [t2]; exact congrArg nI e2, by rw [t3, e1], fun z => by rw [t4]; exact e3 z⟩
/-- what a step on to the next token changes -/
abbrev adF (s s' : qS) : Prop := (∀ c, c ≠ 1 → s'.1 c = s.1 c) ∧ (∀ j, j ≠ 8 → j ≠ 9 → j ≠ 10 → s'.1 1 j = s.1 1 j) ∧ (∀ c, c ≠ 1 → s'.2.1 c = s.2.1 c) ∧ s'.2.2 = s.2.2
theorem x_adv (h : cL s B n i) (hk : tkK B n i ≠ 0 ∧ tkK B n i ≠ 1) : ∃ s', qev en (d + 1) 167 [.ref 1] s = some (none, s') ∧ cL s' B n (i + 1) ∧ adF s s' := by
  have hat := cL_at h
  obtain ⟨h1, ⟨hi, t1, t2, t3, t4⟩, hK, h0, hn⟩ := h
  obtain ⟨r1, -⟩ := cut_rel (B := B) (n := n) hK (n + 1) 0
  have hl : i + 1 < (cutL (s.2.1 3) B n (n + 1) 0).length := by
    have := (tk_last hat.1).1.mpr hk
    have : i + 1 < (aL B n (n + 1) 0).length := this
    omega
  have e : tnx (cutL (s.2.1 3) B n (n + 1) 0) i = i + 1 := if_pos hl
  refine ⟨_, c_advance h1 hi t1, ?_, ⟨fun c hc => ?_, fun j a b c => ?_, fun c hc => ?_, rfl⟩⟩
  · have e3 : ∀ j t, (aS s j t).2.1 3 = s.2.1 3 := fun j t => rfl
    show TC _ (cutL _ B n (n + 1) 0) ∧ TA _ (cutL _ B n (n + 1) 0) (i + 1) ∧ _
    simp only [e3, e]
    exact ⟨TC.aS h1, TA.aS hl, hK, h0, hn⟩
  · show (uI (uI (uI s 1 8 _) 1 9 _) 1 10 _).1 c = _
    rw [uI_ne hc, uI_ne hc, uI_ne hc]
  · show (uI (uI (uI s 1 8 _) 1 9 _) 1 10 _).1 1 j = _
    rw [rdU, if_neg (fun z => c z.2), rdU, if_neg (fun z => b z.2), rdU, if_neg (fun z => a z.2)]
  · funext k
    show (if c = 1 ∧ k = 11 then _ else s.2.1 c k) = s.2.1 c k
    rw [if_neg (fun z => hc z.1)]
end TKN

