/-! THE ROW OF TOKENS OF BOTH. -/
def aL (B : Nat → Nat) (n : Nat) : Nat → Nat → List (Nat × aT)
  | 0, _ => []
  | f + 1, q => (skp B (n - q) false q, aTok B n (skp B (n - q) false q)) :: (if (aTok B n (skp B (n - q) false q)).1 = 0 ∨ (aTok B n (skp B (n - q) false q)).1 = 1 then [] else aL B n f (aTok B n (skp B (n - q) false q)).2.2)
theorem cut_rel {K : Nat → Int64} {B : Nat → Nat} {n : Nat} (hK : ∀ i, i < 33 → K i = Int64.ofNat (KN.getD i 0)) : ∀ f q : Nat, (cutL K B n f q).length = (aL B n f q).length ∧ ∀ (i : Nat) (t : Nat × cTok) (a : Nat × aT), (cutL K B n f q)[i]? = some t → (aL B n f q)[i]? = some a → t.1 = a.1 ∧ t.2.1 = a.2.1 ∧ (a.2.1 ≠ 1 → t.2.2.1 = Int64.ofNat a.2.2.1) := by
  intro f
  induction f with
  | zero => intro q; exact ⟨rfl, fun i t a h => by cases h⟩
  | succ f ih =>
    intro q
    obtain ⟨e1, e2, e3, -⟩ := tokX_is (K := K) (B := B) (n := n) (p := skp B (n - q) false q) hK
    unfold cutL aL
    have ek : (tokX K B n (skp B (n - q) false q)).kind = (aTok B n (skp B (n - q) false q)).1 := e1
    have es : (tokX K B n (skp B (n - q) false q)).stop = (aTok B n (skp B (n - q) false q)).2.2 := e2
    rw [ek, es]
    by_cases h : (aTok B n (skp B (n - q) false q)).1 = 0 ∨ (aTok B n (skp B (n - q) false q)).1 = 1
    · rw [if_pos h, if_pos h]
      refine ⟨rfl, fun i t a ht ha => ?_⟩
      cases i with
      | zero => cases ht; cases ha; exact ⟨rfl, e1, e3⟩
      | succ i => cases ht
    · rw [if_neg h, if_neg h]
      obtain ⟨r1, r2⟩ := ih (aTok B n (skp B (n - q) false q)).2.2
      refine ⟨by rw [List.length_cons, List.length_cons, r1], fun i t a ht ha => ?_⟩
      cases i with
      | zero => cases ht; cases ha; exact ⟨rfl, e1, e3⟩
      | succ i => exact r2 i t a ht ha
