/-! JUDGING, the class's side: a group is closed. -/
/-- a bit of an int -/
abbrev bI' (x : Int32) (t : Nat) : Prop := x.toBitVec.getLsbD t = true
section BMK
variable {x y : Int32} {t k m : Nat}
theorem msk_all (hk : k ≤ 30) : (x &&& nI (2 ^ k - 1) = nI (2 ^ k - 1)) ↔ ∀ t, t < k → bI' x t := by
  have hp : 2 ^ k ≤ 2 ^ 30 := Nat.pow_le_pow_right (by decide) hk
  have hb : ∀ i, (nI (2 ^ k - 1)).toBitVec.getLsbD i = decide (i < k) := fun i => by rw [nI_bit (by omega), Nat.testBit_two_pow_sub_one]
  constructor
  · intro h t ht
    have := congrArg (fun z : Int32 => z.toBitVec.getLsbD t) h
    simp only [Int32.toBitVec_and, BitVec.getLsbD_and, hb, decide_eq_true ht, Bool.and_true] at this
    exact this
  · intro h
    rw [← Int32.toBitVec_inj, Int32.toBitVec_and]
    refine BitVec.eq_of_getLsbD_eq fun i hi => ?_
    rw [BitVec.getLsbD_and, hb]
    by_cases q : i < k
    · rw [h i q]; rfl
    · rw [decide_eq_false q, Bool.and_false]
theorem msk_or : bI' (x ||| y) t ↔ bI' x t ∨ bI' y t := by
  unfold bI'
  rw [Int32.toBitVec_or, BitVec.getLsbD_or, Bool.or_eq_true]
theorem msk_not (ht : t < 32) : bI' (x ^^^ (-1 : Int32)) t ↔ ¬ bI' x t := by
  unfold bI'
  rw [Int32.toBitVec_xor, BitVec.getLsbD_xor]
  have : ((-1 : Int32).toBitVec).getLsbD t = true := by
    rw [show (-1 : Int32).toBitVec = BitVec.allOnes 32 from by decide, BitVec.getLsbD_allOnes, decide_eq_true ht]
  rw [this]
  cases x.toBitVec.getLsbD t <;> decide
theorem msk_nI (hm : m < 2 ^ 31) : bI' (nI m) t ↔ m.testBit t = true := by
  unfold bI'
  rw [nI_bit hm]
theorem msk_15 (ht : t < 4) : bI' (x &&& (15 : Int32)) t ↔ bI' x t := by
  unfold bI'
  rw [Int32.toBitVec_and, BitVec.getLsbD_and]
  have : ((15 : Int32).toBitVec).getLsbD t = true := by
    rcases (show t = 0 ∨ t = 1 ∨ t = 2 ∨ t = 3 by omega) with rfl | rfl | rfl | rfl <;> decide
  rw [this, Bool.and_true]
theorem msk_sh {c : Nat} (hc : c < 4) : bI' ((1 : Int32) <<< (nI c &&& 31)) t ↔ t = c := by
  rw [show (1 : Int32) = nI 1 from rfl, shl_nI (by omega) (by rcases (show c = 0 ∨ c = 1 ∨ c = 2 ∨ c = 3 by omega) with rfl | rfl | rfl | rfl <;> decide), Nat.one_mul, msk_nI (by rcases (show c = 0 ∨ c = 1 ∨ c = 2 ∨ c = 3 by omega) with rfl | rfl | rfl | rfl <;> decide), Nat.testBit_two_pow, decide_eq_true_iff]
  exact eq_comm
end BMK
theorem x_minJ {en : pN} {d a b : Nat} {s : qS} (ha : a < 2 ^ 31) (hb : b < 2 ^ 31) : qev en (d + 1) 412 [.int (nI a), .int (nI b)] s = some (some (.int (nI (min a b))), s) := by
  refine le_J9_min_7cf53 en _ _ _ _ _ ?_
  by_cases q : b < a
  · rw [if_pos (by rw [n_LT hb ha]; exact q), Nat.min_eq_right (by omega)]
  · rw [if_neg (by rw [n_LT hb ha]; exact q), Nat.min_eq_left (by omega)]
/-- what of a group shows -/
abbrev grE (A E : Nat → Nat) (op : Nat → Nat) (k0 j : Nat) (p : Nat → Prop) : Prop := ∃ i, k0 ≤ i ∧ i < j ∧ ∃ e, A (op i) ≤ e ∧ e < A (op i + 1) ∧ p e
section CLJ
variable {en : pN} {d N C no nn Q v k0 : Nat} {I L G G' X op tr A E T M : Nat → Nat} {s s' s'' τ : qS} {W B R K : Nat → Bool} {fr : Bool} {r : qR}
theorem x_readyTh (hM : ∀ v, v < N → s.1 93 v = nI (M v)) (hv : v < N) (hN : N ≤ 20000) : qev en (d + 1) 189 [.ref 70, .int (nI v)] s = some (some (.int (nI (M v) &&& 15)), s) := by
  refine le_X10_readyThreads en _ _ _ _ ?_
  rw [gd_in (by omega) (by decide), n_cl (by omega), hM v hv]
/-- the steps of one state -/
theorem x_clEdges (hN : N ≤ 20000) (hAN : A N ≤ 200000) (hA : ∀ i j, i ≤ j → j ≤ N → A i ≤ A j) (hG : cjG A E T N s) (hg : ∀ v, v < 20000 → s.1 107 v = nI (G' v)) (hGb : ∀ v, v < N → G' v ≤ 20000) (hQ : s.1 103 12 = nI (Q + 1)) (hQb : Q < 20000) (hf : ∀ v, v < N → s.1 104 v = fgV (W v) (B v) (R v) (K v)) {v2 v3 v7 : Int32} {u : Nat} (hu : u < N) :
    ∀ (m e : Nat) (b4 b5 : Bool) (x6 : Int32), A u ≤ e → e + m = A (u + 1) → (∀ (b4' b5' : Bool) (x6' : Int32), (b4' = true ↔ b4 = true ∨ ∃ e', e ≤ e' ∧ e' < A (u + 1) ∧ K (E e') = true) → (b5' = true ↔ b5 = true ∨ ∃ e', e ≤ e' ∧ e' < A (u + 1) ∧ G' (E e') = Q + 1) → (∀ t, t < 4 → (bI' x6' t ↔ bI' x6 t ∨ ∃ e', e ≤ e' ∧ e' < A (u + 1) ∧ G' (E e') = Q + 1 ∧ T e' / 10 = t)) → L_X2_close_59 en (d + 1) v2 v3 (bt b4') (bt b5') x6' (v7 + (1 : Int32)) s = some r) →
      L_X2_close_129 en (d + 1) v2 v3 (bt b4) (bt b5) x6 v7 (nI u) (nI e) s = some r := by
  have hA1 := hG.1 (u + 1) (by omega)
  have hAb : A (u + 1) ≤ A N := hA (u + 1) N hu (Nat.le_refl _)
  intro m
  induction m with
  | zero =>
    intro e b4 b5 x6 hAe he hx
    refine le_X2_close_129 en _ _ _ _ _ _ _ _ _ _ _ ?_
    rw [show nI u + (1 : Int32) = nI (u + 1) from n_ar, gd_in (by omega) (by decide), n_cl (by omega), hA1, if_pos (by rw [n_LE (by omega) (by omega)]; omega)]
    refine hx b4 b5 x6 ?_ ?_ (fun t ht => ?_)
    · exact ⟨Or.inl, fun z => z.elim id (fun ⟨e', h1, h2, _⟩ => absurd h1 (by omega))⟩
    · exact ⟨Or.inl, fun z => z.elim id (fun ⟨e', h1, h2, _⟩ => absurd h1 (by omega))⟩
    · exact ⟨Or.inl, fun z => z.elim id (fun ⟨e', h1, h2, _⟩ => absurd h1 (by omega))⟩
  | succ m ih =>
    intro e b4 b5 x6 hAe he hx
    obtain ⟨z1, z2, z3⟩ := hG.2.1 e (by omega)
    refine le_X2_close_129 en _ _ _ _ _ _ _ _ _ _ _ ?_
    rw [show nI u + (1 : Int32) = nI (u + 1) from n_ar, gd_in (by omega) (by decide), n_cl (by omega), hA1, if_neg (by rw [n_LE (by omega) (by omega)]; omega), gd_in (by omega) (by decide), n_cl (by omega), z1, x_stateOf z3 (by omega), bI_some, gd_in (by omega) (by decide), n_cl (by omega), hg _ (by omega), hQ]
    have sp : ∀ p : Nat → Prop, (∃ e', e ≤ e' ∧ e' < A (u + 1) ∧ p e') ↔ p e ∨ ∃ e', e + 1 ≤ e' ∧ e' < A (u + 1) ∧ p e' := fun p => by
      constructor
      · rintro ⟨e', h1, h2, h3⟩
        by_cases q : e' = e
        · left; rw [← q]; exact h3
        · exact Or.inr ⟨e', by omega, h2, h3⟩
      · rintro (h | ⟨e', h1, h2, h3⟩)
        · exact ⟨e, Nat.le_refl _, by omega, h⟩
        · exact ⟨e', by omega, h2, h3⟩
    have f198 : ∀ (b5' : Bool) (y6 : Int32), (b5' = true ↔ b5 = true ∨ G' (E e) = Q + 1) → (∀ t, t < 4 → (bI' y6 t ↔ bI' x6 t ∨ (G' (E e) = Q + 1 ∧ T e / 10 = t))) → L_X2_close_198 en (d + 1) v2 v3 (bt b4) (bt b5') y6 v7 (nI u) (nI e) (nI (E e)) s = some r := by
      intro b5' y6 h5 h6
      have nx : ∀ b4' : Bool, (b4' = true ↔ b4 = true ∨ K (E e) = true) → L_X2_close_129 en (d + 1) v2 v3 (bt b4') (bt b5') y6 v7 (nI u) (nI (e + 1)) s = some r := fun b4' h4 => by
        refine ih (e + 1) b4' b5' y6 (by omega) (by omega) (fun c4 c5 w6 g4 g5 g6 => hx c4 c5 w6 ?_ ?_ (fun t ht => ?_))
        · rw [g4, h4, sp (fun e' => K (E e') = true), or_assoc]
        · rw [g5, h5, sp (fun e' => G' (E e') = Q + 1), or_assoc]
        · rw [g6 t ht, h6 t ht, sp (fun e' => G' (E e') = Q + 1 ∧ T e' / 10 = t), or_assoc]
      refine le_X2_close_198 en _ _ _ _ _ _ _ _ _ _ _ _ ?_
      rw [show nI e + (1 : Int32) = nI (e + 1) from n_ar]
      cases hb : b4
      · rw [if_neg (show ¬ ¬ bt false = (0 : Int32) from not_not_intro rfl), gd_in (by omega) (by decide), n_cl (by omega), hf _ z2]
        cases hk : K (E e)
        · rw [if_pos (by rw [fg_8])]
          exact nx false (by rw [hb, hk]; decide)
        · rw [if_neg (by rw [fg_8]; decide)]
          exact nx true (by rw [hb, hk]; decide)
      · rw [if_pos (show ¬ bt true = (0 : Int32) by decide)]
        exact nx true (by rw [hb]; exact ⟨fun _ => Or.inl rfl, fun _ => rfl⟩)
    have hgb := hGb _ z2
    by_cases q : G' (E e) = Q + 1
    · rw [if_neg (by rw [q]; exact not_not_intro rfl), z1, x_threadOf z3 (by omega), bI_some, nm_eq]
      refine f198 true _ ⟨fun _ => Or.inr q, fun _ => rfl⟩ (fun t ht => ?_)
      rw [msk_or, msk_sh (by omega)]
      exact ⟨fun z => z.elim Or.inl (fun w => Or.inr ⟨q, w.symm⟩), fun z => z.elim Or.inl (fun w => Or.inr w.2.symm)⟩
    · rw [if_pos (by rw [n_EQ (by omega) (by omega)]; exact q)]
      exact f198 b5 x6 ⟨Or.inl, fun z => z.elim id (fun w => absurd w q)⟩ (fun t ht => ⟨Or.inl, fun z => z.elim id (fun w => absurd w.1 q)⟩)
end CLJ
