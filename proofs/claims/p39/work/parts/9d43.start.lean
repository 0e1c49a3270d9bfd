/-! THE READER, the class's own: the first token; the tokens of the law's programs. -/
section STT
variable {en : pN} {d n i : Nat} {B : Nat → Nat} {S : List Nat} {T : List (Nat × Nat)} {s τ : qS}
theorem LKs_0 (hC : TC τ (cutL (τ.2.1 3) B n (n + 1) 0)) (hA : TA τ (cutL (τ.2.1 3) B n (n + 1) 0) 0) (hK : ∀ i, i < 33 → τ.2.1 3 i = Int64.ofNat (KN.getD i 0)) (hS : ∀ i, i < n → B i = S.getD i 0) (hn : n = S.length) (hL : lexL (n + 1) S = T) (h1 : ∀ t, t ∈ T → t.1 ≠ 1 ∧ t.1 < 400) : LKs τ T := by
  have hm := aL_L (B := B) (n := n) (n + 1) 0 S (by omega) (fun i hi => by rw [Nat.zero_add]; exact hS i (by omega))
  rw [hL] at hm
  obtain ⟨r1, r2⟩ := cut_rel (B := B) (n := n) hK (n + 1) 0
  have key : ∀ (i : Nat) (t : Nat × cTok), (cutL (τ.2.1 3) B n (n + 1) 0)[i]? = some t → ∃ k, T[i]? = some k ∧ t.2.1 = k.1 ∧ t.2.2.1 = Int64.ofNat k.2 := fun i t ht => by
    have hi : i < (cutL (τ.2.1 3) B n (n + 1) 0).length := (List.getElem?_eq_some_iff.mp ht).1
    have hi2 : i < (aL B n (n + 1) 0).length := by omega
    have ha : (aL B n (n + 1) 0)[i]? = some (aL B n (n + 1) 0)[i] := List.getElem?_eq_getElem hi2
    obtain ⟨-, e2, e3⟩ := r2 i t _ ht ha
    have hT : T[i]? = some ((aL B n (n + 1) 0)[i].2.1, (aL B n (n + 1) 0)[i].2.2.1) := by
      rw [← hm, List.getElem?_map, ha]
      rfl
    refine ⟨_, hT, e2, e3 ?_⟩
    exact (h1 _ (List.mem_of_getElem? hT)).1
  refine ⟨_, 0, hC, hA, fun t ht => ?_, ?_⟩
  · obtain ⟨i, hi⟩ := List.getElem?_of_mem ht
    obtain ⟨k, k1, k2, -⟩ := key i t hi
    rw [k2]; exact (h1 k (List.mem_of_getElem? k1)).2
  · rw [List.drop_zero]
    refine List.ext_getElem? (fun i => ?_)
    rw [List.getElem?_map, List.getElem?_map]
    cases ht : (cutL (τ.2.1 3) B n (n + 1) 0)[i]? with
    | some t =>
      obtain ⟨k, k1, k2, k3⟩ := key i t ht
      rw [k1]
      show some (t.2.1, t.2.2.1) = some (k.1, Int64.ofNat k.2)
      rw [k2, k3]
    | none =>
      have h0 := List.getElem?_eq_none_iff.mp ht
      have hTl : T.length = (aL B n (n + 1) 0).length := by rw [← hm, List.length_map]
      rw [List.getElem?_eq_none_iff.mpr (by omega)]
      rfl
theorem TKS_ok {a1 a2 a3 a4 : Nat} (h1 : a1 < 16) (h2 : a2 < 16) (h3 : a3 < 16) (h4 : a4 < 16) : ∀ t, t ∈ TKS a1 a2 a3 a4 → t.1 ≠ 1 ∧ t.1 < 400 := by
  have hF : ∀ m, m < 16 → ∀ t, t ∈ FT m → t.1 ≠ 1 ∧ t.1 < 400 := by decide
  have hH : ∀ t, t ∈ HDT → t.1 ≠ 1 ∧ t.1 < 400 := by decide
  have hM : ∀ t, t ∈ MDT → t.1 ≠ 1 ∧ t.1 < 400 := by decide
  have hE : ∀ t, t ∈ ([(125, 0), (0, 0)] : List (Nat × Nat)) → t.1 ≠ 1 ∧ t.1 < 400 := by decide
  intro t ht
  unfold TKS at ht
  rcases List.mem_append.mp ht with ht | ht
  · exact hH t ht
  rcases List.mem_append.mp ht with ht | ht
  · exact hF a1 h1 t ht
  rcases List.mem_append.mp ht with ht | ht
  · exact hF a2 h2 t ht
  rcases List.mem_append.mp ht with ht | ht
  · exact hM t ht
  rcases List.mem_append.mp ht with ht | ht
  · exact hF a3 h3 t ht
  rcases List.mem_append.mp ht with ht | ht
  · exact hF a4 h4 t ht
  · exact hE t ht
end STT
