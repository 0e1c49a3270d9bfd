/-! THE READER: what a word names, on both sides. -/
section NAR
variable {en : pN} {d d' v k i c n nc nl nt : Nat} {V cl : Nat → Nat} {U : Nat → Nat → Nat} {s t : qS} {B : Nat → Nat}
theorem fnN_of {W : Nat → Nat} {j : Nat} (hW : ∀ a, a < k → W a = v → a = j) (hj : j < k) (h : W j = v) : fnN W v k 0 = nI j := by
  rcases fnN_is (V := W) (v := v) k 0 with ⟨_, h2⟩ | ⟨a, _, a2, a3, a4, _⟩
  · exact absurd h (h2 j (Nat.zero_le _) (by omega))
  · rw [a3, hW a (by omega) a4]
theorem fnN_no {W : Nat → Nat} (hW : ∀ a, a < k → W a ≠ v) : fnN W v k 0 = -1 := by
  rcases fnN_is (V := W) (v := v) k 0 with ⟨h1, _⟩ | ⟨a, _, a2, _, a4, _⟩
  · exact h1
  · exact absurd a4 (hW a (by omega))
/-- nothing, a cell, a lock or a thread -/
theorem name_alike (hn : nmR s t V U cl nc nl nt) (hv : v < 128 ^ 8) (hv0 : v ≠ 0) :
    ∃ x y z r : Int32, (∀ d, qev en (d + 1) 84 [.ref 11, .long (Int64.ofNat v)] s = some (some (.int x), s)) ∧ (∀ d, qev en (d + 1) 256 [.ref 151, .long (Int64.ofNat (w8 8 v))] t = some (some (.int y), t)) ∧ (∀ d, qev en (d + 1) 257 [.ref 151, .long (Int64.ofNat (w8 8 v))] t = some (some (.int z), t)) ∧ (∀ d, qev en (d + 1) 258 [.ref 151, .long (Int64.ofNat (w8 8 v))] t = some (some (.int r), t)) ∧
      ((x = -1 ∧ y = -1 ∧ z = -1 ∧ r = -1) ∨ (∃ c, c < nc ∧ x = nI c ∧ y = nI c ∧ z = -1 ∧ r = -1) ∨ (∃ l, l < nl ∧ x = nI (8 + l) ∧ y = -1 ∧ z = nI l ∧ r = -1) ∨ ∃ u, u < nt ∧ x = nI (12 + u) ∧ y = -1 ∧ z = -1 ∧ r = nI u) := by
  obtain ⟨⟨hnc, hnl, hnt4⟩, ⟨s9, s10, s11⟩, ⟨t12, t16, t18⟩, ⟨v1, v2, v3⟩, ⟨w1, w2, w3⟩, hL⟩ := hn
  refine ⟨fnN V v 16 0, fnN V v nc 0, fnN (fun l => V (8 + l)) v nl 0, fnN (fun u => V (12 + u)) v nt 0, fun d => ?_, fun d => ?_, fun d => ?_, fun d => ?_, ?_⟩
  · rw [c_named (r := 11) rfl]
    rw [show Int64.ofNat v = Int64.ofNat (id v) from rfl, fnd_N (e := id) (V := V) (fun a b => id_of) hv 16 0 (fun j a b => v1 j (by omega))]
  · rw [m_cellOf t12 hnc]
    rw [fnd_N (e := w8 8) (V := V) (fun a b => w8_of) hv nc 0 (fun j a b => ⟨(w1 j (by omega)).1, (v1 j (by omega)).2⟩)]
  · rw [m_lockOf t16 hnl]
    rw [fnd_N (e := w8 8) (V := fun l => V (8 + l)) (fun a b => w8_of) hv nl 0 (fun j a b => ⟨(w2 j (by omega)).1, (v1 (8 + j) (by omega)).2⟩)]
  · rw [m_threadOf t18 hnt4]
    rw [fnd_N (e := w8 8) (V := fun u => V (12 + u)) (fun a b => w8_of) hv nt 0 (fun j a b => ⟨(w3 j (by omega)).1, (v1 (12 + j) (by omega)).2⟩)]
  · have one : ∀ j, j < 16 → V j = v → ∀ a, a < 16 → V a = v → a = j := fun j hj h a ha h' => v3 a j ha hj (h'.trans h.symm) (by rw [h']; exact hv0)
    rcases fnN_is (V := V) (v := v) 16 0 with ⟨h1, h2⟩ | ⟨j, _, j2, j3, j4, _⟩
    · exact Or.inl ⟨h1, fnN_no (fun a ha => h2 a (by omega) (by omega)), fnN_no (fun a ha => h2 (8 + a) (by omega) (by omega)), fnN_no (fun a ha => h2 (12 + a) (by omega) (by omega))⟩
    · have o := one j (by omega) j4
      right
      rcases v2 j (by omega) (by rw [j4]; exact hv0) with q | ⟨q, q'⟩ | ⟨q, q'⟩
      · exact Or.inl ⟨j, q, j3, fnN_of (fun a ha h => o a (by omega) h) q j4, fnN_no (fun a ha h => by have := o (8 + a) (by omega) h; omega), fnN_no (fun a ha h => by have := o (12 + a) (by omega) h; omega)⟩
      · obtain ⟨l, hl⟩ : ∃ l, j = 8 + l := ⟨j - 8, by omega⟩
        exact Or.inr (Or.inl ⟨l, by omega, by rw [j3, hl], fnN_no (fun a ha h => by have := o a (by omega) h; omega), fnN_of (fun a ha h => by have := o (8 + a) (by omega) h; omega) (by omega) (by show V (8 + l) = v; rw [← hl]; exact j4), fnN_no (fun a ha h => by have := o (12 + a) (by omega) h; omega)⟩)
      · obtain ⟨u, hu⟩ : ∃ u, j = 12 + u := ⟨j - 12, by omega⟩
        exact Or.inr (Or.inr ⟨u, by omega, by rw [j3, hu], fnN_no (fun a ha h => by have := o a (by omega) h; omega), fnN_no (fun a ha h => by have := o (8 + a) (by omega) h; omega), fnN_of (fun a ha h => by have := o (12 + a) (by omega) h; omega) (by omega) (by show V (12 + u) = v; rw [← hu]; exact j4)⟩)
/-- a word is worth more than nothing -/
theorem wnu_ge {Q : Nat → Bool} {m : Nat} : ∀ (k p a : Nat), 1 ≤ m → a ≤ wnu Q m B k p a := by
  intro k
  induction k with
  | zero => intro p a _; exact Nat.le_refl _
  | succ k ih =>
    intro p a hm
    unfold wnu
    split
    · refine Nat.le_trans ?_ (ih (p + 1) _ hm)
      have := Nat.le_mul_of_pos_left a hm
      omega
    · exact Nat.le_refl _
end NAR
