/-! THE READER, the class's own: the declarations one by one. -/
/-- the loop over declarations goes on from s to s' -/
abbrev LDs (en : pN) (v : Nat) (s s' : qS) : Prop := ∀ D, 130 ≤ D → ∀ r, L_X6_readProgram_21 en D (nI (v + 1)) s' = some r → L_X6_readProgram_21 en D (nI v) s = some r
section LDC
variable {en : pN} {v w : Nat} {s s1 s2 : qS} {K : List (Nat × Nat)} {b : Nat × Nat}
theorem ld_C (hk : LKs s ((317, w) :: b :: K)) (hv : v < 3000) (e1 : qev en 2 116 [.ref 65, .int (nI 317)] s = some (some (.int 1), s1)) (h1 : QV en 10 119 [.ref 65] s1 (none, s2)) : LDs en v s s2 := by
  intro D hD r hr
  refine le_X6_readProgram_21 en _ _ _ _ ?_
  rw [if_neg (by rw [n_le (by decide) (by omega)]; omega), (LKs_at hk).1, if_neg (by decide), show qev en D 116 [.ref 65, .int (317 : Int32)] s = _ from qev_up (D := D) (D - 2) 2 (by omega) e1, bI_some, if_neg (by decide), h1 D (by omega), bV_some, show nI v + (1 : Int32) = nI (v + 1) from n_ar]
  exact hr
theorem sk_N {x : Int32} {k : Nat} (hk : LKs s ((k, w) :: K)) (hx : x ≠ nI k) : ∀ D, 2 ≤ D → qev en D 116 [.ref 65, .int x] s = some (some (.int 0), s) := fun D hD => by
  obtain ⟨D, rfl⟩ : ∃ z, D = z + 2 := ⟨D - 2, by omega⟩
  exact x_skipN hk hx
theorem ld_K (hk : LKs s ((302, w) :: b :: K)) (hv : v < 3000) (e1 : qev en 2 116 [.ref 65, .int (nI 302)] s = some (some (.int 1), s1)) (h1 : QV en 10 120 [.ref 65] s1 (none, s2)) : LDs en v s s2 := by
  intro D hD r hr
  refine le_X6_readProgram_21 en _ _ _ _ ?_
  rw [if_neg (by rw [n_le (by decide) (by omega)]; omega), (LKs_at hk).1, if_neg (by decide), sk_N (x := 317) hk (by decide) D (by omega), bI_some, if_pos rfl, show qev en D 116 [.ref 65, .int (302 : Int32)] s = _ from qev_up (D := D) (D - 2) 2 (by omega) e1, bI_some, if_neg (by decide), h1 D (by omega), bV_some, show nI v + (1 : Int32) = nI (v + 1) from n_ar]
  exact hr
theorem ld_T (hk : LKs s ((319, w) :: b :: K)) (hv : v < 3000) (e1 : qev en 2 116 [.ref 65, .int (nI 319)] s = some (some (.int 1), s1)) (h1 : QV en 120 121 [.ref 65] s1 (none, s2)) : LDs en v s s2 := by
  intro D hD r hr
  refine le_X6_readProgram_21 en _ _ _ _ ?_
  rw [if_neg (by rw [n_le (by decide) (by omega)]; omega), (LKs_at hk).1, if_neg (by decide), sk_N (x := 317) hk (by decide) D (by omega), bI_some, if_pos rfl, sk_N (x := 302) hk (by decide) D (by omega), bI_some, if_pos rfl, show qev en D 116 [.ref 65, .int (319 : Int32)] s = _ from qev_up (D := D) (D - 2) 2 (by omega) e1, bI_some, if_neg (by decide), h1 D (by omega), bV_some, show nI v + (1 : Int32) = nI (v + 1) from n_ar]
  exact hr
/-- the end: nobody starts or joins a thread; ways are laid -/
theorem ld_E (hk : LKs s ((0, w) :: K)) (hv : v < 3000) : ∀ D r, L_X6_readProgram_100 en D s = some r → L_X6_readProgram_21 en D (nI v) s = some r := fun D r hr => by
  refine le_X6_readProgram_21 en _ _ _ _ ?_
  rw [if_neg (by rw [n_le (by decide) (by omega)]; omega), (LKs_at hk).1, if_pos (show nI 0 = (0 : Int32) from rfl)]
  exact hr
theorem x_aimN {N d : Nat} (hN : N ≤ 100) (h12 : s.1 11 12 = nI N) (h11 : s.1 65 11 = 0) (hk : ∀ i, i < N → ∃ k, k < 19 ∧ s.1 18 i = nI k ∧ k ≠ 10 ∧ k ≠ 11) : qev en (d + 1) 132 [.ref 65] s = some (none, s) := by
  have loop : ∀ z w, w + z = N → L_X6_aimThreads_2 en d (nI w) s = some (none, s) := by
    intro z
    induction z with
    | zero =>
      intro w hw
      refine le_X6_aimThreads_2 en _ _ _ _ ?_
      rw [h12, if_pos (by rw [n_LE (by omega) (by omega)]; omega)]
    | succ z ih =>
      intro w hw
      obtain ⟨k, k1, k2, k3, k4⟩ := hk w (by omega)
      refine le_X6_aimThreads_2 en _ _ _ _ ?_
      rw [h12, if_neg (by rw [n_LE (by omega) (by omega)]; omega), h11, if_neg (show ¬ ¬ (0 : Int32) = 0 from not_not_intro rfl), gd_in (by omega) (by decide), n_cl (by omega), k2, nm_eq, if_neg (by rw [n_eq (by decide) (by omega)]; exact k3), if_pos (by rw [n_eq (by decide) (by omega)]; exact k4), show nI w + (1 : Int32) = nI (w + 1) from n_ar]
      exact ih (w + 1) (by omega)
  refine le_X6_aimThreads en _ _ _ ?_
  exact loop N 0 (by omega)
end LDC
