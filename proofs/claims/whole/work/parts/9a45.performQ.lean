/-! THE HISTORY, the class's side: a call performed. -/
section PG
variable {en : pN} {d i e st z : Nat} {s : qS} {H : fI}
theorem x_perform (hi : i < 200) (he : e < 12) (hs : s.1 125 10 = nI st) (hst : st ≤ 3) (hH : s.1 (134 + e) = H) (hz : z ≤ 12) (hZ : s.1 147 e = nI z) : ∃ T', qev en (d + 1) 17 [.ref 125, .int (nI i), .int (nI e)] s = some (some (.int (pfm st (decide (s.1 128 i = (([0, 2, 3, 5] : List Int32).getD st 0))) H z (s.1 129 i)).2.2), pS s (134 + (e + 1)) (e + 1) T' (nI (pfm st (decide (s.1 128 i = (([0, 2, 3, 5] : List Int32).getD st 0))) H z (s.1 129 i)).2.1)) ∧ ∀ k, k < 13 → T' k = (pfm st (decide (s.1 128 i = (([0, 2, 3, 5] : List Int32).getD st 0))) H z (s.1 129 i)).1 k := by
  obtain ⟨T', e1, t1⟩ := l_59 (en := en) (d := d) (v := s.1 129 i) (c := decide (s.1 128 i = (([0, 2, 3, 5] : List Int32).getD st 0))) he hs hst hH hz
  refine ⟨T', le_X1_perform en d _ _ _ _ ?_, t1⟩
  rw [gd_true (n_in (by omega) (by decide)), n_ar, gd_true (n_in (by show e + 1 < 13; omega) (by decide)), nm_eq, n_cl (show e < 2 ^ 31 by omega), n_cl (show e + 1 < 2 ^ 31 by omega), hZ, gd_true (n_in hi (by decide)), nm_eq, n_cl (by omega), hs, gd_true (n_in (by omega) (by decide)), n_cl (by omega)]
  by_cases q : s.1 128 i = (([0, 2, 3, 5] : List Int32).getD st 0)
  · rw [decide_eq_true q] at e1 ⊢
    rw [if_neg (fun w => w q)]
    exact e1
  · rw [decide_eq_false q] at e1 ⊢
    rw [if_pos q]
    exact e1
end PG
