/-! THE CLASS'S CALLS: gained, drop, sound of nothing, count of lines. -/
section SML
variable {en : pN} {d w N : Nat} {s : qS}
theorem x_gained : qev en (d + 1) 237 [.ref 0] s = some (some (.int (s.1 0 14)), s) := le_X11_gained en d s _ rfl
theorem x_drop0 (h : s.1 0 10 = 0) : qev en (d + 1) 235 [.ref 0] s = some (some (.int 0), s) := by
  refine le_X11_drop en d s _ ?_
  rw [h, if_neg (show ¬ ¬ (0 : Int32) = 0 from not_not_intro rfl)]
theorem x_drop1 (h10 : ¬ s.1 0 10 = 0) (h11 : ¬ s.1 0 11 = 0) (h12 : s.1 0 12 = 0) : qev en (d + 2) 235 [.ref 0] s = some (some (.int 1), uI (uI (uI s 70 17 0) 0 11 0) 0 10 0) := by
  have e : qev en (d + 1) 239 [.ref 0] s = some (none, uI (uI s 70 17 0) 0 11 0) := by
    refine le_X11_forgetRewritten en d s _ ?_
    rw [if_neg h11, nm_eq, nm_eq]
    refine le_X11_forgetRewritten_20 en d _ _ ?_
    have e12 : (uI (uI s 70 17 0) 0 11 0).1 0 12 = 0 := by
      rw [g_I, if_neg (by decide), uI_ne (by decide)]; exact h12
    rw [e12, if_pos rfl]
  refine le_X11_drop en (d + 1) s _ ?_
  rw [if_pos h10, e, bV_some, nm_eq]
theorem x_sound0 (h : s.1 0 10 = 0) (hw : w ≤ 2) : qev en (d + 2) 236 [.ref 0, .int (nI w)] s = some (some (.int (-2)), s) := by
  refine le_X11_sound en (d + 1) _ s _ ?_
  have hn2u : ¬ (2 : Int32) < nI w := by rw [show (2 : Int32) = nI 2 from rfl, n_LT (by omega) (by omega)]; omega
  rw [x_isWay (d := d), bI_some, if_neg (nI_pos (by omega)), if_neg hn2u, if_pos (by decide), h, if_neg (show ¬ ¬ (0 : Int32) = 0 from not_not_intro rfl)]
theorem x_count6 (h9 : ¬ s.1 0 9 = 0) (h12 : s.1 11 12 = nI N) : qev en (d + 1) 205 [.ref 0, .int (6 : Int32)] s = some (some (.int (nI N)), s) := by
  refine le_X11_count en d _ s _ ?_
  show (if s.1 0 9 = (0 : Int32) then some (some (Value.int (0 : Int32)), s) else some (some (Value.int (s.1 11 12)), s)) = _
  rw [if_neg h9, h12]
end SML
