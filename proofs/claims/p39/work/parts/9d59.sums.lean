/-! AN OUTCOME AS ONE NUMBER. -/
def oV (P : Nat → fI) (N : fI) : Int32 := 1013 * (1013 * (1013 * (1013 * (1009 * (1009 * (1009 * nI (soS N 2) + N 48) + N 49) + N 50) + ocv P N 0 0) + ocv P N 0 1) + ocv P N 1 0) + ocv P N 1 1
section OVS
variable {P P2 : Nat → fI} {N M : fI} {t v : Nat}
theorem ocv_e (h : ∀ j, 16 ≤ j → j < 40 → N j = M j) (ht : t < 2) (hv : v < 2) : ocv P N t v = ocv P M t v := by
  unfold ocv
  rw [h (16 + t * 6 + v) (by omega) (by omega)]
theorem ocv_P (h : P2 3 t = P 3 t) : ocv P2 N t v = ocv P N t v := by
  unfold ocv lct
  rw [h]
theorem oV_e (h : eqO 2 N M) : oV P N = oV P M := by
  unfold oV
  rw [h.1, h.2.2 48 (by decide) (by decide), h.2.2 49 (by decide) (by decide), h.2.2 50 (by decide) (by decide), ocv_e h.2.1 (by decide) (by decide), ocv_e h.2.1 (t := 0) (v := 1) (by decide) (by decide), ocv_e h.2.1 (t := 1) (v := 0) (by decide) (by decide), ocv_e h.2.1 (t := 1) (v := 1) (by decide) (by decide)]
theorem oV_P (h : ∀ t, t < 2 → P2 3 t = P 3 t) : oV P2 N = oV P N := by
  unfold oV
  rw [ocv_P (h 0 (by decide)), ocv_P (v := 1) (h 0 (by decide)), ocv_P (h 1 (by decide)), ocv_P (v := 1) (h 1 (by decide))]
end OVS
