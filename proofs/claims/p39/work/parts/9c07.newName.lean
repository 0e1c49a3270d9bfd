/-! THE READER: new names on both sides. -/
/-- whether one of k threads from i on has the local v -/
def lcT (U : Nat → Nat → Nat) (cl : Nat → Nat) (v : Nat) : Nat → Nat → Bool
  | 0, _ => false
  | k + 1, i => decide (fnN (U i) v (cl i) 0 ≠ -1) || lcT U cl v k (i + 1)
section NNM
variable {en : pN} {d d' k i n N j x y a mx v nc nl nt : Nat} {V cl : Nat → Nat} {U : Nat → Nat → Nat} {s s' t t' : qS} {B : Nat → Nat} {w : Int32} {F p : Nat}
theorem fnN_neg (h6 : cl x ≤ 6) : (fnN (U x) v (cl x) 0 < (0 : Int32)) ↔ fnN (U x) v (cl x) 0 = -1 := by
  rcases fnN_is (V := U x) (v := v) (cl x) 0 with ⟨h1, _⟩ | ⟨j, _, h2, h3, _, _⟩
  · rw [h1]; exact ⟨fun _ => rfl, fun _ => by decide⟩
  · rw [h3]
    refine ⟨fun h => ?_, fun h => ?_⟩
    · rw [n_gt (by decide) (by omega)] at h; omega
    · rw [n_m1 (by omega)] at h; exact h.elim
end NNM

