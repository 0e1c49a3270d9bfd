/-! SWITCHES: tables of the fewest; counts. -/
/-- how many of the first n places are at most b -/
def cqL (T : Nat → Nat) (b : Nat) : Nat → Nat
  | 0 => 0
  | n + 1 => cqL T b n + (if T n ≤ b then 1 else 0)
section CNL
variable {T T' : Nat → Nat} {b b' n v x : Nat}
theorem cqL_le : ∀ n, cqL T b n ≤ n := by
  intro n
  induction n with
  | zero => exact Nat.le_refl _
  | succ n ih =>
    show cqL T b n + (if T n ≤ b then 1 else 0) ≤ n + 1
    split <;> omega
theorem cqL_lt : ∀ n, v < n → ¬ T v ≤ b → cqL T b n < n := by
  intro n
  induction n with
  | zero => intro h _; omega
  | succ n ih =>
    intro h q
    show cqL T b n + (if T n ≤ b then 1 else 0) < n + 1
    by_cases e : v = n
    · subst e
      rw [if_neg q]
      have := cqL_le (T := T) (b := b) v
      omega
    · have := ih (by omega) q
      split <;> omega
theorem cqL_mono (h : ∀ j, j < n → T j ≤ b → T' j ≤ b') : cqL T b n ≤ cqL T' b' n := by
  induction n with
  | zero => exact Nat.le_refl _
  | succ n ih =>
    show cqL T b n + (if T n ≤ b then 1 else 0) ≤ cqL T' b' n + (if T' n ≤ b' then 1 else 0)
    have i1 := ih (fun j hj => h j (by omega))
    have i2 := h n (by omega)
    by_cases q : T n ≤ b
    · rw [if_pos q, if_pos (i2 q)]; omega
    · rw [if_neg q]; split <;> omega
/-- one more place -/
theorem cqL_up : ∀ n, v < n → ¬ T v ≤ b → x ≤ b → cqL (at1 T v x) b n = cqL T b n + 1 := by
  intro n
  induction n with
  | zero => intro h; omega
  | succ n ih =>
    intro h q hx
    show cqL (at1 T v x) b n + (if at1 T v x n ≤ b then 1 else 0) = cqL T b n + (if T n ≤ b then 1 else 0) + 1
    by_cases e : v = n
    · subst e
      have e1 : cqL (at1 T v x) b v = cqL T b v := by
        refine Nat.le_antisymm (cqL_mono fun j hj hh => ?_) (cqL_mono fun j hj hh => ?_)
        · rw [at1_n (by omega)] at hh; exact hh
        · rw [at1_n (by omega)]; exact hh
      rw [e1, at1_s, if_pos hx, if_neg q]
    · rw [ih (by omega) q hx, at1_n (Ne.symm e)]
      omega
theorem cqL_dn (hv : x ≤ T v) : cqL T b n ≤ cqL (at1 T v x) b n := cqL_mono fun j _ h => by
  by_cases e : j = v
  · rw [e, at1_s]; rw [e] at h; omega
  · rw [at1_n e]; exact h
end CNL
/-- a switch away from a thread that could go on -/
def cstS (P : Nat → fI) (w nt : Nat) (X : xT) (k l t : Nat) : Nat := if ¬ l = t ∧ (rdl P w (xS X k) nt nt).any (fun a => decide (a / 10 = l)) = true then 1 else 0
/-- steps from a state are told by T -/
abbrev clK (P : Nat → fI) (w nt : Nat) (X : xT) (T : Nat → Nat → Nat) (k l : Nat) : Prop := ∀ e, xA X k ≤ e → e < xA X (k + 1) → T (xE X e).1 ((xE X e).2 / 10) ≤ T k l + cstS P w nt X k l ((xE X e).2 / 10)
/-- all steps are told by T -/
abbrev clT (P : Nat → fI) (w nt : Nat) (X : xT) (T : Nat → Nat → Nat) : Prop := (∀ e, xA X 0 ≤ e → e < xA X 1 → T (xE X e).1 ((xE X e).2 / 10) = 0) ∧ ∀ k, k < xN X → ∀ l, l < 4 → clK P w nt X T k l
/-- T is the greatest such table below B -/
abbrev grT (P : Nat → fI) (w nt : Nat) (X : xT) (B : Nat) (T : Nat → Nat → Nat) : Prop := clT P w nt X T ∧ (∀ k, k < xN X → ∀ l, l < 4 → T k l ≤ B) ∧ ∀ U, clT P w nt X U → (∀ k, k < xN X → ∀ l, l < 4 → U k l ≤ B) → ∀ k, k < xN X → ∀ l, l < 4 → U k l ≤ T k l
section CLT
variable {P : Nat → fI} {w nt : Nat} {X : xT} {T U : Nat → Nat → Nat} {B B' : Nat}
theorem clT_min (h : clT P w nt X T) : clT P w nt X (fun k l => min (T k l) B) := by
  refine ⟨fun e h1 h2 => ?_, fun k hk l hl e h1 h2 => ?_⟩
  · show min (T _ _) B = 0
    rw [h.1 e h1 h2]
    exact Nat.zero_min _
  · have := h.2 k hk l hl e h1 h2
    show min (T _ _) B ≤ min (T k l) B + _
    omega
/-- two such tables agree where the lesser bound is not met -/
theorem grT_eq (hT : grT P w nt X B T) (hU : grT P w nt X B' U) (hB : B' ≤ B) {k l : Nat} (hk : k < xN X) (hl : l < 4) : U k l = min (T k l) B' := by
  have h1 := hT.2.2 U hU.1 (fun k hk l hl => by have := hU.2.1 k hk l hl; omega) k hk l hl
  have h2 := hU.2.2 _ (clT_min (B := B') hT.1) (fun k hk l hl => Nat.min_le_right _ _) k hk l hl
  have h2 : min (T k l) B' ≤ U k l := h2
  have h3 := hU.2.1 k hk l hl
  omega
end CLT

