/-! SWITCHES, the model's side: a step looked at. -/
abbrev mwF (τ s : qS) : Prop := (∀ c, c ≠ 227 → c ≠ 228 → c ≠ 229 → s.1 c = τ.1 c) ∧ s.2 = τ.2
/-- from the first state no step is a switch -/
def cs5 (P : Nat → fI) (w nt : Nat) (X : xT) (k l t : Nat) : Nat := if l = 4 then 0 else cstS P w nt X k l t
abbrev clV (P : Nat → fI) (w nt : Nat) (X : xT) (T : Nat → Nat) (v : Nat) : Prop := ∀ e, xA X (v / 5) ≤ e → e < xA X (v / 5 + 1) → T (5 * (xE X e).1 + (xE X e).2 / 10) ≤ T v + cs5 P w nt X (v / 5) (v % 5) ((xE X e).2 / 10)
/-- a node is done -/
abbrev dnV (P : Nat → fI) (w nt : Nat) (X : xT) (T G : Nat → Nat) (v : Nat) : Prop := clV P w nt X T v ∧ (endC P w (xS X (v / 5)) nt = true → G (outN P w nt (xS X) (v / 5)) ≤ T v)
section MW1
variable {en : pN} {d w nc nl nt n D D' v f m b t e k l oN : Nat} {P : Nat → fI} {s s' s'' τ : qS} {X : xT} {T T' Q Q' G G' : Nat → Nat} {x : Option Nat}
theorem mwF.rf : mwF τ τ := ⟨fun _ _ _ _ => rfl, rfl⟩
theorem mwF.tr (h : mwF s s') (g : mwF s' s'') : mwF s s'' := ⟨fun c a b y => (g.1 c a b y).trans (h.1 c a b y), g.2.trans h.2⟩
theorem dnV.le (h : dnV P w nt X T G v) (hT : ∀ j, T' j ≤ T j) (hG : ∀ j, G' j ≤ G j) (hv : T' v = T v) : dnV P w nt X T' G' v := ⟨fun e a b => by rw [hv]; exact Nat.le_trans (hT _) (h.1 e a b), fun he => by rw [hv]; exact Nat.le_trans (hG _) (h.2 he)⟩
end MW1

