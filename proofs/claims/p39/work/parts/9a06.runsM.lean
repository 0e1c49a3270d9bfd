/-! THE MODEL'S STEP is the class's. -/
/-- a text ends, and Q holds of what it gives -/
def exQ (X : Option qR) (Q : qR → Prop) : Prop := ∃ r, X = some r ∧ Q r
theorem exQ.le {X Y : Option qR} {Q : qR → Prop} (h : qle X Y) (g : exQ X Q) : exQ Y Q := by
  obtain ⟨r, h1, h2⟩ := g
  exact ⟨r, h r h1, h2⟩
theorem exQ.of {X : Option qR} {r : qR} {Q : qR → Prop} (h : X = some r) (g : Q r) : exQ X Q := ⟨r, h, g⟩
section MS
variable {en : pN} {d t i n top k K w e a c l u ch nc nl nt vv j m p o : Nat} {v x z : Int32} {q : Nat} {σ : qS} {F s y g N : fI} {P : Nat → fI} {D : Int64}
theorem sv_vw (h : SVw w nc nl nt N) (hw : w = 2) (ht : t < 4) (htn : t < nt) : vwV nc N (N (224 + t)) := by
  rcases h with ⟨z, -⟩ | ⟨-, -, h, -⟩
  · exact absurd hw z
  · rcases h t ht with ⟨-, z⟩ | ⟨z, -⟩
    · exact z
    · omega
theorem wk_in {O Q M f : fI} : ∀ (n i top : Nat) (f : fI), inR (f 0) → wk O Q M n i f top = some v → inR v := by
  intro n
  induction n with
  | zero => intro i top f h0 h; cases h; exact h0
  | succ n ih =>
    intro i top f h0 h
    unfold wk at h
    dsimp only at h
    split at h
    · cases h
    · rename_i hx
      refine ih _ _ _ ?_ h
      by_cases z : 0 = top - ar (O i).toNatClampNeg
      · rw [← z, pk_us]
        rw [← z] at hx
        exact ⟨Int32.not_lt.mp fun q => hx (Or.inr q), Int32.not_lt.mp fun q => hx (Or.inl q)⟩
      · rw [pk_un z]; exact h0
theorem exv_in {r : Nat} (h : exv P r N i = some v) : inR v := wk_in (f := fun _ => 0) _ _ _ _ ⟨by decide, by decide⟩ h
theorem act_N (h : ¬ (actS w P N t ch nt i o k).1 = 0) : (actS w P N t ch nt i o k).2 = N := by
  revert h
  unfold actS
  split
  · unfold touS
    split
    · intro h; exact absurd rfl h
    · split
      · intro _; rfl
      · split
        · intro h; exact absurd rfl h
        · split
          · intro h; exact absurd rfl h
          · split
            · split
              · intro _; rfl
              · intro h; exact absurd rfl h
            · unfold add2
              split
              · intro _; rfl
              · intro h; exact absurd rfl h
  · split
    · unfold lckS
      split
      · split
        · intro _; rfl
        · intro h; exact absurd rfl h
      · split
        · intro _; rfl
        · split
          · intro h; exact absurd rfl h
          · split
            · intro h; exact absurd rfl h
            · intro h; exact absurd rfl h
    · split
      · unfold metS
        split
        · split
          · intro _; rfl
          · intro h; exact absurd rfl h
        · split
          · intro h; exact absurd rfl h
          · split
            · intro h; exact absurd rfl h
            · intro h; exact absurd rfl h
      · intro _; rfl
end MS

