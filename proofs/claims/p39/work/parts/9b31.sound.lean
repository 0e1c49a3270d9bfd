/-! SOUND, both sides. -/
section SNB
variable {en : pN} {d d' w nc nl nt n n2 n' i k m : Nat} {P P2 : Nat → fI} {σ σ' σ'' s τ : qS} {X X2 : xT} {F F' g y sr : fI} {D : Int64}
/-- both say the same -/
theorem sndQ_eq {g0 r r' g g' : Int32} (h : sndQ P P2 w nc nl nt g0 r g) (h' : sndQ P P2 w nc nl nt g0 r' g') : r = r' ∧ g = g' := by
  rcases h with ⟨h1, h2, h3⟩ | ⟨X, X2, a1, a2, a3, a4⟩
  · rcases h' with ⟨k1, k2, k3⟩ | ⟨Y, Y2, b1, b2, b3, b4⟩
    · exact ⟨h1.trans k1.symm, h2.trans k2.symm⟩
    · exfalso
      rcases h3 with z | ⟨X, z1, z2⟩
      · rw [z] at b1; cases b1
      · rw [z1] at b1; cases b1
        rcases z2 with z | z
        · omega
        · rw [z] at b3; cases b3
  · rcases h' with ⟨k1, k2, k3⟩ | ⟨Y, Y2, b1, b2, b3, b4⟩
    · exfalso
      rcases k3 with z | ⟨Y, z1, z2⟩
      · rw [z] at a1; cases a1
      · rw [z1] at a1; cases a1
        rcases z2 with z | z
        · omega
        · rw [z] at a3; cases a3
    · rw [a1] at b1; cases b1
      rw [a3] at b3; cases b3
      rcases a4 with ⟨c1, c2, c3⟩ | ⟨c1, k, c2, c3, c4, c5⟩
      · rcases b4 with ⟨e1, e2, e3⟩ | ⟨e1, k', e2, e3, e4, e5⟩
        · exact ⟨c1.trans e1.symm, c2.trans e2.symm⟩
        · exact absurd (c3 k' e2) e4
      · rcases b4 with ⟨e1, e2, e3⟩ | ⟨e1, k', e2, e3, e4, e5⟩
        · exact absurd (e3 k c2) c4
        · have : k = k' := by
            rcases Nat.lt_trichotomy k k' with z | z | z
            · exact absurd (e5 k z) c4
            · exact z
            · exact absurd (c5 k' z) e4
          exact ⟨c1.trans e1.symm, by rw [c3, e3, this]⟩
end SNB

