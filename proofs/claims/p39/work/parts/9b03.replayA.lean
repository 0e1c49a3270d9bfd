/-! REPLAY: parts of both sides. -/
section RPA
variable {en : pN} {d w nc nl nt n n' p t ch len : Nat} {P f g : Nat → fI} {τ τ' τ'' σ σ' σ'' : qS} {X : xT} {fw : Bool} {F F' N : fI} {x : Int32}
theorem XV_beg {k : Nat} (hX : XV P w nc nl nt n X) : XV P w nc nl nt n (begK X k) := hX
theorem frX.tr (h : frX τ τ') (g : frX τ' τ'') : frX τ τ'' := ⟨fun a h1 h2 h3 h4 h5 h6 h7 => (g.1 a h1 h2 h3 h4 h5 h6 h7).trans (h.1 a h1 h2 h3 h4 h5 h6 h7), fun k hk => (g.2.1 k hk).trans (h.2.1 k hk), fun k hk => (g.2.2.1 k hk).trans (h.2.2.1 k hk), fun a ha => (g.2.2.2.1 a ha).trans (h.2.2.2.1 a ha), g.2.2.2.2.trans h.2.2.2.2⟩
theorem frX.rf : frX τ τ := ⟨fun _ _ _ _ _ _ _ _ => rfl, fun _ _ => rfl, fun _ _ => rfl, fun _ _ => rfl, rfl⟩
end RPA

