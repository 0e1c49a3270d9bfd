/-! REWRITINGS: one rewriting done, what was explored or run of the rewritten program forgotten, on both sides. -/
section CHG
variable {en : pN} {d d' k i n N j r v u m nc nl nt key a w : Nat} {cl th K : Nat → Nat} {bl : Nat → List Nat} {go : Nat → Bool} {s s' s1 t t' t1 : qS} {e x g y : Bool} {z : Int32}
theorem chX.tr {s'' : qS} (h : chX s s') (g : chX s' s'') : chX s s'' := ⟨fun c h1 h2 h3 => (g.1 c h1 h2 h3).trans (h.1 c h1 h2 h3), fun j hj => ⟨(g.2.1 j hj).1.trans (h.2.1 j hj).1, (g.2.1 j hj).2.trans (h.2.1 j hj).2⟩, fun c hc => (g.2.2.1 c hc).trans (h.2.2.1 c hc), g.2.2.2.trans h.2.2.2⟩
end CHG

