/-! THE CLASS'S CALLS: a run, step by step. -/
section RST
variable {en : pN} {d nc nl n len j t R : Nat} {P f : Nat → fI} {N : fI} {τ τ' : qS} {ρ : Nat → Nat}
theorem run_step (hG : GP P nc nl n) (h : RXi τ 11 P 0 N len f) (hS : SV P 0 nc nl 2 n N) (hlen : len < 200) (hj : j < (rdl P 0 N 2 2).length) :
    ∃ (t : Nat) (τ1 τ2 : qS) (f' : Nat → fI), t < 2 ∧ rd0 P t N ∧ qev en (d + 8) 208 [.ref 0, .int (nI j)] τ = some (some (.int (nI (10 * t))), τ1) ∧ qev en (d + 8) 209 [.ref 0, .int (nI t), .int (nI 0)] τ1 = some (some (.int (nI (rdl P 0 (sp P t N) 2 2).length)), τ2) ∧ RXi τ2 11 P 0 (sp P t N) (len + 1) f' ∧ frX τ τ2 := by
  have hl2 := rdl_le2 hG hS
  obtain ⟨τ1, e1, f1, r1⟩ := x_readyQ (en := en) (d := d + 1) (u := nI j) h hG.1 hS (by decide)
  have ev : rdR (rdl P 0 N 2 2) (nI j) = nI (rdl P 0 N 2 2)[j] := by
    unfold rdR
    rw [if_neg (nI_pos (by omega)), dif_pos (by rw [show clp (nI j) = j from n_clp (by omega)]; exact hj)]
    simp only [show clp (nI j) = j from n_clp (by omega)]
  rw [ev] at e1
  obtain ⟨t, ht, ea, hr⟩ : ∃ t, t < 2 ∧ (rdl P 0 N 2 2)[j] = 10 * t ∧ rd0 P t N := by
    rcases (rdl_0 hG hS _).mp (List.getElem_mem hj) with ⟨a, b⟩ | ⟨a, b⟩
    · exact ⟨0, by decide, a, b⟩
    · exact ⟨1, by decide, a, b⟩
  rw [ea] at e1
  obtain ⟨r, τ2, e2, f2, hc⟩ := x_turn (en := en) (d := d) (u := nI t) (v := nI 0) r1 hG.1 hS (by decide) (by omega)
  have hrd : rdS P 0 N t 0 2 := (rdS_0 hG hS ht).mpr ⟨rfl, hr⟩
  rcases hc with ⟨hno, -, -⟩ | ⟨t', ch, ⟨u1, u2, u3, u4⟩, hc⟩
  · exact absurd ⟨t, 0, rfl, rfl, by decide, hrd⟩ hno
  · have et : t = t' := by
      by_cases q : t' < 4
      · exact (nI_eq (by omega) (by omega)).mp u1
      · exfalso
        have h2 : t' < 2 := by
          have := u4
          unfold rdS at this
          exact this.1
        omega
    have ec : 0 = ch := (nI_eq (by decide) (by omega)).mp u2
    subst et; subst ec
    rcases hc with ⟨l2, -, -⟩ | ⟨-, hr', told, -, hR⟩
    · omega
    · refine ⟨t, τ1, τ2, _, ht, hr, e1, ?_, hR, f1.tr f2⟩
      rw [e2, hr']; rfl
end RST
