/-! THE READER: words of laws. -/
section FCW
variable {en : pN} {d v k i j n p : Nat} {t : qS} {B : Nat → Nat}
theorem kyd_at : ∀ j, j < 33 → kyd (KN.getD j 0) = 300 + j := by decide +kernel
theorem kyd_is (hj : j < 33) : kyd v = 300 + j ↔ v = KN.getD j 0 := by
  constructor
  · intro h
    unfold kyd at h
    by_cases q : isKey v = true
    · rw [if_pos q] at h
      have hm : v ∈ KN := by unfold isKey at q; exact List.contains_iff_mem.mp q
      obtain ⟨m, hm1, hm2⟩ := List.getElem_of_mem hm
      have hm3 : KN.getD m 0 = v := by rw [List.getD_eq_getElem?_getD, List.getElem?_eq_getElem hm1]; exact hm2
      have hlen : KN.length = 33 := rfl
      have := kyd_at m (by omega)
      rw [hm3] at this
      unfold kyd at this
      rw [if_pos q] at this
      have hmj : m = j := by omega
      rw [← hmj, hm3]
    · rw [if_neg q] at h
      omega
  · intro h
    rw [h]; exact kyd_at j hj
/-- a word's kind tells which key word it is -/
theorem word_kyd (hB : ∀ j, j < n → B j < 256) (hi : i < tkL B n) (hk : tkK B n i = 2 ∨ 300 ≤ tkK B n i) : tkK B n i = kyd (tkN B n i).2.2.1 := by
  obtain ⟨-, hp, h, -⟩ := aL_next (n + 1) 0 i _ (by omega) (by omega) (tk_at (B := B) hi)
  have e1 : tkK B n i = (aTok B n (tkN B n i).1).1 := congrArg Prod.fst h
  have e2 : (tkN B n i).2.2.1 = (aTok B n (tkN B n i).1).2.1 := congrArg (fun z : aT => z.2.1) h
  rw [e1] at hk
  rw [e1, e2]
  generalize (tkN B n i).1 = p at *
  unfold aTok at hk ⊢
  by_cases q1 : n ≤ p
  · rw [if_pos q1] at hk
    rcases hk with z | z <;> simp at z
  rw [if_neg q1] at hk ⊢
  by_cases q2 : ltr (B p) = true
  · rw [if_pos q2] at hk ⊢
    by_cases q3 : wnd wch B (n - p) p - p ≤ 8
    · rw [if_pos q3]
    · rw [if_neg q3] at hk
      rcases hk with z | z <;> simp at z
  rw [if_neg q2] at hk
  by_cases q4 : dgt (B p) = true
  · rw [if_pos q4] at hk
    by_cases q5 : wnd dgt B (n - p) p - p ≤ 3
    · rw [if_pos q5] at hk
      rcases hk with z | z <;> simp at z
    · rw [if_neg q5] at hk
      rcases hk with z | z <;> simp at z
  · rw [if_neg q4] at hk
    exfalso
    have hg : gkd (B p) (byt B n (p + 1)) ≠ 2 ∧ gkd (B p) (byt B n (p + 1)) < 300 := by
      have hb := hB p (by omega)
      unfold gkd
      repeat' split
      all_goals first | omega | (rename_i hs; have := sgn_rg hs; omega) | (rename_i hs _; have := sgn_rg hs; omega) | (rename_i hs _ _; have := sgn_rg hs; omega)
    rcases hk with z | z
    · exact hg.1 z
    · exact absurd z (by have := hg.2; show ¬ 300 ≤ gkd (B p) (byt B n (p + 1)); omega)
/-- the model's question for a key word -/
theorem m_isKeyW (hB : ∀ j, j < n → B j < 256) (hm : mtL t B n i) {C : Int64} (hj : j < 33) (hC : C = Int64.ofNat (w8 8 (KN.getD j 0))) : qev en (d + 1) 255 [.ref 151, .long C] t = some (some (.int (bt (decide (tkK B n i = 300 + j)))), t) := by
  obtain ⟨⟨mX, mn, hi⟩, m7, m4, mk1, m2, m3, m5, m6⟩ := id hm
  have hc : KN.getD j 0 < 128 ^ 8 := (show ∀ j, j < 33 → KN.getD j 0 < 128 ^ 8 by decide +kernel) j hj
  by_cases q : tkK B n i = 2 ∨ 300 ≤ tkK B n i
  · have h3 : t.1 151 3 = 1 := by rw [m3]; unfold kdM; rw [if_pos q]; rfl
    rw [m_isWord (tk_val (B := B) (n := n) hi) hc hC (m5 q) h3]
    have e : decide ((tkN B n i).2.2.1 = KN.getD j 0) = decide (tkK B n i = 300 + j) := by
      rw [word_kyd hB hi q]
      exact decide_eq_decide.mpr (kyd_is hj).symm
    rw [e]
    cases decide (tkK B n i = 300 + j) <;> rfl
  · have h3 : ¬ t.1 151 3 = 1 := by
      rw [m3]
      unfold kdM
      rw [if_neg q]
      by_cases q3 : tkK B n i = 3
      · rw [if_pos q3]; decide
      · rw [if_neg q3, n_eq (by decide) (by omega)]; exact mk1
    rw [m_isWord0 h3, decide_eq_false (fun z => q (Or.inr (by omega)))]
    rfl
end FCW
