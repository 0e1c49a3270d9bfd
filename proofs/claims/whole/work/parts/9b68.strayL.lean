/-! THE READER: a word that can't stand in a law, on both sides. -/
section STL
variable {en : pN} {d d' v k i c n nc nl nt p : Nat} {V cl : Nat → Nat} {U : Nat → Nat → Nat} {s t : qS} {B : Nat → Nat}
theorem strayL_alike (hB : ∀ j, j < n → B j < 256) (hn : nmR s t V U cl nc nl nt) (hc : cL s B n i) (hm : mtL t B n i) (hk : tkK B n i = 2) (h8 : s.1 65 8 = 1) (h29 : t.1 151 29 = 1) :
    ∃ b : Bool, qev en (d + 2) 138 [.ref 65] s = some (some (.int (bt b)), s) ∧ (b = false → qev en (d' + 4) 271 [.ref 151] t = some (none, t)) ∧ (b = true → ∃ t', qev en (d' + 4) 271 [.ref 151] t = some (none, t') ∧ mtD t' 3 (tkN B n i).1 ∧ mvF t t') := by
  obtain ⟨hi, c1, c2, c3⟩ := cL_at hc
  have a2 := m_isFactW (en := en) (d := d' + 1) hB hm
  rw [hk, decide_eq_false (by omega)] at a2
  obtain ⟨⟨mX, mn, -⟩, m7, m4, mk1, m2, m3, m5, m6⟩ := id hm
  have hv := tk_val (B := B) (n := n) hi
  have hv0 := word_pos hB hi (Or.inl hk)
  have cw := c3 (by omega)
  have mw := m5 (Or.inl hk)
  obtain ⟨x, y, z, r, e1, e2, e3, e4, hcase⟩ := name_alike hn hv hv0
  have c9 : s.1 1 9 = 2 := by rw [c1, hk]; rfl
  have preX : ∀ q, (if x < (0 : Int32) then some (some (Value.int (1 : Int32)), s) else if x < (8 : Int32) then some (some (.int (0 : Int32)), s) else if (12 : Int32) ≤ x then some (some (.int (0 : Int32)), s) else some (some (.int (1 : Int32)), s)) = some q → qev en (d + 2) 138 [.ref 65] s = some q := fun q hq => by
    refine le_X6_isStray en _ _ _ ?_
    rw [if_pos c9, cw, e1, bI_some, if_neg (by rw [h8]; decide)]
    exact hq
  have preM : ∀ q, (if ¬ y = (-1 : Int32) then L_X12_checkWord_44 en (d' + 3) 1 t else if r = (-1 : Int32) then L_X12_checkWord_44 en (d' + 3) 0 t else L_X12_checkWord_44 en (d' + 3) 1 t) = some q → qev en (d' + 4) 271 [.ref 151] t = some q := fun q hq => by
    refine le_X12_checkWord en _ _ _ ?_
    rw [if_neg (by rw [h29]; decide), a2, bI_some, if_neg (show ¬ ¬ bt false = (0 : Int32) from not_not_intro rfl), mw, e2, bI_some, mw]
    by_cases q1 : y = -1
    · rw [if_neg (not_not_intro q1)] at hq
      rw [if_neg (not_not_intro q1), e4, bI_some]; exact hq
    · rw [if_pos q1] at hq
      rw [if_pos q1]; exact hq
  have fin0 : L_X12_checkWord_44 en (d' + 3) 1 t = some (none, t) := by
    refine le_X12_checkWord_44 en _ _ _ _ ?_
    rw [m_needT, bV_some]
  obtain ⟨t', w1, w2, w3⟩ := m_needF (en := en) (d := d' + 1) (k := 3) m7 m4 ⟨by decide, by decide⟩
  have fin1 : L_X12_checkWord_44 en (d' + 3) 0 t = some (none, t') := by
    refine le_X12_checkWord_44 en _ _ _ _ ?_
    have w1' : qev en (d' + 3) 245 [.ref 151, .int (0 : Int32), .int (3 : Int32)] t = some (none, t') := w1
    rw [w1', bV_some]
  have hb3 := hn.1
  rcases hcase with ⟨rfl, rfl, rfl, rfl⟩ | ⟨c, hc', rfl, rfl, rfl, rfl⟩ | ⟨l, hl', rfl, rfl, rfl, rfl⟩ | ⟨u, hu', rfl, rfl, rfl, rfl⟩
  · exact ⟨true, preX _ (by rw [if_pos (by decide)]; rfl), fun h => Bool.noConfusion h, fun _ => ⟨t', preM _ (by rw [if_neg (not_not_intro rfl), if_pos rfl]; exact fin1), w2, w3⟩⟩
  · exact ⟨false, preX _ (by rw [if_neg (by rw [n_gt (by decide) (by omega)]; omega), if_pos (by rw [n_gt (by decide) (by omega)]; omega)]; rfl), fun _ => preM _ (by rw [if_pos (by rw [n_m1 (by omega)]; exact id)]; exact fin0), fun h => Bool.noConfusion h⟩
  · exact ⟨true, preX _ (by rw [if_neg (by rw [n_gt (by decide) (by omega)]; omega), if_neg (by rw [n_gt (by decide) (by omega)]; omega), if_neg (by rw [n_le (by decide) (by omega)]; omega)]; rfl), fun h => Bool.noConfusion h, fun _ => ⟨t', preM _ (by rw [if_neg (not_not_intro rfl), if_pos rfl]; exact fin1), w2, w3⟩⟩
  · exact ⟨false, preX _ (by rw [if_neg (by rw [n_gt (by decide) (by omega)]; omega), if_neg (by rw [n_gt (by decide) (by omega)]; omega), if_pos (by rw [n_le (by decide) (by omega)]; omega)]; rfl), fun _ => preM _ (by rw [if_neg (not_not_intro rfl), if_neg (by rw [n_m1 (by omega)]; exact id)]; exact fin0), fun h => Bool.noConfusion h⟩
end STL
