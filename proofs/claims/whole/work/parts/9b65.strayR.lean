/-! THE READER: a word that can't stand in an expression of a line, on both sides. -/
section STR
variable {en : pN} {d d' v k i c n nc nl nt p : Nat} {V cl : Nat → Nat} {U : Nat → Nat → Nat} {s t : qS} {B : Nat → Nat}
/-- a word is worth more than nothing -/
theorem word_pos (hB : ∀ j, j < n → B j < 256) (hi : i < tkL B n) (hk : tkK B n i = 2 ∨ 300 ≤ tkK B n i) : (tkN B n i).2.2.1 ≠ 0 := by
  obtain ⟨-, hp, h, -⟩ := aL_next (n + 1) 0 i _ (by omega) (by omega) (tk_at (B := B) hi)
  have hk' : (aTok B n (tkN B n i).1).1 = 2 ∨ 300 ≤ (aTok B n (tkN B n i).1).1 := by rw [← h]; exact hk
  rw [h]
  generalize (tkN B n i).1 = p at *
  unfold aTok at hk' ⊢
  by_cases q1 : n ≤ p
  · rw [if_pos q1] at hk'
    rcases hk' with z | z <;> simp at z
  rw [if_neg q1] at hk' ⊢
  by_cases q2 : ltr (B p) = true
  · rw [if_pos q2] at hk' ⊢
    by_cases q3 : wnd wch B (n - p) p - p ≤ 8
    · rw [if_pos q3]
      show wnu wch 128 B (n - p) p 0 ≠ 0
      obtain ⟨m, hm⟩ : ∃ m, n - p = m + 1 := ⟨n - p - 1, by omega⟩
      have hw : wch (B p) = true := by unfold wch; rw [q2]; rfl
      rw [hm]
      unfold wnu
      rw [if_pos hw]
      have h1 := @wnu_ge B wch 128 m (p + 1) (128 * 0 + B p) (by decide)
      have h2 := wch_lt hw
      omega
    · rw [if_neg q3] at hk'
      rcases hk' with z | z <;> simp at z
  rw [if_neg q2] at hk' ⊢
  by_cases q4 : dgt (B p) = true
  · rw [if_pos q4] at hk'
    by_cases q5 : wnd dgt B (n - p) p - p ≤ 3
    · rw [if_pos q5] at hk'
      rcases hk' with z | z <;> simp at z
    · rw [if_neg q5] at hk'
      rcases hk' with z | z <;> simp at z
  · rw [if_neg q4] at hk'
    exfalso
    have hg : gkd (B p) (byt B n (p + 1)) ≠ 2 ∧ gkd (B p) (byt B n (p + 1)) < 300 := by
      have hb := hB p (by omega)
      unfold gkd
      repeat' split
      all_goals first | omega | (rename_i hs; have := sgn_rg hs; omega) | (rename_i hs _; have := sgn_rg hs; omega) | (rename_i hs _ _; have := sgn_rg hs; omega)
    rcases hk' with z | z
    · exact hg.1 z
    · exact absurd z (by have := hg.2; show ¬ 300 ≤ gkd (B p) (byt B n (p + 1)); omega)
/-- in a line: a word that names something is stray -/
theorem stray_alike (hB : ∀ j, j < n → B j < 256) (hn : nmR s t V U cl nc nl nt) (hc : cL s B n i) (hm : mtL t B n i) (hk : tkK B n i = 2) (h8 : s.1 65 8 = 0) (h29 : t.1 151 29 = 0) :
    ∃ b : Bool, qev en (d + 2) 138 [.ref 65] s = some (some (.int (bt b)), s) ∧ (b = false → qev en (d' + 4) 271 [.ref 151] t = some (none, t)) ∧ (b = true → ∃ t', qev en (d' + 4) 271 [.ref 151] t = some (none, t') ∧ mtD t' 3 (tkN B n i).1 ∧ mvF t t') := by
  obtain ⟨hi, c1, c2, c3⟩ := cL_at hc
  obtain ⟨⟨mX, mn, -⟩, m7, m4, mk1, m2, m3, m5, m6⟩ := id hm
  have hv := tk_val (B := B) (n := n) hi
  have hv0 := word_pos hB hi (Or.inl hk)
  have cw := c3 (by omega)
  have mw := m5 (Or.inl hk)
  obtain ⟨x, y, z, r, e1, e2, e3, e4, hcase⟩ := name_alike hn hv hv0
  have c9 : s.1 1 9 = 2 := by rw [c1, hk]; rfl
  have preX : ∀ b : Bool, (x < 0 ↔ b = false) → qev en (d + 2) 138 [.ref 65] s = some (some (.int (bt b)), s) := fun b hb => by
    refine le_X6_isStray en _ _ _ ?_
    rw [if_pos c9, cw, e1, bI_some, if_pos h8]
    cases b
    · rw [if_pos (hb.mpr rfl)]; rfl
    · rw [if_neg (fun z => Bool.noConfusion (hb.mp z))]; rfl
  have preM : ∀ b : Bool, (b = false ↔ (y = -1 ∧ z = -1 ∧ r = -1)) → ∀ q, L_X12_checkWord_68 en (d' + 3) (if b = true then 0 else 1) t = some q → qev en (d' + 4) 271 [.ref 151] t = some q := fun b hb q hq => by
    have e260 : qev en (d' + 3) 260 [.ref 151, .long (Int64.ofNat (w8 8 (tkN B n i).2.2.1))] t = some (some (.int (bt b)), t) := by
      refine le_X12_isTold en _ _ _ _ ?_
      rw [e2, bI_some]
      by_cases q1 : y = -1
      · rw [if_neg (not_not_intro q1), e3, bI_some]
        by_cases q2 : z = -1
        · rw [if_neg (not_not_intro q2), e4, bI_some]
          by_cases q3 : r = -1
          · rw [if_pos q3, hb.mpr ⟨q1, q2, q3⟩]; rfl
          · rw [if_neg q3]
            cases hbb : b
            · exact absurd (hb.mp hbb).2.2 q3
            · rfl
        · rw [if_pos q2]
          cases hbb : b
          · exact absurd (hb.mp hbb).2.1 q2
          · rfl
      · rw [if_pos q1]
        cases hbb : b
        · exact absurd (hb.mp hbb).1 q1
        · rfl
    refine le_X12_checkWord en _ _ _ ?_
    rw [if_pos h29, mw, e260, bI_some]
    cases hbb : b
    · rw [if_neg (show ¬ ¬ bt false = (0 : Int32) from not_not_intro rfl)]
      rw [hbb] at hq; exact hq
    · rw [if_pos (show ¬ bt true = (0 : Int32) by decide)]
      rw [hbb] at hq; exact hq
  have fin0 : L_X12_checkWord_68 en (d' + 3) 1 t = some (none, t) := by
    refine le_X12_checkWord_68 en _ _ _ _ ?_
    rw [m_needT, bV_some]
  obtain ⟨t', w1, w2, w3⟩ := m_needF (en := en) (d := d' + 1) (k := 3) m7 m4 ⟨by decide, by decide⟩
  have fin1 : L_X12_checkWord_68 en (d' + 3) 0 t = some (none, t') := by
    refine le_X12_checkWord_68 en _ _ _ _ ?_
    have w1' : qev en (d' + 3) 245 [.ref 151, .int (0 : Int32), .int (3 : Int32)] t = some (none, t') := w1
    rw [w1', bV_some]
  have no1 : ∀ a : Nat, a < 2 ^ 31 → nI a ≠ -1 := fun a ha h => (n_m1 ha).mp h
  have nn0 : ∀ a : Nat, a < 2 ^ 31 → ¬ nI a < (0 : Int32) := fun a ha => by rw [n_gt (by decide) ha]; omega
  have hb3 := hn.1
  rcases hcase with ⟨rfl, rfl, rfl, rfl⟩ | ⟨c, hc', rfl, rfl, rfl, rfl⟩ | ⟨l, hl', rfl, rfl, rfl, rfl⟩ | ⟨u, hu', rfl, rfl, rfl, rfl⟩
  · refine ⟨false, preX false ⟨fun _ => rfl, fun _ => by decide⟩, fun _ => preM false ⟨fun _ => ⟨rfl, rfl, rfl⟩, fun _ => rfl⟩ _ fin0, fun h => Bool.noConfusion h⟩
  · refine ⟨true, preX true ⟨fun h => absurd h (nn0 _ (by omega)), fun h => Bool.noConfusion h⟩, fun h => Bool.noConfusion h, fun _ => ⟨t', preM true ⟨fun h => Bool.noConfusion h, fun h => absurd h.1 (no1 _ (by omega))⟩ _ fin1, w2, w3⟩⟩
  · refine ⟨true, preX true ⟨fun h => absurd h (nn0 _ (by omega)), fun h => Bool.noConfusion h⟩, fun h => Bool.noConfusion h, fun _ => ⟨t', preM true ⟨fun h => Bool.noConfusion h, fun h => absurd h.2.1 (no1 _ (by omega))⟩ _ fin1, w2, w3⟩⟩
  · refine ⟨true, preX true ⟨fun h => absurd h (nn0 _ (by omega)), fun h => Bool.noConfusion h⟩, fun h => Bool.noConfusion h, fun _ => ⟨t', preM true ⟨fun h => Bool.noConfusion h, fun h => absurd h.2.2 (no1 _ (by omega))⟩ _ fin1, w2, w3⟩⟩
end STR
