/-! THE READER: whole expressions on both sides. -/
/-- both stand between expressions: m nodes are put and counted -/
abbrev exS (lw : Bool) (q bs u : Nat) (B : Nat → Nat) (n : Nat) (s t : qS) (V : Nat → Nat) (U : Nat → Nat → Nat) (cl : Nat → Nat) (nc nl nt i m : Nat) : Prop :=
  rdL s t B n i ∧ nmR s t V U cl nc nl nt ∧ (s.1 65 8 = bt lw ∧ t.1 151 29 = bt lw) ∧ (s.2.2 65 7 = q + 1 ∧ (lw = false → s.1 65 14 = nI u ∧ nt = u + 1)) ∧ (s.1 65 13 = nI m ∧ t.1 151 28 = nI m ∧ m ≤ 400) ∧ s.1 q 3 = nI m ∧ t.1 151 25 = nI (bs + m)
section EXX
variable {en : pN} {d d' k q bs u n i m nc nl nt D : Nat} {lw : Bool} {V cl : Nat → Nat} {U : Nat → Nat → Nat} {s t : qS} {B : Nat → Nat} {v1 v3 : Int32}
theorem m_488T (h7 : t.1 151 7 = 0) {t2 : qS} (h : qev en (d' + 1) 266 [.ref 151, .int (nI 1)] t = some (none, t2)) : L_X12_readExp_488 en (d' + 1) v1 (nI 0) t = some (some (.int v1), t2) := by
  have h' : qev en (d' + 1) 266 [.ref 151, .int (1 : Int32)] t = some (none, t2) := h
  refine le_X12_readExp_488 en _ _ _ _ _ ?_
  rw [m_goodL h7, bI_some, if_neg (by decide), if_neg (show ¬ ¬ nI 0 = (0 : Int32) from not_not_intro rfl)]
  refine le_X12_readExp_505 en _ _ _ _ _ ?_
  rw [m_needT, bV_some]
  refine le_X12_readExp_509 en _ _ _ _ ?_
  rw [h', bV_some]
set_option maxHeartbeats 1000000 in
/-- an expression on both sides -/
theorem exp_al (hX : exS lw q bs u B n s t V U cl nc nl nt i m) (hq : plcQ lw q bs) (hB : ∀ j, j < n → B j < 256) (hD : 130 ≤ D) : ∃ s' t', qev en D 134 [.ref 65, .int (0 : Int32), .int (1 : Int32)] s = some (none, s') ∧ qev en (d' + 9) 268 [.ref 151] t = some (some (.int (nI (bs + m))), t') ∧ rxF lw q m s s' ∧ rmF lw (bs + m) t t' ∧ ((∃ (U' : Nat → Nat → Nat) (cl' : Nat → Nat) (i' m' : Nat), exS lw q bs u B n s' t' V U' cl' nc nl nt i' m' ∧ m < m' ∧ ndZ lw u s' t' q bs m m' ∧ gw (s'.1 (q + 1)) (s'.1 (q + 2)) m m' ∧ ∀ w, cl w ≤ cl' w) ∨ (rdD s' t' ∧ mEnd s' q m)) := by
  obtain ⟨hl, hn, h8, h7, ⟨x1, x2, x3⟩, y1, y2⟩ := hX
  have hE0 : eS lw q bs u B n s (uI t 151 31 0) V U cl nc nl nt i m m m 0 (fun _ => 0) := by
    refine ⟨⟨hl.1, mtL_fr hl.2 (fun j hj => ?_) ?_ rfl⟩, nmR_fr hn hq.qq (rxF.rf (m := 0)) (rmF.ui (c := 0) rfl), ⟨h8.1, ?_⟩, h7, ⟨x1, ?_, x3⟩, ⟨y1, ?_, ?_⟩, fun j hj => absurd hj (Nat.not_lt_zero j)⟩
    · rw [rdU, if_neg (fun z => absurd z.2 (Nat.ne_of_lt (Nat.lt_trans hj (by decide))))]
    · rw [uI_ne (by decide)]
    · rw [rdU, if_neg (by decide)]; exact h8.2
    · rw [rdU, if_neg (by decide)]; exact x2
    · rw [rdU, if_neg (by decide)]; exact y2
    · rw [rdU, if_pos ⟨rfl, rfl⟩]; rfl
  have hO := one_al (en := en) (d' := d') (v1 := nI (bs + m)) (u := u) (V := V) (nc := nc) (nl := nl) (nt := nt) hq hB 9 1 rfl (Nat.le_refl 1)
  have hL := levels_al hq (b := 0) (Nat.zero_le _) ⟨Nat.le_refl 1, by decide⟩ (by decide) hO 4 (Nat.le_refl 4)
  have hR := hL D s (uI t 151 31 0) U cl i m m 0 (fun _ => 0) (by clear hE0 hL hO; omega) hE0 (Or.inl rfl) rfl (Nat.le_refl 0)
  have preM : ∀ r, L_X12_readExp_20 en (d' + 8) (nI (bs + m)) (nI 0) (nI 0) 1 0 (uI t 151 31 0) = some r → qev en (d' + 9) 268 [.ref 151] t = some r := fun r hr => by
    refine le_X12_readExp en _ _ _ ?_
    rw [nm_eq, y2]
    exact hr
  have fm0 : rmF lw (bs + m) t (uI t 151 31 0) := rmF.ui rfl
  clear hL hO hE0
  rcases hR with ⟨s', t', U', cl', i', ct', z, h, pl', g1, g2, g3, g4, g5, g6, g7, g8, g9⟩ | ⟨s', t', g1, g2, g3, g4, g5, g6⟩
  · obtain ⟨t1, h1, q1, q2, q3, q4⟩ := reach488 (en := en) (d' := d' + 4) (v1 := nI (bs + m)) (v3 := nI 0) g3 g4 hq (Nat.zero_le 9) (Or.inr rfl)
    obtain ⟨t2, p1, p2, p3, p4⟩ := pop_al (en := en) (d' := d' + 5) (r := 1) q3 hq (Nat.le_refl 1) (Nat.le_refl 1) (by decide) (Nat.zero_le 9) (Or.inl rfl)
    have hz : z + (h - h1) + h1 = ct' := by
      have := q3.2.1.2
      clear g3 g4 q2 q3 p2 g2 hl
      omega
    rw [hz] at p2 p3
    have hgw := q3.2.2.2.2.2.2
    rw [hz] at hgw
    have hmz := g3.2.1.1
    refine ⟨s', t2, g1, preM _ (g2 _ (q2 _ (m_488T (d' := d' + 7) q3.1.1.2.2.1 p1))), g8, ((fm0.tr g9 (Nat.le_refl _)).tr (rmF.em q4 (Nat.add_le_add_left hmz bs)) (Nat.le_refl _)).tr (rmF.em p4 (Nat.add_le_add_left q3.2.1.1 bs)) (Nat.le_refl _), Or.inl ⟨U', cl', i', ct', ⟨p2.1, p2.2.1, p2.2.2.1, p2.2.2.2.1, p2.2.2.2.2.1, p2.2.2.2.2.2.1.1, p2.2.2.2.2.2.1.2.1⟩, g6, p3, hgw, g7⟩⟩
  · exact ⟨s', t', g1, preM _ g2, g5, fm0.tr g6 (Nat.le_refl _), Or.inr ⟨g3, g4⟩⟩
end EXX
