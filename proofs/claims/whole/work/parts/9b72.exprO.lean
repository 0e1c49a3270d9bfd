/-! THE READER: an expression on both sides: operands of a line. -/
/-- the model's operand, behind its count -/
noncomputable abbrev tkoB (en : pN) (d : Nat) (t : qS) : Option qR := if ¬ (t.1 151 3) = (2 : Int32) then if (t.1 151 29) = (0 : Int32) then bI (qev en d 243 [.ref 151] t) (fun w6 s7 => if w6 = (0 : Int32) then L_X12_takeOperand_57 en d (-1 : Int32) s7 else bI (qev en d 261 [.ref 151] s7) (fun w10 s11 => L_X12_takeOperand_57 en d w10 s11)) else bV (qev en d 273 [.ref 151] t) (fun s14 => some (none, s14)) else bV (qev en d 262 [.ref 151, .int (0 : Int32), .int (t.1 151 6)] t) (fun s17 => bV (qev en d 249 [.ref 151] s17) (fun s20 => some (none, s20)))
/-- nodes' end, where nothing more is read -/
abbrev mEnd (s : qS) (q m : Nat) : Prop := ∃ x : Nat, s.1 q 3 = nI x ∧ m ≤ x ∧ x ≤ ln (q + 1)
/-- the pile of signs that wait -/
abbrev pilF (t : qS) (k : Nat) (pl : Nat → Nat) : Prop := t.1 151 31 = nI k ∧ ∀ j, j < k → t.1 163 j = nI (pl j) ∧ pl j < 30
/-- behind an operand -/
abbrev opR (lw : Bool) (q bs u : Nat) (B : Nat → Nat) (n : Nat) (s t s' t' : qS) (V cl : Nat → Nat) (nc nl nt ct m k : Nat) (pl : Nat → Nat) : Prop :=
  rxF lw q m s s' ∧ rmF lw (bs + m) t t' ∧ ((∃ (U' : Nat → Nat → Nat) (cl' : Nat → Nat) (i' : Nat), eS lw q bs u B n s' t' V U' cl' nc nl nt i' ct (m + 1) (m + 1) k pl ∧ nd1 lw u (s'.1 (q + 1) m) (s'.1 (q + 2) m) (t'.1 161 (bs + m)) (t'.1 162 (bs + m)) ∧ gw (s'.1 (q + 1)) (s'.1 (q + 2)) m (m + 1) ∧ ∀ w, cl w ≤ cl' w) ∨ (rdD s' t' ∧ mEnd s' q m ∧ pilF t' k pl))
section EXO
variable {en : pN} {d d' k K q bs u n i i' ct ct' m m' m0 c c' c0 k' nc nl nt a b z dp F p : Nat} {lw : Bool} {V cl : Nat → Nat} {U : Nat → Nat → Nat} {pl pl' : Nat → Nat} {s s' s'' t t' t'' : qS} {B : Nat → Nat} {O Q M W v w v1 v2 v3 v4 v5 : Int32}
theorem pil_of (hE : eS lw q bs u B n s t V U cl nc nl nt i ct m c k pl) : pilF t k pl := ⟨hE.2.2.2.2.2.1.2.2, hE.2.2.2.2.2.2⟩
theorem pil_mv (h : pilF t k pl) (g : mvF t t') : pilF t' k pl := ⟨by rw [g.2.1 31 (by decide) (by decide) (by decide) (by decide) (by decide) (by decide)]; exact h.1, by rw [g.1 163 (by decide)]; exact h.2⟩
/-- a node counted -/
theorem count_al (hE : eS lw q bs u B n s t V U cl nc nl nt i ct m c k pl) (hq : plcQ lw q bs) :
    (ct < 400 ∧ qev en (d + 2) 136 [.ref 65] s = some (some (.int 1), uI s 65 13 (nI (ct + 1))) ∧ qev en (d' + 4) 263 [.ref 151] t = some (none, uI t 151 28 (nI (ct + 1))) ∧ eS lw q bs u B n (uI s 65 13 (nI (ct + 1))) (uI t 151 28 (nI (ct + 1))) V U cl nc nl nt i (ct + 1) m c k pl) ∨
    (∃ t', qev en (d + 2) 136 [.ref 65] s = some (some (.int 0), bmS s 4) ∧ qev en (d' + 4) 263 [.ref 151] t = some (none, t') ∧ rdD (bmS s 4) t' ∧ (∀ c0, rmF true c0 t t') ∧ pilF t' k pl) := by
  obtain ⟨⟨hc, hm⟩, hn, h8, h7, ⟨x1, x2, x3⟩, ⟨y1, y2, y3⟩, hp⟩ := id hE
  obtain ⟨mX, m7, m4, -⟩ := id hm
  have hq' := hq.qq
  by_cases h4 : ct < 400
  · left
    obtain ⟨-, e1⟩ := (x_countNode (en := en) (d := d) x1 x3).resolve_right (fun z => by omega)
    obtain ⟨-, e2⟩ := (m_countNode (en := en) (d := d') x2 x3 m7 m4).resolve_right (fun z => by omega)
    refine ⟨h4, e1, e2, eS_fr hE hq (m0 := 0) (c0 := 0) (rxF.cu hq') (rmF.ui rfl) ⟨cL_fr hc (fun j _ => ?_) ?_ ?_ rfl rfl rfl ?_, mtL_fr hm (fun j hj => ?_) ?_ rfl⟩ ⟨?_, ?_, by omega⟩ ⟨?_, ?_, ?_⟩ (fun j hj => ?_)⟩
    · rw [uI_ne (by decide)]
    · rw [uI_ne (by decide)]
    · rw [uI_ne (by decide)]
    · intro j hj; rw [rdU, if_neg (by omega)]
    · rw [rdU, if_neg (by omega)]
    · rw [uI_ne (by decide)]
    · rw [rdU, if_pos ⟨rfl, rfl⟩]
    · rw [rdU, if_pos ⟨rfl, rfl⟩]
    · rw [uI_ne (by omega)]; exact y1
    · rw [rdU, if_neg (by decide)]; exact y2
    · rw [rdU, if_neg (by decide)]; exact y3
    · rw [uI_ne (by decide)]; exact hp j hj
  · right
    have q' : ct = 400 := by omega
    obtain ⟨-, e1⟩ := (x_countNode (en := en) (d := d) x1 x3).resolve_left (fun z => by omega)
    obtain ⟨t', w1, w2, w3, w4⟩ := fault_al (en := en) (d' := d' + 1) (k := 4) ⟨hc, hm⟩ ⟨by decide, by decide⟩
    have w1' : qev en (d' + 3) 245 [.ref 151, .int (0 : Int32), .int (4 : Int32)] t = some (none, t') := w1
    refine ⟨uI t' 151 28 ((t'.1 151 28) + (1 : Int32)), e1, le_X12_countNode en _ _ _ ?_, ⟨4, _, w3, mtD_fr w4 ?_ ?_⟩, fun c0 => (rmF.mv w2).tr (rmF.ui rfl) (Nat.le_refl c0), ?_, ?_⟩
    · rw [m_goodL m7, bI_some, if_neg (by decide), x2, if_pos (by rw [n_le (by decide) (by omega)]; omega)]
      refine le_X12_countNode_23 en _ _ _ _ ?_
      rw [w1', bV_some, nm_eq]
    · rw [rdU, if_neg (by omega)]
    · rw [rdU, if_neg (by omega)]
    · rw [rdU, if_neg (by omega)]; exact (pil_mv ⟨y3, hp⟩ w2).1
    · rw [uI_ne (by decide)]; exact (pil_mv ⟨y3, hp⟩ w2).2
/-- behind a fault nothing is counted -/
theorem m_countD (h : mtD t F p) : qev en (d + 2) 263 [.ref 151] t = some (none, t) := by
  refine le_X12_countNode en _ _ _ ?_
  rw [m_goodD h, bI_some, if_pos rfl]
/-- a node put by the class behind a fault -/
theorem x_putD (hq : q = 7 ∨ q = 61) (h : mEnd s q m) : ∃ s', qev en (d + 2) 76 [.ref q, .int v, .int w] s = some (none, s') ∧ rxF true q m s s' ∧ mEnd s' q m ∧ (∀ a, a = 1 ∨ a = 65 → s'.1 a = s.1 a) ∧ s'.2 = s.2 := by
  obtain ⟨x, h1, h2, h3⟩ := h
  have hlc : lc q = 4 := by rcases hq with rfl | rfl <;> rfl
  have hl1 : ln (q + 1) = 500 ∨ ln (q + 1) = 400 := by
    rcases hq with rfl | rfl
    · exact Or.inl rfl
    · exact Or.inr rfl
  have hl2 : ln (q + 2) = ln (q + 1) := by rcases hq with rfl | rfl <;> rfl
  by_cases hx : x < ln (q + 1)
  · have i1 : p_inB (nI x) (ln (q + 1)) = true := n_in (by omega) (by omega)
    have i2 : p_inB (nI x) (ln (q + 2)) = true := n_in (by omega) (by omega)
    refine ⟨uI (uI (uI s (q + 1) x v) (q + 2) x w) q 3 (nI (x + 1)), le_X4_put en _ _ _ _ _ _ ?_, ⟨fun a _ _ g1 g2 g3 _ => ?_, fun j _ _ _ => ?_, fun j hj => ?_, fun j hj => ⟨?_, ?_⟩, fun j _ _ _ => ?_, fun _ _ _ => rfl, rfl⟩, ⟨x + 1, ?_, by omega, by omega⟩, fun a ha => ?_, rfl⟩
    · have e77 : qev en (d + 1) 77 [.ref q, .int (nI x), .int v, .int w] s = some (none, uI (uI s (q + 1) x v) (q + 2) x w) := by
        refine le_X4_set en _ _ _ _ _ _ _ ?_
        rw [gd_true hlc, gd_true i1, n_cl (by omega), nm_eq, gd_true i2, nm_eq]
      have e0 : ¬ Int32.ofNat (ln (q + 1)) ≤ nI x := by
        show ¬ nI (ln (q + 1)) ≤ nI x
        rw [n_LE (by omega) (by omega)]; omega
      rw [gd_true hlc, h1, if_neg e0, e77, bV_some, nm_eq, uI_ne (by omega), uI_ne (by omega), h1, show nI x + (1 : Int32) = nI (x + 1) from n_ar]
    · rw [uI_ne g1, uI_ne g3, uI_ne g2]
    · rw [uI_ne (by omega), uI_ne (by omega), uI_ne (by omega)]
    · rw [rdU, if_neg (fun z => hj z.2), uI_ne (by omega), uI_ne (by omega)]
    · rw [uI_ne (by omega), uI_ne (by omega), rdU, if_neg (by omega)]
    · rw [uI_ne (by omega), rdU, if_neg (by omega), uI_ne (by omega)]
    · rw [uI_ne (by omega), uI_ne (by omega), uI_ne (by omega)]
    · rw [rdU, if_pos ⟨rfl, rfl⟩]
    · rw [uI_ne (by omega), uI_ne (by omega), uI_ne (by omega)]
  · refine ⟨s, le_X4_put en _ _ _ _ _ _ ?_, rxF.rf, ⟨x, h1, h2, h3⟩, fun _ _ => rfl, rfl⟩
    have e0 : Int32.ofNat (ln (q + 1)) ≤ nI x := by
      show nI (ln (q + 1)) ≤ nI x
      rw [n_LE (by omega) (by omega)]; omega
    rw [gd_true hlc, h1, if_pos e0]
/-- and nothing is the better for it -/
theorem putD_al (hq : q = 7 ∨ q = 61) (h : mEnd s q m) (hD : rdD s t) : ∃ s', qev en (d + 2) 76 [.ref q, .int v, .int w] s = some (none, s') ∧ rxF true q m s s' ∧ mEnd s' q m ∧ rdD s' t := by
  obtain ⟨s', e1, e2, e3, e4, e5⟩ := x_putD (en := en) (d := d) (v := v) (w := w) hq h
  obtain ⟨F, p, g1, g2⟩ := hD
  exact ⟨s', e1, e2, e3, F, p, dX_fr g1 (by rw [e4 1 (Or.inl rfl)]) (by rw [e4 1 (Or.inl rfl)]) (by rw [e4 65 (Or.inr rfl)]) (by rw [e4 65 (Or.inr rfl)]), g2⟩
/-- a node put on both sides -/
theorem put_al (hE : eS lw q bs u B n s t V U cl nc nl nt i ct m m k pl) (hq : plcQ lw q bs) (hm : m < 400) : ∃ s' t', qev en (d + 2) 76 [.ref q, .int O, .int Q] s = some (none, s') ∧ qev en (d' + 2) 262 [.ref 151, .int M, .int W] t = some (none, t') ∧ eS lw q bs u B n s' t' V U cl nc nl nt i ct (m + 1) (m + 1) k pl ∧ rxF true q m s s' ∧ rmF true (bs + m) t t' ∧ (s'.1 (q + 1) m = O ∧ s'.1 (q + 2) m = Q) ∧ t'.1 161 (bs + m) = M ∧ t'.1 162 (bs + m) = W := by
  obtain ⟨⟨hc, hmt⟩, hn, h8, h7, ⟨x1, x2, x3⟩, ⟨y1, y2, y3⟩, hp⟩ := id hE
  have m7 := hmt.2.1
  have hq' := hq.qq
  have hbs : bs + m < 900 := by
    rcases hq with z | z <;> omega
  obtain ⟨s', e1, e2, e3, e4, e5⟩ := x_put4 (en := en) (d := d) (x := O) (y := Q) hq' y1 hm
  obtain ⟨t', g1, g2, g3, g4, g5, g6⟩ := m_emit (en := en) (d := d') (v := W) (x := M) m7 y2 hbs
  have a1 := e2.1 1 (by omega) (by omega) (by omega)
  have a4 := e2.1 4 (by omega) (by omega) (by omega)
  have a5 := e2.1 5 (by omega) (by omega) (by omega)
  have a65 := e2.1 65 (by omega) (by omega) (by omega)
  refine ⟨s', t', e1, g1, eS_fr hE hq (m0 := m) (c0 := bs + m) (rxF.pt e2 hq' (Nat.le_refl m)) (rmF.em g2 (Nat.le_refl _)) ⟨cL_fr hc (fun j _ => by rw [a1]) a4 a5 (by rw [e2.2.2.2]) (by rw [e2.2.2.2]) (by rw [e2.2.2.2]) (fun _ _ => by rw [a65]), mtL_fr hmt (fun j hj => g2.2.1 j (by omega) (by omega)) (g2.1 152 (by decide) (by decide) (by decide)) (by rw [g2.2.2.2])⟩ ⟨by rw [a65]; exact x1, by rw [g2.2.1 28 (by decide) (by decide)]; exact x2, x3⟩ ⟨e5, by rw [g5]; rfl, by rw [g6]; exact y3⟩ (fun j hj => ?_), rxF.pt e2 hq' (Nat.le_refl m), rmF.em g2 (Nat.le_refl _), ⟨e3, e4⟩, g3, g4⟩
  rw [g2.1 163 (by decide) (by decide) (by decide)]
  exact hp j hj
end EXO
