/-! THE READER: an expression on both sides: where both stand; the head of an operand. -/
abbrev rdL (s t : qS) (B : Nat → Nat) (n i : Nat) : Prop := cL s B n i ∧ mtL t B n i
abbrev rdD (s t : qS) : Prop := ∃ F p : Nat, dX s F p ∧ mtD t F p
/-- both stand within an expression: m, c nodes are put, k signs wait, ct nodes are counted -/
abbrev eS (lw : Bool) (q bs u : Nat) (B : Nat → Nat) (n : Nat) (s t : qS) (V : Nat → Nat) (U : Nat → Nat → Nat) (cl : Nat → Nat) (nc nl nt i ct m c k : Nat) (pl : Nat → Nat) : Prop :=
  rdL s t B n i ∧ nmR s t V U cl nc nl nt ∧ (s.1 65 8 = bt lw ∧ t.1 151 29 = bt lw) ∧ (s.2.2 65 7 = q + 1 ∧ (lw = false → s.1 65 14 = nI u ∧ nt = u + 1)) ∧ (s.1 65 13 = nI ct ∧ t.1 151 28 = nI ct ∧ ct ≤ 400) ∧ (s.1 q 3 = nI m ∧ t.1 151 25 = nI (bs + c) ∧ t.1 151 31 = nI k) ∧ ∀ j, j < k → t.1 163 j = nI (pl j) ∧ pl j < 30
/-- the two places of nodes -/
abbrev plcQ (lw : Bool) (q bs : Nat) : Prop := (q = 7 ∧ bs = 0 ∧ lw = false) ∨ (q = 61 ∧ bs = 400 ∧ lw = true)
section EXH
variable {en : pN} {d d' k K q bs u n i i' ct ct' m m' m0 c c' c0 k' nc nl nt a b z dp F p : Nat} {lw : Bool} {V cl : Nat → Nat} {U : Nat → Nat → Nat} {pl pl' : Nat → Nat} {s s' s'' t t' t'' : qS} {B : Nat → Nat} {O Q O' Q' : fI} {v w v1 v2 v3 v4 v5 : Int32}
theorem plcQ.qq (h : plcQ lw q bs) : q = 7 ∨ q = 61 := by
  rcases h with h | h
  · exact Or.inl h.1
  · exact Or.inr h.1
theorem dX_fr (h : dX s F p) (h9 : s'.1 1 9 = s.1 1 9) (h10 : s'.1 1 10 = s.1 1 10) (h11 : s'.1 65 11 = s.1 65 11) (h12 : s'.1 65 12 = s.1 65 12) : dX s' F p := by
  rcases h with ⟨a, b, c, e⟩ | ⟨a, b, c, e⟩
  · exact Or.inl ⟨h9.trans a, h11.trans b, h12.trans c, e⟩
  · exact Or.inr ⟨h9.trans a, h11.trans b, h10.trans c, e⟩
theorem mtD_fr (h : mtD t F p) (h7 : t'.1 151 7 = t.1 151 7) (h8 : t'.1 151 8 = t.1 151 8) : mtD t' F p := ⟨h7.trans h.1, h.2.1, h.2.2.1, h8.trans h.2.2.2⟩
theorem aTok_lt : (aTok B n p).1 < 400 := by
  unfold aTok
  repeat' split
  · show 0 < 400
    decide
  · show kyd _ < 400
    unfold kyd
    have h33 : KN.length = 33 := rfl
    split
    · have := List.idxOf_le_length (a := wnu wch 128 B (n - p) p 0) (l := KN)
      omega
    · decide
  · show 1 < 400
    decide
  · show 3 < 400
    decide
  · show 1 < 400
    decide
  · show gkd _ _ < 400
    unfold gkd
    split
    · rename_i hs
      have := sgn_rg hs
      split <;> omega
    · decide
theorem tkK_lt (hi : i < tkL B n) : tkK B n i < 400 := by
  obtain ⟨-, -, h, -⟩ := aL_next (n + 1) 0 i _ (by omega) (by omega) (tk_at (B := B) hi)
  show (tkN B n i).2.1 < 400
  rw [h]
  exact aTok_lt
/-- on to the next token -/
theorem adv_al (h : rdL s t B n i) (hk : tkK B n i ≠ 0) : ∃ s' t', qev en (d + 1) 167 [.ref 1] s = some (none, s') ∧ qev en (d' + 3) 249 [.ref 151] t = some (none, t') ∧ adF s s' ∧ mvF t t' ∧ (rdL s' t' B n (i + 1) ∨ rdD s' t') := by
  obtain ⟨hc, hm⟩ := h
  obtain ⟨s', e1, e2, e3⟩ := x_adv (en := en) (d := d) hc ⟨hk, hm.2.2.2.1⟩
  obtain ⟨t', g1, ⟨g2, g3, g4⟩, g5⟩ := m_adv (en := en) (d := d') hm hk
  refine ⟨s', t', e1, g1, e3, g5, ?_⟩
  by_cases z : tkK B n (i + 1) = 1
  · obtain ⟨-, c1, c2, -⟩ := cL_at e2
    exact Or.inr ⟨1, _, Or.inr ⟨by rw [c1, z]; rfl, e2.2.2.2.1.1, c2, rfl⟩, g4 z⟩
  · exact Or.inl ⟨e2, g3 z⟩
theorem eS_fr (h : eS lw q bs u B n s t V U cl nc nl nt i ct m c k pl) (hq : plcQ lw q bs) (f : rxF true q m0 s s') (g : rmF true c0 t t') (hl : rdL s' t' B n i') (hct : s'.1 65 13 = nI ct' ∧ t'.1 151 28 = nI ct' ∧ ct' ≤ 400) (hm : s'.1 q 3 = nI m' ∧ t'.1 151 25 = nI (bs + c') ∧ t'.1 151 31 = nI k') (hp : ∀ j, j < k' → t'.1 163 j = nI (pl' j) ∧ pl' j < 30) : eS lw q bs u B n s' t' V U cl nc nl nt i' ct' m' c' k' pl' := by
  obtain ⟨-, h2, ⟨h3, h4⟩, ⟨h5, h6⟩, -, -, -⟩ := h
  exact ⟨hl, nmR_fr h2 hq.qq f g, ⟨by rw [f.2.2.2.2.1 8 (by decide) (by decide) (by decide)]; exact h3, by rw [g.2.1 29 rfl]; exact h4⟩, ⟨by rw [f.2.2.2.2.2.2]; exact h5, by rw [f.2.2.2.2.1 14 (by decide) (by decide) (by decide)]; exact h6⟩, hct, hm, hp⟩
theorem eS_ad (h : eS lw q bs u B n s t V U cl nc nl nt i ct m c k pl) (hq : plcQ lw q bs) (f : adF s s') (g : mvF t t') (hl : rdL s' t' B n i') : eS lw q bs u B n s' t' V U cl nc nl nt i' ct m c k pl := by
  have hq' := hq.qq
  refine eS_fr h hq (rxF.ad (m := m) f hq') (rmF.mv (c := c) g) hl ?_ ?_ ?_
  · obtain ⟨-, -, -, -, h1, -, -⟩ := h
    rw [f.1 65 (by decide), g.2.1 28 (by decide) (by decide) (by decide) (by decide) (by decide) (by decide)]; exact h1
  · obtain ⟨-, -, -, -, -, h1, -⟩ := h
    rw [f.1 q (by omega), g.2.1 25 (by decide) (by decide) (by decide) (by decide) (by decide) (by decide), g.2.1 31 (by decide) (by decide) (by decide) (by decide) (by decide) (by decide)]; exact h1
  · obtain ⟨-, -, -, -, -, -, h1⟩ := h
    rw [g.1 163 (by decide)]; exact h1
/-! the model behind a fault -/
theorem m_dead159 (h : mtD t F p) : L_X12_readExp_159 en (d + 1) v1 v2 v3 v4 v5 t = some (some (.int v1), t) := by
  refine le_X12_readExp_159 en _ _ _ _ _ _ _ _ ?_
  rw [m_goodD h, bI_some, if_neg (not_not_intro rfl)]
theorem m_dead136 (h : mtD t F p) : L_X12_readExp_136 en (d + 1) v1 v2 v3 v4 v5 t = some (some (.int v1), t) := by
  refine le_X12_readExp_136 en _ _ _ _ _ _ _ _ ?_
  rw [m_goodD h, bI_some, if_pos rfl, m_dead159 h]
/-- a fault at the token at hand -/
theorem fault_al (h : rdL s t B n i) (hk : k ≠ 0 ∧ k < 16) : ∃ t', qev en (d' + 2) 245 [.ref 151, .int 0, .int (nI k)] t = some (none, t') ∧ mvF t t' ∧ dX (bmS s (nI k)) k (tkN B n i).1 ∧ mtD t' k (tkN B n i).1 := by
  obtain ⟨hc, hm⟩ := h
  obtain ⟨hi, c1, c2, -⟩ := cL_at hc
  obtain ⟨⟨-, -, -⟩, m7, m4, mk, -⟩ := hm
  obtain ⟨t', w1, w2, w3⟩ := m_needF (en := en) (d := d') (k := k) m7 m4 hk
  refine ⟨t', w1, w3, ?_, w2⟩
  have hlt : tkK B n i < 2 ^ 20 := by
    have := tkK_lt hi
    omega
  have := bmS_new hc.2.2.2.1.1 c2 c1 hlt hk
  rw [if_neg mk] at this
  exact this
/-- a token's kind, as the model has it -/
theorem kdM_v {x : Nat} (hx : x < 400) : kdM x < 400 ∧ (kdM x = 1 ↔ x = 1 ∨ x = 2 ∨ 300 ≤ x) ∧ (kdM x = 2 ↔ x = 3) ∧ ∀ a, 4 ≤ a → a < 300 → (kdM x = a ↔ x = a) := by
  unfold kdM
  by_cases q : x = 2 ∨ 300 ≤ x
  · rw [if_pos q]; exact ⟨by omega, by omega, by omega, fun a h1 h2 => by omega⟩
  · rw [if_neg q]
    by_cases q3 : x = 3
    · rw [if_pos q3]; exact ⟨by omega, by omega, by omega, fun a h1 h2 => by omega⟩
    · rw [if_neg q3]; exact ⟨by omega, by omega, by omega, fun a h1 h2 => by omega⟩
/-- the class's operand, behind its head -/
noncomputable abbrev oneB (en : pN) (d : Nat) (dp : Nat) (s : qS) : Option qR := if ¬ (s.1 1 9) = (40 : Int32) then bI (qev en d 136 [.ref 65] s) (fun w11 s12 => if w11 = (0 : Int32) then some (none, s12) else bV (qev en d 140 [.ref 65, .int (s.1 1 9), .int (nI dp)] s12) (fun s16 => some (none, s16))) else bV (qev en d 167 [.ref 1] s) (fun s19 => bV (qev en d 134 [.ref 65, .int (0 : Int32), .int (nI dp + (1 : Int32))] s19) (fun s22 => bV (qev en d 115 [.ref 65, .int (41 : Int32)] s22) (fun s25 => some (none, s25))))
theorem begB_300 {x : Nat} (h : begB lw x = true) (hx : 300 ≤ x) : lw = true ∧ 328 ≤ x ∧ x ≤ 332 := by
  unfold begB at h
  simp only [Bool.or_eq_true, Bool.and_eq_true, decide_eq_true_eq] at h
  rcases h with ((((h | h) | h) | h) | h) | h
  · exact ⟨h.1, h.2.1, h.2.2⟩
  all_goals omega
/-- a word that may stand -/
theorem word_al (hE : eS lw q bs u B n s t V U cl nc nl nt i ct m c k pl) (hB : ∀ j, j < n → B j < 256) (hb : begB lw (tkK B n i) = true) :
    ∃ b : Bool, qev en (d + 3) 138 [.ref 65] s = some (some (.int (bt b)), s) ∧ (b = false → ∀ r, L_X12_readExp_136 en (d' + 5) v1 v2 v3 1 0 t = some r → L_X12_readExp_108 en (d' + 5) v1 v2 v3 1 0 1 t = some r) ∧ (b = true → ∃ t', L_X12_readExp_108 en (d' + 5) v1 v2 v3 1 0 1 t = some (some (.int v1), t') ∧ mtD t' 3 (tkN B n i).1 ∧ mvF t t') := by
  obtain ⟨⟨hc, hm⟩, hn, ⟨h8, h29⟩, -⟩ := id hE
  obtain ⟨hi, c1, c2, c3⟩ := cL_at hc
  obtain ⟨⟨mX, mn, -⟩, m7, m4, mk1, m2, m3, m5, m6⟩ := id hm
  have hx := tkK_lt hi
  have hF := m_isFactW (en := en) (d := d' + 2) hB hm
  have key : ∃ b : Bool, qev en (d + 3) 138 [.ref 65] s = some (some (.int (bt b)), s) ∧ (b = false → (tkK B n i = 2 ∨ 300 ≤ tkK B n i) → qev en (d' + 5) 271 [.ref 151] t = some (none, t)) ∧ (b = true → (tkK B n i = 2 ∨ 300 ≤ tkK B n i) ∧ ∃ t', qev en (d' + 5) 271 [.ref 151] t = some (none, t') ∧ mtD t' 3 (tkN B n i).1 ∧ mvF t t') := by
    by_cases q2 : tkK B n i = 2
    · have : ∃ b : Bool, qev en (d + 3) 138 [.ref 65] s = some (some (.int (bt b)), s) ∧ (b = false → qev en (d' + 5) 271 [.ref 151] t = some (none, t)) ∧ (b = true → ∃ t', qev en (d' + 5) 271 [.ref 151] t = some (none, t') ∧ mtD t' 3 (tkN B n i).1 ∧ mvF t t') := by
        cases lw
        · exact stray_alike (d := d + 1) (d' := d' + 1) hB hn hc hm q2 h8 h29
        · exact strayL_alike (d := d + 1) (d' := d' + 1) hB hn hc hm q2 h8 h29
      obtain ⟨b, e1, e2, e3⟩ := this
      exact ⟨b, e1, fun z _ => e2 z, fun z => ⟨Or.inl q2, e3 z⟩⟩
    · refine ⟨false, ?_, fun _ z => ?_, fun z => Bool.noConfusion z⟩
      · refine le_X6_isStray en _ _ _ ?_
        rw [c1, if_neg (by rw [n_eq (by decide) (by omega)]; exact q2)]
        rfl
      · have h3 : 300 ≤ tkK B n i := z.resolve_left q2
        have hlw := begB_300 hb h3
        refine le_X12_checkWord en _ _ _ ?_
        rw [if_neg (by rw [h29, hlw.1]; decide), show d' + 4 = d' + 2 + 2 from rfl, hF, bI_some, decide_eq_true hlw.2, if_pos (by decide)]
  obtain ⟨b, e1, e2, e3⟩ := key
  have hmk : ∀ r, (if ¬ nI (kdM (tkK B n i)) = (1 : Int32) then L_X12_readExp_136 en (d' + 5) v1 v2 v3 1 0 t else bV (qev en (d' + 5) 271 [.ref 151] t) (fun s10 => L_X12_readExp_136 en (d' + 5) v1 v2 v3 1 0 s10)) = some r → L_X12_readExp_108 en (d' + 5) v1 v2 v3 1 0 1 t = some r := by
    intro r hr
    refine le_X12_readExp_108 en _ _ _ _ _ _ _ _ _ ?_
    rw [m_needT, bV_some, m_goodL m7, bI_some, if_neg (by decide), m3]
    exact hr
  obtain ⟨k1, k2, -⟩ := kdM_v hx
  have w1 : kdM (tkK B n i) = 1 ↔ (tkK B n i = 2 ∨ 300 ≤ tkK B n i) := by
    rw [k2]
    exact ⟨fun z => z.resolve_left mk1, fun z => Or.inr z⟩
  refine ⟨b, e1, fun z r hr => hmk r ?_, fun z => ?_⟩
  · by_cases qw : tkK B n i = 2 ∨ 300 ≤ tkK B n i
    · rw [if_neg (by rw [n_eq (by decide) (by omega)]; exact not_not_intro (w1.mpr qw)), e2 z qw, bV_some]; exact hr
    · rw [if_pos (by rw [n_eq (by decide) (by omega)]; exact fun y => qw (w1.mp y))]; exact hr
  · obtain ⟨qw, t', g1, g2, g3⟩ := e3 z
    refine ⟨t', hmk _ ?_, g2, g3⟩
    rw [if_neg (by rw [n_eq (by decide) (by omega)]; exact not_not_intro (w1.mpr qw)), g1, bV_some, m_dead136 g2]
/-- the head of an operand -/
theorem head_al (hE : eS lw q bs u B n s t V U cl nc nl nt i ct m c k pl) (hB : ∀ j, j < n → B j < 256) (hdp : 1 ≤ dp ∧ dp ≤ 10) :
    (∃ s' t', qev en (d + 4) 139 [.ref 65, .int (nI dp)] s = some (none, s') ∧ L_X12_readExp_20 en (d' + 5) v1 v2 (nI (dp - 1)) 1 0 t = some (some (.int v1), t') ∧ rdD s' t' ∧ bmF s s' ∧ mvF t t') ∨
    (begB lw (tkK B n i) = true ∧ dp ≤ 9 ∧ qev en (d + 3) 138 [.ref 65] s = some (some (.int 0), s) ∧ (∀ r, oneB en (d + 3) dp s = some r → qev en (d + 4) 139 [.ref 65, .int (nI dp)] s = some r) ∧ (∀ r, L_X12_readExp_159 en (d' + 5) v1 v2 (nI (dp - 1)) 1 0 t = some r → L_X12_readExp_20 en (d' + 5) v1 v2 (nI (dp - 1)) 1 0 t = some r)) := by
  obtain ⟨hl, hn, ⟨h8, h29⟩, -⟩ := id hE
  have hc := hl.1
  have hm := hl.2
  obtain ⟨hi, c1, c2, c3⟩ := cL_at hc
  have hx := tkK_lt hi
  have m7 := hm.2.1
  have e137 : qev en (d + 3) 137 [.ref 65, .int (nI (tkK B n i))] s = some (some (.int (bt (begB lw (tkK B n i)))), s) := x_begK (by omega) h8
  have preM := m_begHead (en := en) (d := d' + 3) (v1 := v1) (v2 := v2) (v3 := nI (dp - 1)) hB hm h29
  by_cases hb : begB lw (tkK B n i) = true
  · obtain ⟨b, e138, g1, g2⟩ := word_al (en := en) (d := d) (d' := d') (v1 := v1) (v2 := v2) (v3 := nI (dp - 1)) hE hB hb
    rw [hb] at e137 preM
    have preX : ∀ r, (if bt b = (0 : Int32) then if nI dp ≤ (9 : Int32) then oneB en (d + 3) dp s else bV (qev en (d + 3) 114 [.ref 65, .int (4 : Int32)] s) (fun s28 => some (none, s28)) else bV (qev en (d + 3) 114 [.ref 65, .int (3 : Int32)] s) (fun s31 => some (none, s31))) = some r → qev en (d + 4) 139 [.ref 65, .int (nI dp)] s = some r := by
      intro r hr
      refine le_X6_readOne en _ _ _ _ ?_
      rw [c1, e137, bI_some, if_pos (by decide), e138, bI_some, ← c1]
      exact hr
    cases b
    · have g1 := g1 rfl
      by_cases q9 : dp ≤ 9
      · right
        refine ⟨hb, q9, e138, fun r hr => preX r ?_, fun r hr => preM r (g1 r ?_)⟩
        · rw [if_pos (show bt false = (0 : Int32) from rfl), if_pos (by rw [n_ge (by decide) (by omega)]; exact q9)]; exact hr
        · refine le_X12_readExp_136 en _ _ _ _ _ _ _ _ ?_
          rw [m_goodL m7, bI_some, if_neg (by decide), if_neg (by rw [n_lt (by decide) (by omega)]; omega)]
          refine le_X12_readExp_155 en _ _ _ _ _ _ _ _ _ ?_
          rw [m_needT, bV_some]
          exact hr
      · left
        obtain ⟨t', w1, w2, w3, w4⟩ := fault_al (en := en) (d' := d' + 3) (k := 4) hl ⟨by decide, by decide⟩
        refine ⟨bmS s 4, t', preX _ ?_, preM _ (g1 _ ?_), ⟨4, _, w3, w4⟩, bmS_F, w2⟩
        · rw [if_pos (show bt false = (0 : Int32) from rfl), if_neg (by rw [n_ge (by decide) (by omega)]; exact q9), x_blame, bV_some]
        · refine le_X12_readExp_136 en _ _ _ _ _ _ _ _ ?_
          rw [m_goodL m7, bI_some, if_neg (by decide), if_pos (by rw [n_lt (by decide) (by omega)]; omega)]
          refine le_X12_readExp_155 en _ _ _ _ _ _ _ _ _ ?_
          have w1' : qev en (d' + 5) 245 [.ref 151, .int (0 : Int32), .int (4 : Int32)] t = some (none, t') := w1
          rw [w1', bV_some, m_dead159 w4]
    · left
      obtain ⟨t', y1, y2, y3⟩ := g2 rfl
      obtain ⟨-, -, -, w3, -⟩ := fault_al (en := en) (d' := d' + 3) (k := 3) hl ⟨by decide, by decide⟩
      refine ⟨bmS s 3, t', preX _ ?_, preM _ y1, ⟨3, _, w3, y2⟩, bmS_F, y3⟩
      rw [if_neg (by decide), x_blame, bV_some]
  · left
    have hb' : begB lw (tkK B n i) = false := by
      revert hb
      cases begB lw (tkK B n i) <;> simp
    rw [hb'] at e137 preM
    obtain ⟨t', w1, w2, w3, w4⟩ := fault_al (en := en) (d' := d' + 3) (k := 2) hl ⟨by decide, by decide⟩
    refine ⟨bmS s 2, t', le_X6_readOne en _ _ _ _ ?_, preM _ ?_, ⟨2, _, w3, w4⟩, bmS_F, w2⟩
    · rw [c1, e137, bI_some, if_neg (show ¬ ¬ bt false = (0 : Int32) from not_not_intro rfl), x_blame, bV_some]
    · refine le_X12_readExp_108 en _ _ _ _ _ _ _ _ _ ?_
      have w1' : qev en (d' + 5) 245 [.ref 151, .int (bt false), .int (2 : Int32)] t = some (none, t') := w1
      rw [w1', bV_some, m_goodD w4, bI_some, if_pos rfl, m_dead136 w4]
end EXH
