/-! THE READER: what is needed, on both sides. -/
/-- what the tokens' steps and faults change of the class -/
abbrev tnF (s s' : qS) : Prop := (∀ c, c ≠ 1 → c ≠ 65 → s'.1 c = s.1 c) ∧ (∀ j, j ≠ 8 → j ≠ 9 → j ≠ 10 → s'.1 1 j = s.1 1 j) ∧ (∀ j, j ≠ 11 → j ≠ 12 → s'.1 65 j = s.1 65 j) ∧ (∀ c, c ≠ 1 → s'.2.1 c = s.2.1 c) ∧ s'.2.2 = s.2.2
section TKF
variable {en : pN} {d d' k K q bs u n i i' ct ct' m m' m0 c c' c0 k' nc nl nt a b z dp F p : Nat} {lw : Bool} {V cl cl' : Nat → Nat} {U U' : Nat → Nat → Nat} {pl pl' : Nat → Nat} {s s' s'' t t' t'' : qS} {B : Nat → Nat} {O Q M W v w : Int32}
theorem tnF.rf : tnF s s := ⟨fun _ _ _ => rfl, fun _ _ _ _ => rfl, fun _ _ _ => rfl, fun _ _ => rfl, rfl⟩
theorem tnF.tr (h : tnF s s') (g : tnF s' s'') : tnF s s'' := ⟨fun c a b => (g.1 c a b).trans (h.1 c a b), fun j a b c => (g.2.1 j a b c).trans (h.2.1 j a b c), fun j a b => (g.2.2.1 j a b).trans (h.2.2.1 j a b), fun c a => (g.2.2.2.1 c a).trans (h.2.2.2.1 c a), g.2.2.2.2.trans h.2.2.2.2⟩
theorem tnF.ad (h : adF s s') : tnF s s' := ⟨fun c a _ => h.1 c a, h.2.1, fun j _ _ => by rw [h.1 65 (by decide)], h.2.2.1, h.2.2.2⟩
theorem tnF.bm (h : bmF s s') : tnF s s' := ⟨h.1, fun j _ b _ => h.2.1 j b, h.2.2.1, fun c _ => by rw [h.2.2.2], by rw [h.2.2.2]⟩
theorem rxF.tk (h : tnF s s') (hq : q = 7 ∨ q = 61) : rxF lw q m s s' := ⟨fun a h1 _ _ _ _ h6 => h.1 a h1 h6, h.2.1, fun j _ => by rw [h.1 q (by omega) (by omega)], fun j _ => ⟨by rw [h.1 (q + 1) (by omega) (by omega)], by rw [h.1 (q + 2) (by omega) (by omega)]⟩, fun j h1 h2 _ => h.2.2.1 j h1 h2, fun a h1 _ => h.2.2.2.1 a h1, h.2.2.2.2⟩
theorem eS_tk (h : eS lw q bs u B n s t V U cl nc nl nt i ct m c k pl) (hq : plcQ lw q bs) (f : tnF s s') (g : mvF t t') (hl : rdL s' t' B n i') : eS lw q bs u B n s' t' V U cl nc nl nt i' ct m c k pl := by
  have hq' := hq.qq
  refine eS_fr h hq (rxF.tk (m := m) f hq') (rmF.mv (c := c) g) hl ?_ ?_ ?_
  · obtain ⟨-, -, -, -, h1, -, -⟩ := h
    rw [f.2.2.1 13 (by decide) (by decide), g.2.1 28 (by decide) (by decide) (by decide) (by decide) (by decide) (by decide)]; exact h1
  · obtain ⟨-, -, -, -, -, h1, -⟩ := h
    rw [f.1 q (by omega) (by omega), g.2.1 25 (by decide) (by decide) (by decide) (by decide) (by decide) (by decide), g.2.1 31 (by decide) (by decide) (by decide) (by decide) (by decide) (by decide)]; exact h1
  · obtain ⟨-, -, -, -, -, -, h1⟩ := h
    rw [g.1 163 (by decide)]; exact h1
/-- the class needs a token: it stands there, or a fault -/
theorem x_need (h : rdL s t B n i) (hk : 2 ≤ k ∧ k < 2 ^ 31) : (tkK B n i = k ∧ ∀ d r, qev en (d + 1) 167 [.ref 1] s = some (none, r) → qev en (d + 2) 115 [.ref 65, .int (nI k)] s = some (none, r)) ∨ (tkK B n i ≠ k ∧ ∀ d, qev en (d + 2) 115 [.ref 65, .int (nI k)] s = some (none, bmS s 2)) := by
  obtain ⟨hi, c1, c2, c3⟩ := cL_at h.1
  have hx := tkK_lt hi
  by_cases q : tkK B n i = k
  · refine Or.inl ⟨q, fun d r hr => le_X6_need en _ _ _ _ ?_⟩
    rw [c1, q, if_neg (not_not_intro rfl), hr, bV_some]
  · refine Or.inr ⟨q, fun d => le_X6_need en _ _ _ _ ?_⟩
    rw [c1, if_pos (by rw [n_EQ (by omega) (by omega)]; exact q), x_blame, bV_some]
/-- a sign that must stand here -/
theorem must_al (h : rdL s t B n i) (hk : 4 ≤ k ∧ k < 300) : ∃ s' t', qev en (d + 2) 115 [.ref 65, .int (nI k)] s = some (none, s') ∧ qev en (d' + 4) 252 [.ref 151, .int (nI k)] t = some (none, t') ∧ tnF s s' ∧ mvF t t' ∧ ((tkK B n i = k ∧ rdL s' t' B n (i + 1)) ∨ rdD s' t') := by
  obtain ⟨hi, c1, c2, c3⟩ := cL_at h.1
  have hx := tkK_lt hi
  have m7 := h.2.2.1
  have m3 := h.2.2.2.2.2.2.1
  obtain ⟨k1, -, -, k4⟩ := kdM_v hx
  by_cases q : tkK B n i = k
  · obtain ⟨s', t', e1, e2, e3, e4, e5⟩ := adv_al (en := en) (d := d) (d' := d') h (by omega)
    refine ⟨s', t', ?_, le_X12_must en _ _ _ _ ?_, tnF.ad e3, e4, ?_⟩
    · rcases x_need (en := en) (k := k) h ⟨by omega, by omega⟩ with ⟨_, g⟩ | ⟨g, _⟩
      · exact g d s' e1
      · exact absurd q g
    · rw [m_goodL m7, bI_some, if_neg (by decide), m3, if_neg (by rw [n_EQ (by omega) (by omega)]; exact not_not_intro ((k4 k hk.1 hk.2).mpr q))]
      refine le_X12_must_21 en _ _ _ _ ?_
      rw [m_needT, bV_some]
      refine le_X12_must_25 en _ _ _ ?_
      rw [e2, bV_some]
    · rcases e5 with e5 | e5
      · exact Or.inl ⟨q, e5⟩
      · exact Or.inr e5
  · obtain ⟨t', w1, w2, w3, w4⟩ := fault_al (en := en) (d' := d' + 1) (k := 2) h ⟨by decide, by decide⟩
    have w1' : qev en (d' + 3) 245 [.ref 151, .int (0 : Int32), .int (2 : Int32)] t = some (none, t') := w1
    refine ⟨bmS s 2, t', ?_, le_X12_must en _ _ _ _ ?_, tnF.bm bmS_F, w2, Or.inr ⟨2, _, w3, w4⟩⟩
    · rcases x_need (en := en) (k := k) h ⟨by omega, by omega⟩ with ⟨g, _⟩ | ⟨_, g⟩
      · exact absurd g q
      · exact g d
    · rw [m_goodL m7, bI_some, if_neg (by decide), m3, if_pos (by rw [n_EQ (by omega) (by omega)]; exact fun z => q ((k4 k hk.1 hk.2).mp z))]
      refine le_X12_must_21 en _ _ _ _ ?_
      rw [w1', bV_some]
      refine le_X12_must_25 en _ _ _ ?_
      rw [m_nextD w4, bV_some]
/-- where there is a fault already -/
theorem mustD_al (h : rdD s t) (hk : 2 ≤ k ∧ k < 2 ^ 31) {x : Int32} : qev en (d + 2) 115 [.ref 65, .int (nI k)] s = some (none, bmS s 2) ∧ qev en (d' + 3) 252 [.ref 151, .int x] t = some (none, t) ∧ rdD (bmS s 2) t := by
  obtain ⟨F, p, h1, h2⟩ := h
  refine ⟨x_deadNeed h1 hk, le_X12_must en _ _ _ _ ?_, F, p, bmS_dead h1, h2⟩
  rw [m_goodD h2, bI_some, if_pos rfl]
  refine le_X12_must_25 en _ _ _ ?_
  rw [m_nextD h2, bV_some]
/-- the class goes on and puts; the model puts and goes on -/
theorem adput_al {d1 d2 d3 d4 : Nat} (hE : eS lw q bs u B n s t V U cl nc nl nt i ct m m k pl) (hq : plcQ lw q bs) (hm : m < 400) (hk : tkK B n i ≠ 0) : ∃ s1 s2 t1 t2, qev en (d1 + 1) 167 [.ref 1] s = some (none, s1) ∧ tnF s s1 ∧ qev en (d2 + 2) 76 [.ref q, .int O, .int Q] s1 = some (none, s2) ∧ qev en (d3 + 2) 262 [.ref 151, .int M, .int W] t = some (none, t1) ∧ qev en (d4 + 3) 249 [.ref 151] t1 = some (none, t2) ∧ rxF true q m s s2 ∧ rmF true (bs + m) t t2 ∧
    ((eS lw q bs u B n s2 t2 V U cl nc nl nt (i + 1) ct (m + 1) (m + 1) k pl ∧ (s2.1 (q + 1) m = O ∧ s2.1 (q + 2) m = Q) ∧ t2.1 161 (bs + m) = M ∧ t2.1 162 (bs + m) = W) ∨ (rdD s2 t2 ∧ mEnd s2 q m ∧ pilF t2 k pl)) := by
  obtain ⟨⟨hc, hmt⟩, hn, h8, h7, ⟨x1, x2, x3⟩, ⟨y1, y2, y3⟩, hp⟩ := id hE
  have m7 := hmt.2.1
  have hq' := hq.qq
  have hbs : bs + m < 900 := by
    rcases hq with z | z <;> omega
  obtain ⟨s1, a1, a2, a3⟩ := x_adv (en := en) (d := d1) hc ⟨hk, hmt.2.2.2.1⟩
  have ym : s1.1 q 3 = nI m := by rw [a3.1 q (by omega)]; exact y1
  obtain ⟨s2, e1, e2, e3, e4, e5⟩ := x_put4 (en := en) (d := d2) (x := O) (y := Q) hq' ym hm
  obtain ⟨t1, g1, g2, g3, g4, g5, g6⟩ := m_emit (en := en) (d := d3) (v := W) (x := M) m7 y2 hbs
  have hmt1 : mtL t1 B n i := mtL_fr hmt (fun j hj => g2.2.1 j (by omega) (by omega)) (g2.1 152 (by decide) (by decide) (by decide)) (by rw [g2.2.2.2])
  obtain ⟨t2, b1, ⟨b2, b3, b4⟩, b5⟩ := m_adv (en := en) (d := d4) hmt1 hk
  have fx : rxF true q m s s2 := (rxF.ad a3 hq').tr (rxF.pt e2 hq' (Nat.le_refl m)) (Nat.le_refl m)
  have fm : rmF true (bs + m) t t2 := (rmF.em g2 (Nat.le_refl _)).tr (rmF.mv b5) (Nat.le_refl _)
  refine ⟨s1, s2, t1, t2, a1, tnF.ad a3, e1, g1, b1, fx, fm, ?_⟩
  have r1 := e2.1 1 (by omega) (by omega) (by omega)
  have r65 := e2.1 65 (by omega) (by omega) (by omega)
  by_cases z : tkK B n (i + 1) = 1
  · right
    obtain ⟨-, c1, c2, -⟩ := cL_at a2
    refine ⟨⟨1, _, Or.inr ⟨by rw [r1, c1, z]; rfl, by rw [r65]; exact a2.2.2.2.1.1, by rw [r1]; exact c2, rfl⟩, b4 z⟩, ⟨m + 1, e5, by omega, ?_⟩, pil_mv ⟨by rw [g6]; exact y3, by rw [g2.1 163 (by decide) (by decide) (by decide)]; exact hp⟩ b5⟩
    rcases hq' with rfl | rfl
    · show m + 1 ≤ 500; omega
    · show m + 1 ≤ 400; omega
  · left
    have r4 := e2.1 4 (by omega) (by omega) (by omega)
    have r5 := e2.1 5 (by omega) (by omega) (by omega)
    have hc2 : cL s2 B n (i + 1) := cL_fr a2 (fun j _ => by rw [r1]) r4 r5 (by rw [e2.2.2.2]) (by rw [e2.2.2.2]) (by rw [e2.2.2.2]) (fun _ _ => by rw [r65])
    refine ⟨eS_fr hE hq fx fm ⟨hc2, b3 z⟩ ⟨by rw [r65, a3.1 65 (by decide)]; exact x1, ?_, x3⟩ ⟨e5, ?_, ?_⟩ (fun j hj => ?_), ⟨e3, e4⟩, by rw [b5.1 161 (by decide)]; exact g3, by rw [b5.1 162 (by decide)]; exact g4⟩
    · rw [b5.2.1 28 (by decide) (by decide) (by decide) (by decide) (by decide) (by decide), g2.2.1 28 (by decide) (by decide)]; exact x2
    · rw [b5.2.1 25 (by decide) (by decide) (by decide) (by decide) (by decide) (by decide), g5]; rfl
    · rw [b5.2.1 31 (by decide) (by decide) (by decide) (by decide) (by decide) (by decide), g6]; exact y3
    · rw [b5.1 163 (by decide), g2.1 163 (by decide) (by decide) (by decide)]; exact hp j hj
end TKF
