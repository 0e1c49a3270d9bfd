/-! THE READER: an expression on both sides: one operand with its prefixes. -/
abbrev oneR (en : pN) (d' : Nat) (v1 : Int32) (lw : Bool) (q bs u : Nat) (B : Nat → Nat) (n b dp : Nat) (R X : Option qR) (s t : qS) (V cl : Nat → Nat) (nc nl nt ct m k : Nat) (pl : Nat → Nat) : Prop :=
  (∃ (s' t' : qS) (U' : Nat → Nat → Nat) (cl' : Nat → Nat) (i' ct' z : Nat), R = some (none, s') ∧ (∀ x, L_X12_readExp_20 en (d' + 8) v1 (nI b) (nI (dp - 1 - (k - epC pl k))) 0 0 t' = some x → X = some x) ∧ eS lw q bs u B n s' t' V U' cl' nc nl nt i' ct' z (z + (k - epC pl k)) (epC pl k) pl ∧ (m ≤ z ∧ z + k = ct' + b) ∧ ndZ lw u s' t' q bs m z ∧ (∀ x, x < k - epC pl k → t'.1 161 (bs + (z + x)) = nI (pl (k - 1 - x)) ∧ t'.1 162 (bs + (z + x)) = 0) ∧ gw (s'.1 (q + 1)) (s'.1 (q + 2)) m z ∧ ct ≤ ct' ∧ (∀ w, cl w ≤ cl' w) ∧ rxF lw q m s s' ∧ rmF lw (bs + m) t t') ∨
  (∃ s' t' : qS, R = some (none, s') ∧ X = some (some (.int v1), t') ∧ rdD s' t' ∧ mEnd s' q m ∧ rxF lw q m s s' ∧ rmF lw (bs + m) t t')
section EXN
variable {en : pN} {d d' k K q bs u n i i' ct ct' m m' m0 c c' c0 k' nc nl nt a b z h dp F p x j r l l0 y f D d0 e : Nat} {lw : Bool} {V cl cl' : Nat → Nat} {U U' : Nat → Nat → Nat} {pl pl' : Nat → Nat} {s s' s'' t t' t'' : qS} {B : Nat → Nat} {O Q M W v w v1 v2 v3 v4 v5 a2 : Int32} {R X : Option qR}
/-- what the class's isStray says -/
def strV (s : qS) : Int32 := if s.1 1 9 = 2 then (if s.1 65 8 = 0 then (if fnd (s.2.1 12) (s.2.1 1 11) 16 0 < 0 then 0 else 1) else if fnd (s.2.1 12) (s.2.1 1 11) 16 0 < 0 then 1 else if fnd (s.2.1 12) (s.2.1 1 11) 16 0 < 8 then 0 else if 12 ≤ fnd (s.2.1 12) (s.2.1 1 11) 16 0 then 0 else 1) else 0
theorem x_strV : qev en (d + 2) 138 [.ref 65] s = some (some (.int (strV s)), s) := by
  refine le_X6_isStray en _ _ _ ?_
  rw [show qev en (d + 1) 84 [.ref 11, .long (s.2.1 1 11)] s = _ from c_named (r := 11) rfl, bI_some]
  unfold strV
  repeat' split
  all_goals first | rfl | contradiction
theorem stray_ct (h : qev en (d + 2) 138 [.ref 65] s = some (some (.int 0), s)) : qev en (d + 2) 138 [.ref 65] (uI s 65 13 v) = some (some (.int 0), uI s 65 13 v) := by
  rw [x_strV] at h ⊢
  have h1 : strV s = 0 := by
    have := (Prod.mk.inj (Option.some.inj h)).1
    injection this with this
    injection this
  have h2 : strV (uI s 65 13 v) = strV s := by
    unfold strV
    rw [show (uI s 65 13 v).1 1 9 = s.1 1 9 from rfl, show (uI s 65 13 v).1 65 8 = s.1 65 8 from rfl]
    rfl
  rw [h2, h1]
theorem m_tkoD (h : mtD t F p) : tkoB en (d + 3) t = some (none, t) := by
  show (if ¬ (t.1 151 3) = (2 : Int32) then _ else _) = _
  by_cases q1 : t.1 151 3 = 2
  · rw [if_neg (not_not_intro q1), show d + 3 = d + 1 + 2 from rfl, m_emitD h, bV_some, m_nextD h, bV_some]
  · rw [if_pos q1]
    by_cases q2 : t.1 151 29 = 0
    · rw [if_pos q2, m_goodD h, bI_some, if_pos rfl]
      refine le_X12_takeOperand_57 en _ _ _ _ ?_
      rw [show d + 3 = d + 1 + 2 from rfl, m_emitD h, bV_some, m_nextD h, bV_some]
    · have e273 : qev en (d + 3) 273 [.ref 151] t = some (none, t) := by
        refine le_X12_takeFact en _ _ _ ?_
        rw [m_goodD h, bI_some, if_neg (not_not_intro rfl)]
      rw [if_neg q2, e273, bV_some]
theorem m_269D (h : mtD t F p) : qev en (d + 3) 269 [.ref 151] t = some (some (.int 0), t) := by
  refine le_X12_endPrefixes en _ _ _ ?_
  refine le_X12_endPrefixes_2 en _ _ _ _ ?_
  rw [m_goodD h, bI_some, if_pos rfl]
/-- prefixes ended behind an operand -/
theorem pre_al (hE : eS lw q bs u B n s t V U cl nc nl nt i ct m m k pl) (hq : plcQ lw q bs) (hcnt : m + k = ct + b) (hb : b ≤ 9) : ∃ t1, qev en (d' + 3) 269 [.ref 151] t = some (some (.int (nI (k - epC pl k))), t1) ∧ eS lw q bs u B n s t1 V U cl nc nl nt i ct m (m + (k - epC pl k)) (epC pl k) pl ∧ emF (bs + m) t t1 ∧ ∀ x, x < k - epC pl k → t1.1 161 (bs + (m + x)) = nI (pl (k - 1 - x)) ∧ t1.1 162 (bs + (m + x)) = 0 := by
  obtain ⟨hl, hn, h8, h9, ⟨x1, x2, x3⟩, ⟨y1, y2, y3⟩, hp⟩ := id hE
  have hbs : bs ≤ 400 := by rcases hq with g | g <;> omega
  obtain ⟨t1, e1, e2, e3, e4, e5⟩ := m_prefixes (en := en) (d := d') (pl := pl) k (bs + m) 0 t (by omega) hl.2.2.1 y2 y3 (by omega) hp
  rw [show 0 + (k - epC pl k) = k - epC pl k by omega] at e1
  have hle := @epC_le pl k
  have hm1 : mtL t1 B n i := mtL_fr hl.2 (fun j hj => e2.2.1 j (by omega) (by omega)) (e2.1 152 (by decide) (by decide) (by decide)) (by rw [e2.2.2.2])
  refine ⟨t1, le_X12_endPrefixes en _ _ _ e1, eS_fr hE hq (m0 := 0) (c0 := 0) rxF.rf (rmF.em e2 (by omega)) ⟨hl.1, hm1⟩ ⟨x1, by rw [e2.2.1 28 (by decide) (by decide)]; exact x2, x3⟩ ⟨y1, by rw [e4, show bs + m + (k - epC pl k) = bs + (m + (k - epC pl k)) by omega], e3⟩ (fun j hj => by rw [e2.1 163 (by decide) (by decide) (by decide)]; exact hp j (by omega)), e2, fun x hx => ?_⟩
  have := e5 x hx
  rw [show bs + m + x = bs + (m + x) by omega] at this
  exact this
/-- the model at an operand that is no sign -/
theorem m_159o (hm : mtL t B n i) (hy : tkK B n i ≠ 40 ∧ tkK B n i ≠ 45 ∧ tkK B n i ≠ 33) : ∀ r, bV (qev en (d' + 1) 272 [.ref 151] t) (fun s9 => bI (qev en (d' + 1) 269 [.ref 151] s9) (fun w11 s12 => L_X12_readExp_20 en (d' + 1) v1 v2 (v3 - w11) (0 : Int32) v5 s12)) = some r → L_X12_readExp_159 en (d' + 1) v1 v2 v3 v4 v5 t = some r := by
  intro r hr
  obtain ⟨k1, -, -, k4⟩ := kdM_v (tkK_lt hm.1.2.2)
  have m3 := hm.2.2.2.2.2.1
  have ne : ∀ y : Nat, 4 ≤ y → y < 300 → tkK B n i ≠ y → ¬ t.1 151 3 = nI y := fun y h1 h2 h3 => by rw [m3, n_EQ (by omega) (by omega)]; exact fun z => h3 ((k4 y h1 h2).mp z)
  refine le_X12_readExp_159 en _ _ _ _ _ _ _ _ ?_
  rw [m_goodL hm.2.1, bI_some, if_pos (by decide), if_neg (show ¬ t.1 151 3 = (40 : Int32) from ne 40 (by decide) (by decide) hy.1), if_neg (show ¬ t.1 151 3 = (45 : Int32) from ne 45 (by decide) (by decide) hy.2.1), if_pos (show ¬ t.1 151 3 = (33 : Int32) from ne 33 (by decide) (by decide) hy.2.2)]
  exact hr
/-- an operand that is a token -/
theorem one_opd (hE : eS lw q bs u B n s t V U cl nc nl nt i ct m m k pl) (hq : plcQ lw q bs) (hB : ∀ j, j < n → B j < 256) (hcnt : m + k = ct + b) (hbk : b ≤ k) (hb : b ≤ 9) (he : k - epC pl k ≤ dp - 1) (hbg : begB lw (tkK B n i) = true) (hy : tkK B n i ≠ 40 ∧ tkK B n i ≠ 45 ∧ tkK B n i ≠ 33) (h138 : qev en (d0 + 2) 138 [.ref 65] s = some (some (.int 0), s)) (hX : ∀ r, oneB en (e + 7) dp s = some r → R = some r) (hM : ∀ r, L_X12_readExp_159 en (d' + 8) v1 (nI b) (nI (dp - 1)) 1 0 t = some r → X = some r) : oneR en d' v1 lw q bs u B n b dp R X s t V cl nc nl nt (ct + 1) m k pl := by
  obtain ⟨hl, hn, h8, ⟨h7, -⟩, ⟨x1, x2, x3⟩, ⟨y1, y2, y3⟩, hp⟩ := id hE
  have hq' := hq.qq
  obtain ⟨hi, c1, c2, c3⟩ := cL_at hl.1
  have hxl := tkK_lt hi
  have hm3 := m_159o (en := en) (d' := d' + 7) (v1 := v1) (v2 := nI b) (v3 := nI (dp - 1)) (v4 := 1) (v5 := 0) hl.2 hy
  have preX : ∀ r, bI (qev en (e + 7) 136 [.ref 65] s) (fun w11 s12 => if w11 = (0 : Int32) then some (none, s12) else bV (qev en (e + 7) 140 [.ref 65, .int (nI (tkK B n i)), .int (nI dp)] s12) (fun s16 => some (none, s16))) = some r → R = some r := fun r hr => hX r (by
    show (if ¬ (s.1 1 9) = (40 : Int32) then _ else _) = _
    rw [if_pos (by rw [c1, n_eq (by decide) (by omega)]; exact hy.1), c1]
    exact hr)
  have finD : ∀ t2 F' p', mtD t2 F' p' → pilF t2 k pl → ∃ t3, bI (qev en (d' + 8) 269 [.ref 151] t2) (fun w11 s12 => L_X12_readExp_20 en (d' + 8) v1 (nI b) (nI (dp - 1) - w11) (0 : Int32) 0 s12) = some (some (.int v1), t3) ∧ mtD t3 F' p' ∧ ddF t2 t3 := fun t2 F' p' h1 h2 => by
    obtain ⟨t3, u1, u2, u3⟩ := m_deadExp (en := en) (d := d' + 5) (v1 := v1) (v2 := nI b) (v3 := nI (dp - 1) - 0) (v4 := 0) (v5 := 0) (show k ≤ 2000 by omega) h1 h2.1 h2.2
    exact ⟨t3, by rw [show d' + 8 = d' + 5 + 3 from rfl, m_269D h1, bI_some]; exact u1, u2, u3⟩
  rcases count_al (en := en) (d := e + 5) (d' := d' + 3) hE hq with ⟨c4, c5, c6, c7⟩ | ⟨t2, c5, c6, ⟨F', p', c7, c8⟩, c9, c10⟩
  · have hm4 : m < 400 := by omega
    have op : ∃ s' t', qev en (e + 7) 140 [.ref 65, .int (nI (tkK B n i)), .int (nI dp)] (uI s 65 13 (nI (ct + 1))) = some (none, s') ∧ tkoB en (d' + 7) (uI t 151 28 (nI (ct + 1))) = some (none, t') ∧ opR lw q bs u B n (uI s 65 13 (nI (ct + 1))) (uI t 151 28 (nI (ct + 1))) s' t' V cl nc nl nt (ct + 1) m k pl := by
      by_cases q3 : tkK B n i = 3
      · exact opd_num (d := e + 4) (d' := d' + 4) c7 hq hm4 q3
      · by_cases q2 : tkK B n i = 2
        · cases lw with
          | false => exact opd_loc (d := e + 3) (d' := d' + 4) c7 hq hm4 q2 rfl
          | true =>
            exact opd_word (d := e + 1) (d' := d') (d0 := d0) c7 hq hB hm4 rfl q2 (stray_ct h138)
        · have := begB_300 hbg (by
            unfold begB at hbg
            simp only [Bool.or_eq_true, Bool.and_eq_true, decide_eq_true_eq] at hbg
            omega)
          exact opd_fact (d := e + 1) (d' := d') c7 hq hB hm4 this.1 this.2
    obtain ⟨s2, t2, o1, o2, o3, o4, o5⟩ := op
    have e272 : qev en (d' + 8) 272 [.ref 151] t = some (none, t2) := by
      refine le_X12_takeOperand en _ _ _ ?_
      rw [c6, bV_some]
      exact o2
    have fx : rxF lw q m s s2 := ((rxF.cu hq').tr o3 (Nat.le_refl m) : rxF lw q m s s2)
    have fm : rmF lw (bs + m) t t2 := ((rmF.ui rfl).tr o4 (Nat.le_refl _) : rmF lw (bs + m) t t2)
    have r1 : R = some (none, s2) := preX _ (by rw [c5, bI_some, if_neg (by decide), o1, bV_some])
    rcases o5 with ⟨U', cl', i', g1, g2, g3, g4⟩ | ⟨⟨F', p', g1, g1'⟩, g2, g3⟩
    · obtain ⟨t3, w1, w2, w3, w4⟩ := pre_al (en := en) (d' := d' + 5) (b := b) g1 hq (by omega) hb
      left
      refine ⟨s2, t3, U', cl', i', ct + 1, m + 1, r1, fun x hx => hM x (hm3 x ?_), w2, ⟨by omega, by omega⟩, fun j j1 j2 => ?_, w4, g3, Nat.le_refl _, g4, fx, fm.tr (rmF.em w3 (by omega)) (Nat.le_refl _)⟩
      · rw [e272, bV_some, w1, bI_some, n_sub he]
        exact hx
      · have ej : j = m := by omega
        subst ej
        obtain ⟨f1, f2⟩ := w3.2.2.1 (bs + j) (by omega)
        exact nd1_eq g2 rfl rfl f1 f2
    · obtain ⟨t3, w1, w2, w3⟩ := finD t2 F' p' g1' g3
      right
      refine ⟨s2, t3, r1, hM _ (hm3 _ ?_), ⟨F', p', g1, w2⟩, g2, fx, fm.tr (rmF.dd w3) (Nat.le_refl _)⟩
      rw [e272, bV_some]
      exact w1
  · obtain ⟨t3, w1, w2, w3⟩ := finD t2 F' p' c8 c10
    have e272 : qev en (d' + 8) 272 [.ref 151] t = some (none, t2) := by
      refine le_X12_takeOperand en _ _ _ ?_
      rw [c6, bV_some]
      exact m_tkoD c8
    right
    refine ⟨bmS s 4, t3, preX _ ?_, hM _ (hm3 _ ?_), ⟨F', p', c7, w2⟩, mEnd_tk hq' (mEnd_0 hE hq (by omega)) (tnF.bm bmS_F), rxF.bm bmS_F hq', (c9 _).wk.tr (rmF.dd w3) (Nat.le_refl _)⟩
    · rw [c5, bI_some, if_pos rfl]
    · rw [e272, bV_some]
      exact w1
end EXN
