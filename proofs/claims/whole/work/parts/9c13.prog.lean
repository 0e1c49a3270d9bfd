/-! THE READER: all declarations of a program on both sides. -/
section RDP
variable {en : pN} {d d' k i i' n N j x y c u v q nc nc' nl nl' nt nt' m D b : Nat} {V V' cl cl' th K : Nat → Nat} {U : Nat → Nat → Nat} {bl : Nat → List Nat} {s s' s'' t t' t'' : qS} {B : Nat → Nat} {w z v1 : Int32} {W : Int64} {F p : Nat}
/-! behind a fault -/
theorem xD_118 (h : dX s F p) : qev en (d + 2) 118 [.ref 65, .int v1, .int w] s = some (some (.int 0), bmS s 2) := by
  refine le_X6_isNewName en _ _ _ _ _ ?_
  rw [if_neg (dX_2 h), x_blame, bV_some]
  refine le_X6_isNewName_54 en _ _ _ ?_
  rw [if_pos (by rw [bmS_0]; decide)]
theorem xD_119 (h : dX s F p) : qev en (d + 3) 119 [.ref 65] s = some (none, bmS s 2) := by
  refine le_X6_readCell en _ _ _ ?_
  rw [xD_118 h, bI_some, if_neg (not_not_intro rfl)]
theorem xD_120 (h : dX s F p) : qev en (d + 3) 120 [.ref 65] s = some (none, bmS s 2) := by
  refine le_X6_readLock en _ _ _ ?_
  rw [xD_118 h, bI_some, if_pos rfl]
theorem xD_121 (h : dX s F p) : qev en (d + 3) 121 [.ref 65] s = some (none, bmS s 2) := by
  refine le_X6_readThread en _ _ _ ?_
  rw [xD_118 h, bI_some, if_pos rfl]
theorem mD_286 (h : mtD t F p) : qev en (d + 2) 286 [.ref 151, .int v1] t = some (none, t) := by
  refine le_X12_checkName en _ _ _ _ ?_
  rw [m_goodD h, bI_some, if_pos rfl]
  refine le_X12_checkName_16 en _ _ _ _ ?_
  rw [m_goodD h, bI_some, if_pos rfl]
  refine le_X12_checkName_51 en _ _ _ _ ?_
  rw [m_goodD h, bI_some, if_pos rfl]
theorem mD_287 (h : mtD t F p) : qev en (d + 3) 287 [.ref 151] t = some (none, t) := by
  have e : ∀ v, L_X12_readCell_15 en (d + 2) v t = some (none, t) := fun v => by
    refine le_X12_readCell_15 en _ _ _ _ ?_
    rw [mD_286 h, bV_some, m_goodD h, bI_some, if_neg (not_not_intro rfl)]
  refine le_X12_readCell en _ _ _ ?_
  by_cases q : (8 : Int32) ≤ t.1 151 12
  · rw [if_pos q]; exact e 0
  · rw [if_neg q]; exact e 1
theorem mD_288 (h : mtD t F p) : qev en (d + 2) 288 [.ref 151] t = some (none, t) := by
  refine le_X12_readThread en _ _ _ ?_
  rw [m_goodD h, bI_some, if_pos rfl]
  refine le_X12_readThread_16 en _ _ _ ?_
  rw [m_goodD h, bI_some, if_pos rfl]
  refine le_X12_readThread_51 en _ _ _ ?_
  rw [m_goodD h, bI_some, if_pos rfl]
  refine le_X12_readThread_76 en _ _ _ ?_
  rw [m_goodD h, bI_some, if_neg (not_not_intro rfl)]
theorem mD_134 (h : mtD t F p) : ∀ r, L_X12_program_71 en (d + 4) t = some r → L_X12_program_134 en (d + 4) v1 t = some r := fun r hr => by
  refine le_X12_program_134 en _ _ _ _ ?_
  rw [show d + 4 = d + 2 + 2 from rfl, mD_286 h, bV_some, m_goodD h, bI_some, if_pos rfl]
  refine le_X12_program_167 en _ _ _ ?_
  rw [m_nextD h, bV_some, show d + 2 + 2 = d + 1 + 3 from rfl, endD_m h, bV_some]
  exact hr
theorem mD_71 (h : mtD t F p) : ∀ r, L_X12_program_205 en (d + 1) 0 t = some r → L_X12_program_71 en (d + 1) t = some r := fun r hr => by
  refine le_X12_program_71 en _ _ _ ?_
  rw [m_goodD h, bI_some, if_pos rfl]
  exact hr
/-- all is read, or a fault is told -/
abbrev rdE (s t : qS) : Prop := ∃ F p : Nat, s.1 65 11 = nI F ∧ s.1 65 12 = nI p ∧ F ≠ 0 ∧ F < 16 ∧ mtD t F p
theorem xD_21 (h : dX s F p) (hv : v + 1 < 4000) : ∃ s', (∀ r, L_X6_readProgram_100 en (d + 3) s' = some r → L_X6_readProgram_21 en (d + 3) (nI v) s = some r) ∧ bmF s s' ∧ s'.1 65 11 = nI F ∧ s'.1 65 12 = nI p ∧ F ≠ 0 ∧ F < 16 := by
  have go : ∀ (s : qS) (v : Nat), v < 4000 → s.1 1 9 = 0 → ∀ r, L_X6_readProgram_100 en (d + 3) s = some r → L_X6_readProgram_21 en (d + 3) (nI v) s = some r := fun s v hv h0 r hr => by
    refine le_X6_readProgram_21 en _ _ _ _ ?_
    rw [if_neg (by rw [n_le (by decide) (by omega)]; omega), if_pos h0]
    exact hr
  rcases id h with ⟨a1, a2, a3, a4, a5⟩ | ⟨a1, a2, a3, a4⟩
  · exact ⟨s, go s v (by omega) a1, bmF.rf, a2, a3, a4, a5⟩
  · have h2 : dX (bmS s 2) F p := bmS_dead h
    have h0 : (bmS s 2).1 1 9 = 0 := bmS_0
    rcases h2 with ⟨b1, b2, b3, b4, b5⟩ | ⟨b1, _⟩
    · refine ⟨bmS s 2, fun r hr => le_X6_readProgram_21 en _ _ _ _ ?_, bmS_F, b2, b3, b4, b5⟩
      rw [if_neg (by rw [n_le (by decide) (by omega)]; omega), if_neg (by rw [a1]; decide)]
      rw [show qev en (d + 3) 116 [.ref 65, .int (317 : Int32)] s = _ from x_deadSkip (d := d + 2) (m := 317) h ⟨by decide, by decide⟩, bI_some, if_pos rfl]
      rw [show qev en (d + 3) 116 [.ref 65, .int (302 : Int32)] s = _ from x_deadSkip (d := d + 2) (m := 302) h ⟨by decide, by decide⟩, bI_some, if_pos rfl]
      rw [show qev en (d + 3) 116 [.ref 65, .int (319 : Int32)] s = _ from x_deadSkip (d := d + 2) (m := 319) h ⟨by decide, by decide⟩, bI_some, if_pos rfl, x_blame, bV_some, show nI v + (1 : Int32) = nI (v + 1) from n_ar]
      exact go _ (v + 1) hv h0 r hr
    · rw [h0] at b1; exact absurd b1 (by decide)
theorem prog_dead (h : rdD s t) (hv : v + 1 < 4000) : ∃ s', (∀ r, L_X6_readProgram_100 en (d + 164) s' = some r → L_X6_readProgram_21 en (d + 164) (nI v) s = some r) ∧ (∀ r, L_X12_program_205 en (d' + 17) 0 t = some r → L_X12_program_71 en (d' + 17) t = some r) ∧ tqX s s' ∧ rdE s' t := by
  obtain ⟨F, p, h1, h2⟩ := h
  obtain ⟨s', e1, e2, e3, e4, e5, e6⟩ := xD_21 (en := en) (d := d + 161) h1 hv
  exact ⟨s', e1, mD_71 (d := d' + 16) h2, tqX.bm e2, F, p, e3, e4, e5, e6, h2⟩
/-- all declarations -/
theorem prog_loop (hB : ∀ j, j < n → B j < 256) : ∀ (z v : Nat) (s t : qS) (V : Nat → Nat) (U : Nat → Nat → Nat) (cl : Nat → Nat) (nc nl nt i m N : Nat) (th K : Nat → Nat) (bl : Nat → List Nat), 16 < nc + nl + nt + z → v ≤ nc + nl + nt → rdL s t B n i → tpS s t V U cl nc nl nt m N th K bl → ∃ s' t', (∀ r, L_X6_readProgram_100 en (d + 164) s' = some r → L_X6_readProgram_21 en (d + 164) (nI v) s = some r) ∧ (∀ r, L_X12_program_205 en (d' + 17) 0 t' = some r → L_X12_program_71 en (d' + 17) t = some r) ∧ tqX s s' ∧ tqM t t' ∧ ((∃ (V' : Nat → Nat) (U' : Nat → Nat → Nat) (cl' : Nat → Nat) (nc' nl' nt' i' m' N' : Nat) (th' K' : Nat → Nat) (bl' : Nat → List Nat), rdL s' t' B n i' ∧ tpS s' t' V' U' cl' nc' nl' nt' m' N' th' K' bl') ∨ rdE s' t') := by
  intro z
  induction z with
  | zero =>
    intro v s t V U cl nc nl nt i m N th K bl hz hv h1 h2
    have hb3 := h2.1.1
    omega
  | succ z ih =>
    intro v s t V U cl nc nl nt i m N th K bl hz hv h1 h2
    have hb3 := h2.1.1
    have h16 := h2.1.2.2.1.2.1
    obtain ⟨hc, hm⟩ := id h1
    obtain ⟨hi, c1, c2, c3⟩ := cL_at hc
    obtain ⟨⟨mX, mn, -⟩, m7, m4, mk1, m2, m3, m5, m6⟩ := id hm
    have hx := tkK_lt (B := B) hi
    obtain ⟨k1, k2, k3, k4⟩ := kdM_v hx
    have v40 : ¬ (4000 : Int32) ≤ nI v := by rw [n_le (by decide) (by omega)]; omega
    have ev : nI v + (1 : Int32) = nI (v + 1) := n_ar
    -- behind an item
    have goOn : ∀ (s1 t1 : qS) (V1 : Nat → Nat) (U1 : Nat → Nat → Nat) (cl1 : Nat → Nat) (nc1 nl1 nt1 m1 N1 : Nat) (th1 K1 : Nat → Nat) (bl1 : Nat → List Nat), nc1 + nl1 + nt1 = nc + nl + nt + 1 → tpL B n s1 t1 V1 U1 cl1 nc1 nl1 nt1 m1 N1 th1 K1 bl1 → tqX s s1 → tqM t t1 → (∀ r, L_X6_readProgram_21 en (d + 164) (nI (v + 1)) s1 = some r → L_X6_readProgram_21 en (d + 164) (nI v) s = some r) → (∀ r, L_X12_program_71 en (d' + 17) t1 = some r → L_X12_program_71 en (d' + 17) t = some r) → ∃ s' t', (∀ r, L_X6_readProgram_100 en (d + 164) s' = some r → L_X6_readProgram_21 en (d + 164) (nI v) s = some r) ∧ (∀ r, L_X12_program_205 en (d' + 17) 0 t' = some r → L_X12_program_71 en (d' + 17) t = some r) ∧ tqX s s' ∧ tqM t t' ∧ ((∃ (V' : Nat → Nat) (U' : Nat → Nat → Nat) (cl' : Nat → Nat) (nc' nl' nt' i' m' N' : Nat) (th' K' : Nat → Nat) (bl' : Nat → List Nat), rdL s' t' B n i' ∧ tpS s' t' V' U' cl' nc' nl' nt' m' N' th' K' bl') ∨ rdE s' t') := fun s1 t1 V1 U1 cl1 nc1 nl1 nt1 m1 N1 th1 K1 bl1 hs hL f1 f2 g1 g2 => by
      rcases hL with ⟨i1, l1, l2⟩ | hL
      · obtain ⟨s', t', a1, a2, a3, a4, a5⟩ := ih (v + 1) s1 t1 V1 U1 cl1 nc1 nl1 nt1 i1 m1 N1 th1 K1 bl1 (by omega) (by omega) l1 l2
        exact ⟨s', t', fun r hr => g1 r (a1 r hr), fun r hr => g2 r (a2 r hr), f1.tr a3, f2.tr a4, a5⟩
      · obtain ⟨s', a1, a2, a3, a4⟩ := prog_dead (en := en) (d := d) (d' := d') (v := v + 1) hL (by omega)
        exact ⟨s', t1, fun r hr => g1 r (a1 r hr), fun r hr => g2 r (a2 r hr), f1.tr a3, f2, Or.inr a4⟩
    by_cases q0 : tkK B n i = 0
    · refine ⟨s, t, fun r hr => le_X6_readProgram_21 en _ _ _ _ ?_, fun r hr => le_X12_program_71 en _ _ _ ?_, tqX.rf, tqM.rf, Or.inl ⟨V, U, cl, nc, nl, nt, i, m, N, th, K, bl, h1, h2⟩⟩
      · rw [if_neg v40, if_pos (by rw [c1, q0]; rfl)]
        exact hr
      · rw [m_goodL m7, bI_some, if_neg (by decide), if_pos (by rw [m3, q0]; rfl)]
        exact hr
    · have s90 : ¬ s.1 1 9 = (0 : Int32) := by rw [c1, n_eq (by decide) (by omega)]; exact q0
      have m30 : ¬ t.1 151 3 = (0 : Int32) := by
        rw [m3, n_eq (by decide) (by omega)]
        intro zz
        have : kdM (tkK B n i) = 0 := zz
        unfold kdM at this
        split at this
        · omega
        · split at this <;> omega
      have w17 := m_isKeyW (en := en) (d := d' + 16) (j := 17) (C := 1667591276) hB hm (by decide) (by decide +kernel)
      have w2 := m_isKeyW (en := en) (d := d' + 16) (j := 2) (C := 1819239275) hB hm (by decide) (by decide +kernel)
      have w19 := m_isKeyW (en := en) (d := d' + 16) (j := 19) (C := 127991944667492) hB hm (by decide) (by decide +kernel)
      obtain ⟨ck0, ck1⟩ := x_116 (en := en) (k := 317) hc ⟨by decide, by decide⟩
      obtain ⟨lk0, lk1⟩ := x_116 (en := en) (k := 302) hc ⟨by decide, by decide⟩
      obtain ⟨hk0, hk1⟩ := x_116 (en := en) (k := 319) hc ⟨by decide, by decide⟩
      have preM : ∀ r, bI (qev en (d' + 17) 255 [.ref 151, .long (1667591276 : Int64)] t) (fun w6 s7 => if w6 = (0 : Int32) then bI (qev en (d' + 17) 255 [.ref 151, .long (1819239275 : Int64)] s7) (fun w10 s11 => if w10 = (0 : Int32) then bI (qev en (d' + 17) 255 [.ref 151, .long (127991944667492 : Int64)] s11) (fun w14 s15 => bV (qev en (d' + 17) 245 [.ref 151, .int w14, .int (2 : Int32)] s15) (fun s18 => bV (qev en (d' + 17) 249 [.ref 151] s18) (fun s21 => bV (qev en (d' + 17) 288 [.ref 151] s21) (fun s24 => L_X12_program_71 en (d' + 17) s24)))) else bV (qev en (d' + 17) 249 [.ref 151] s11) (fun s27 => if (4 : Int32) ≤ (s27.1 151 16) then L_X12_program_134 en (d' + 17) (0 : Int32) s27 else L_X12_program_134 en (d' + 17) (1 : Int32) s27)) else bV (qev en (d' + 17) 249 [.ref 151] s7) (fun s31 => bV (qev en (d' + 17) 287 [.ref 151] s31) (fun s34 => L_X12_program_71 en (d' + 17) s34))) = some r → L_X12_program_71 en (d' + 17) t = some r := fun r hr => by
        refine le_X12_program_71 en _ _ _ ?_
        rw [m_goodL m7, bI_some, if_neg (by decide), if_neg m30]
        exact hr
      obtain ⟨s1, t1, e1, e2, e3, e4, e5⟩ := adv_al (en := en) (d := d + 162) (d' := d' + 14) h1 q0
      have f1 : tqX s s1 := tqX.tk (tnF.ad e3)
      have f2 : tqM t t1 := tqM.mv e4
      have t16 : t1.1 151 16 = nI nl := by rw [e4.2.1 16 (by decide) (by decide) (by decide) (by decide) (by decide) (by decide)]; exact h16
      by_cases q17 : tkK B n i = 317
      · have gX : ∀ s2, qev en (d + 164) 119 [.ref 65] s1 = some (none, s2) → ∀ r, L_X6_readProgram_21 en (d + 164) (nI (v + 1)) s2 = some r → L_X6_readProgram_21 en (d + 164) (nI v) s = some r := fun s2 g r hr => by
          refine le_X6_readProgram_21 en _ _ _ _ ?_
          rw [if_neg v40, if_neg s90, show qev en (d + 164) 116 [.ref 65, .int (317 : Int32)] s = _ from ck1 q17 (d + 163) s1 e1, bI_some, if_neg (by decide), g, bV_some, ev]
          exact hr
        have gM : ∀ t2, qev en (d' + 17) 287 [.ref 151] t1 = some (none, t2) → ∀ r, L_X12_program_71 en (d' + 17) t2 = some r → L_X12_program_71 en (d' + 17) t = some r := fun t2 g r hr => preM r (by
          rw [w17, bI_some, if_neg (by rw [decide_eq_true q17]; decide), show qev en (d' + 17) 249 [.ref 151] t = _ from e2, bV_some, g, bV_some]
          exact hr)
        rcases e5 with e5 | e5
        · obtain ⟨s2, t2, V2, a1, a2, a3, a4, a5⟩ := readCell_al (en := en) (d := d + 159) (d' := d' + 12) hB e5 (tpS_tk h2 (tnF.ad e3) e4)
          exact goOn s2 t2 V2 U cl (nc + 1) nl nt m N th K bl (by omega) a5 (f1.tr a3) (f2.tr a4) (gX s2 a1) (gM t2 a2)
        · obtain ⟨F, p, z1, z2⟩ := id e5
          exact goOn (bmS s1 2) t1 V U cl (nc + 1) nl nt m N th K bl (by omega) (Or.inr (rdD_bm e5)) (f1.tr (tqX.bm bmS_F)) f2 (gX _ (xD_119 (d := d + 161) z1)) (gM _ (mD_287 (d := d' + 14) z2))
      by_cases q2 : tkK B n i = 302
      · have gX : ∀ s2, qev en (d + 164) 120 [.ref 65] s1 = some (none, s2) → ∀ r, L_X6_readProgram_21 en (d + 164) (nI (v + 1)) s2 = some r → L_X6_readProgram_21 en (d + 164) (nI v) s = some r := fun s2 g r hr => by
          refine le_X6_readProgram_21 en _ _ _ _ ?_
          rw [if_neg v40, if_neg s90, show qev en (d + 164) 116 [.ref 65, .int (317 : Int32)] s = _ from ck0 q17 (d + 163), bI_some, if_pos rfl, show qev en (d + 164) 116 [.ref 65, .int (302 : Int32)] s = _ from lk1 q2 (d + 163) s1 e1, bI_some, if_neg (by decide), g, bV_some, ev]
          exact hr
        have gM : ∀ r, L_X12_program_134 en (d' + 17) (bt (decide (nl < 4))) t1 = some r → L_X12_program_71 en (d' + 17) t = some r := fun r hr => preM r (by
          rw [w17, bI_some, if_pos (by rw [decide_eq_false q17]; rfl), w2, bI_some, if_neg (by rw [decide_eq_true q2]; decide), show qev en (d' + 17) 249 [.ref 151] t = _ from e2, bV_some, t16]
          by_cases q : nl < 4
          · rw [if_neg (by rw [n_le (by decide) (by omega)]; omega)]
            rw [decide_eq_true q] at hr; exact hr
          · rw [if_pos (by rw [n_le (by decide) (by omega)]; omega)]
            rw [decide_eq_false q] at hr; exact hr)
        rcases e5 with e5 | e5
        · obtain ⟨s2, t2, V2, a1, a2, a3, a4, a5⟩ := readLock_al (en := en) (d := d + 159) (d' := d' + 13) hB e5 (tpS_tk h2 (tnF.ad e3) e4)
          exact goOn s2 t2 V2 U cl nc (nl + 1) nt m N th K bl (by omega) a5 (f1.tr a3) (f2.tr a4) (gX s2 a1) (fun r hr => gM r (a2 r hr))
        · obtain ⟨F, p, z1, z2⟩ := id e5
          exact goOn (bmS s1 2) t1 V U cl nc (nl + 1) nt m N th K bl (by omega) (Or.inr (rdD_bm e5)) (f1.tr (tqX.bm bmS_F)) f2 (gX _ (xD_120 (d := d + 161) z1)) (fun r hr => gM r (mD_134 (d := d' + 13) z2 r hr))
      by_cases q19 : tkK B n i = 319
      · have gX : ∀ s2, qev en (d + 164) 121 [.ref 65] s1 = some (none, s2) → ∀ r, L_X6_readProgram_21 en (d + 164) (nI (v + 1)) s2 = some r → L_X6_readProgram_21 en (d + 164) (nI v) s = some r := fun s2 g r hr => by
          refine le_X6_readProgram_21 en _ _ _ _ ?_
          rw [if_neg v40, if_neg s90, show qev en (d + 164) 116 [.ref 65, .int (317 : Int32)] s = _ from ck0 q17 (d + 163), bI_some, if_pos rfl, show qev en (d + 164) 116 [.ref 65, .int (302 : Int32)] s = _ from lk0 q2 (d + 163), bI_some, if_pos rfl, show qev en (d + 164) 116 [.ref 65, .int (319 : Int32)] s = _ from hk1 q19 (d + 163) s1 e1, bI_some, if_neg (by decide), g, bV_some, ev]
          exact hr
        have gM : ∀ t2, qev en (d' + 17) 288 [.ref 151] t1 = some (none, t2) → ∀ r, L_X12_program_71 en (d' + 17) t2 = some r → L_X12_program_71 en (d' + 17) t = some r := fun t2 g r hr => preM r (by
          rw [w17, bI_some, if_pos (by rw [decide_eq_false q17]; rfl), w2, bI_some, if_pos (by rw [decide_eq_false q2]; rfl), w19, bI_some, decide_eq_true q19, show qev en (d' + 17) 245 [.ref 151, .int (bt true), .int (2 : Int32)] t = some (none, t) from m_needT, bV_some, show qev en (d' + 17) 249 [.ref 151] t = _ from e2, bV_some, g, bV_some]
          exact hr)
        rcases e5 with e5 | e5
        · obtain ⟨s2, t2, V2, U2, cl2, m2, N2, th2, K2, bl2, a1, a2, a3, a4, a5⟩ := readThread_al (en := en) (d := d) (d' := d') hB e5 (tpS_tk h2 (tnF.ad e3) e4)
          exact goOn s2 t2 V2 U2 cl2 nc nl (nt + 1) m2 N2 th2 K2 bl2 (by omega) a5 (f1.tr a3) (f2.tr a4) (gX s2 a1) (gM t2 a2)
        · obtain ⟨F, p, z1, z2⟩ := id e5
          exact goOn (bmS s1 2) t1 V U cl nc nl (nt + 1) m N th K bl (by omega) (Or.inr (rdD_bm e5)) (f1.tr (tqX.bm bmS_F)) f2 (gX _ (xD_121 (d := d + 161) z1)) (gM _ (mD_288 (d := d' + 15) z2))
      · obtain ⟨t2, y1, y2, y3⟩ := fault_al (en := en) (d' := d' + 15) (k := 2) h1 ⟨by decide, by decide⟩
        refine goOn (bmS s 2) t2 V U cl nc nl (nt + 1) m N th K bl (by omega) (Or.inr ⟨_, _, y3.1, y3.2⟩) (tqX.bm bmS_F) (tqM.mv y2) (fun r hr => le_X6_readProgram_21 en _ _ _ _ ?_) (fun r hr => preM r ?_)
        · rw [if_neg v40, if_neg s90, show qev en (d + 164) 116 [.ref 65, .int (317 : Int32)] s = _ from ck0 q17 (d + 163), bI_some, if_pos rfl, show qev en (d + 164) 116 [.ref 65, .int (302 : Int32)] s = _ from lk0 q2 (d + 163), bI_some, if_pos rfl, show qev en (d + 164) 116 [.ref 65, .int (319 : Int32)] s = _ from hk0 q19 (d + 163), bI_some, if_pos rfl, x_blame, bV_some, ev]
          exact hr
        · rw [w17, bI_some, if_pos (by rw [decide_eq_false q17]; rfl), w2, bI_some, if_pos (by rw [decide_eq_false q2]; rfl), w19, bI_some, decide_eq_false q19, show qev en (d' + 17) 245 [.ref 151, .int (bt false), .int (2 : Int32)] t = _ from y1, bV_some, show d' + 17 = d' + 15 + 2 from rfl, m_nextD y3.2, bV_some, mD_288 y3.2, bV_some]
          exact hr
end RDP
