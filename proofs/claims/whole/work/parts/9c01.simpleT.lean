/-! THE READER: simple statements on both sides, all kinds. -/
section SIT
variable {en : pN} {d d' k b i i' n N j x y r m m' u F p nc nl nt D m0 key un : Nat} {V cl cl' th th' K : Nat → Nat} {U U' : Nat → Nat → Nat} {s s' s'' s0 t t' t'' t0 t1 : qS} {B : Nat → Nat} {v w dp pa pt lv ow kk kk' la laM : Int32} {lo : Option Nat} {bl : Nat → List Nat}
/-- the rest of a statement behind a fault -/
theorem m_279D (h : mtD t F p) (hN : N < 100) (hk : 3 ≤ k ∧ k ≤ 16) : ∃ t', qev en (d + 13) 279 [.ref 151, .int (nI N), .int (nI k)] t = some (none, t') ∧ mtD t' F p ∧ wkM t t' := by
  have h249 : qev en (d + 12) 249 [.ref 151] t = some (none, t) := m_nextD (d := d + 10) h
  by_cases k34 : k ≤ 4
  · have h281 : qev en (d + 12) 281 [.ref 151, .int (nI N)] t = some (none, t) := by
      refine le_X12_takeCell en _ _ _ _ ?_
      rw [m_goodD h, bI_some, if_pos rfl]
      refine le_X12_takeCell_16 en _ _ _ _ ?_
      rw [m_goodD h, bI_some, if_pos rfl]
      refine le_X12_takeCell_57 en _ _ _ ?_
      rw [show d + 11 = d + 9 + 2 from rfl, m_nextD h, bV_some]
    have h252 : qev en (d + 12) 252 [.ref 151, .int (44 : Int32)] t = some (none, t) := endD_m (d' := d + 9) h
    have h280 : qev en (d + 12) 280 [.ref 151, .int (nI N)] t = some (none, t) := m_280D (d := d + 10) h
    have pre : ∀ r, (if ¬ nI k = (3 : Int32) then L_X12_readRest_71 en (d + 12) (nI N) t else mC3 en (d + 12) N t) = some r → qev en (d + 13) 279 [.ref 151, .int (nI N), .int (nI k)] t = some r := fun r hr => by
      have g10 : L_X12_readRest_10 en (d + 12) (nI N) (nI k) t = some r := by
        refine le_X12_readRest_10 en _ _ _ _ _ ?_
        rw [h281, bV_some, h252, bV_some, h280, bV_some]
        by_cases z : nI k = (3 : Int32)
        · rw [if_neg (not_not_intro z), h252, bV_some]
          rw [if_neg (not_not_intro z)] at hr
          exact hr
        · rw [if_pos z]
          rw [if_pos z] at hr
          exact hr
      refine le_X12_readRest en _ _ _ _ _ ?_
      by_cases z : k = 3
      · rw [if_pos (by rw [z]; rfl)]; exact g10
      · rw [if_neg (by rw [n_eq (by decide) (by omega)]; exact z), if_neg (by rw [n_eq (by decide) (by omega)]; omega)]; exact g10
    by_cases z : k = 3
    · obtain ⟨t', e1, e2, e3⟩ := mC3_D (en := en) (d := d + 11) hN h
      exact ⟨t', pre _ (by rw [if_neg (by rw [z]; exact not_not_intro rfl)]; exact e1), e2, e3⟩
    · exact ⟨t, pre _ (by rw [if_pos (by rw [n_eq (by decide) (by omega)]; exact z), show d + 12 = d + 11 + 1 from rfl, m_71D h]), h, wkM.rf⟩
  by_cases k59 : k ≤ 9
  · refine ⟨t, le_X12_readRest en _ _ _ _ _ ?_, h, wkM.rf⟩
    rw [if_neg (by rw [n_eq (by decide) (by omega)]; omega), if_pos (by rw [n_eq (by decide) (by omega)]; omega), if_neg (by rw [n_gt (by decide) (by omega)]; omega), if_neg (by rw [n_lt (by decide) (by omega)]; omega), m_goodD h, bI_some, if_pos rfl]
    refine le_X12_readRest_127 en _ _ _ _ ?_
    rw [m_goodD h, bI_some, if_pos rfl]
    refine le_X12_readRest_168 en _ _ _ ?_
    rw [h249, bV_some]
  have p175 := m_175 (en := en) (D := d + 12) (v := nI N) (t := t) (k := k) ⟨by omega, by omega⟩
  by_cases k10 : k ≤ 11
  · have hD : mtD (uI (uJ t 182 N (t.2.1 151 5)) 183 N (t.1 151 4)) F p := mtD_fr h (by rw [uI_ne (by decide)]; rfl) (by rw [uI_ne (by decide)]; rfl)
    refine ⟨_, p175 _ ?_, hD, (wkM.uj (by decide)).tr (wkM.ui (by decide))⟩
    have g187 : L_X12_readRest_187 en (d + 12) (nI N) t = some (none, uI (uJ t 182 N (t.2.1 151 5)) 183 N (t.1 151 4)) := by
      refine le_X12_readRest_187 en _ _ _ _ ?_
      rw [m_goodD h, bI_some, if_pos rfl]
      refine le_X12_readRest_203 en _ _ _ _ ?_
      rw [gd_in (by omega) (by decide), n_cl (by omega), nm_eq, nm_eq]
      show bV (qev en (d + 12) 249 [.ref 151] (uI (uJ t 182 N (t.2.1 151 5)) 183 N (t.1 151 4))) _ = _
      rw [show d + 12 = d + 10 + 2 from rfl, m_nextD hD, bV_some]
    refine le_X12_readRest_175 en _ _ _ _ _ ?_
    by_cases z : k = 10
    · rw [if_pos (by rw [z]; rfl)]; exact g187
    · rw [if_neg (by rw [n_eq (by decide) (by omega)]; exact z), if_neg (by rw [n_eq (by decide) (by omega)]; omega)]; exact g187
  by_cases k15 : k = 15
  · have hD : mtD (uJ t 180 N (t.2.1 151 5)) F p := mtD_fr h rfl rfl
    refine ⟨_, p175 _ ?_, hD, wkM.uj (by decide)⟩
    subst k15
    refine le_X12_readRest_175 en _ _ _ _ _ ?_
    rw [if_neg (by decide), if_pos (by decide), if_neg (by decide), m_goodD h, bI_some, if_pos rfl]
    refine le_X12_readRest_252 en _ _ _ _ ?_
    rw [gd_in (by omega) (by decide), n_cl (by omega), nm_eq, show d + 12 = d + 10 + 2 from rfl, m_nextD hD, bV_some, m_goodD hD, bI_some, if_pos rfl]
  · refine ⟨t, p175 _ ?_, h, wkM.rf⟩
    by_cases k16 : k = 16
    · subst k16
      refine le_X12_readRest_175 en _ _ _ _ _ ?_
      rw [if_neg (by decide), if_pos (by decide), if_pos (by decide), if_neg (by decide), m_goodD h, bI_some, if_pos rfl]
      refine le_X12_readRest_312 en _ _ _ _ _ ?_
      rw [if_pos (by decide)]
    · refine m_312 (by omega) _ ?_
      refine le_X12_readRest_312 en _ _ _ _ _ ?_
      by_cases k14 : k = 14
      · rw [if_neg (by rw [k14]; exact not_not_intro rfl)]
        refine le_X12_readRest_318 en _ _ _ _ ?_
        rw [show d + 12 = d + 10 + 2 from rfl, m_280D h, bV_some]
      · rw [if_pos (by rw [n_eq (by decide) (by omega)]; exact k14)]
theorem nwL_tk (h : nwL s t N u k m0) (f : tnF s s') (g : mvF t t') : nwL s' t' N u k m0 := by
  have x : ∀ a, 18 ≤ a → a ≤ 35 → s'.1 a = s.1 a := fun a h1 h2 => f.1 a (by omega) (by omega)
  have y : ∀ a, 164 ≤ a → a ≤ 179 → t'.1 a = t.1 a := fun a h1 h2 => g.1 a (by omega)
  unfold nwL
  rw [x 19 (by decide) (by decide), x 20 (by decide) (by decide), x 21 (by decide) (by decide), x 22 (by decide) (by decide), x 35 (by decide) (by decide), x 25 (by decide) (by decide), x 26 (by decide) (by decide), y 164 (by decide) (by decide), y 165 (by decide) (by decide), y 166 (by decide) (by decide), y 167 (by decide) (by decide), y 168 (by decide) (by decide), y 175 (by decide) (by decide), y 176 (by decide) (by decide), y 177 (by decide) (by decide), y 178 (by decide) (by decide), y 179 (by decide) (by decide)]
  exact h
/-- what a statement leaves of the open blocks -/
abbrev stkI (t t' : qS) (b N : Nat) : Prop := (∀ j, j ≠ b → t'.1 186 j = t.1 186 j) ∧ t'.1 184 = t.1 184 ∧ t'.1 185 = t.1 185 ∧ t'.1 186 b = nI N
theorem stkI_of (f1 : rmF false m t t1) (g : smF N m (mnT t1 N u (b + 1) m key kk ow pt lo) t') : stkI t t' b N := by
  have e : ∀ a, a = 184 ∨ a = 185 ∨ a = 186 → t'.1 a = (mnT t1 N u (b + 1) m key kk ow pt lo).1 a := fun a ha => g.1 a (by omega) (by omega) (by omega) (by omega) (by omega) (by rcases ha with rfl | rfl | rfl <;> rfl)
  have f : ∀ a, a = 184 ∨ a = 185 ∨ a = 186 → t1.1 a = t.1 a := fun a ha => f1.1 a (by omega) (Or.inl (by omega)) (by omega) (by omega) (by omega)
  refine ⟨fun j hj => ?_, ?_, ?_, ?_⟩
  · rw [e 186 (by decide), mnT_186, Nat.add_sub_cancel, if_neg hj, f 186 (by decide)]
  · rw [e 184 (by decide), mnT_o (by decide) (by decide), f 184 (by decide)]
  · rw [e 185 (by decide), mnT_o (by decide) (by decide), f 185 (by decide)]
  · rw [e 186 (by decide), mnT_186, Nat.add_sub_cancel, if_pos rfl]
/-- a statement with its line: what comes of it -/
abbrev simR (R X : Option qR) (u : Nat) (B : Nat → Nat) (n : Nat) (s t : qS) (V cl : Nat → Nat) (nc nl nt m N : Nat) (th K : Nat → Nat) (bl : Nat → List Nat) (b key : Nat) : Prop := ∃ s' t' : qS, R = some (none, s') ∧ X = some (none, t') ∧ wkX s s' ∧ wkM t t' ∧ ((∃ (U' : Nat → Nat → Nat) (cl' : Nat → Nat) (i' m' : Nat), prR u B n s' t' V U' cl' nc nl nt i' m' (N + 1) (at1 th N u) (at1 K N key) (at1 bl key (bl key ++ [N])) (b + 1) ∧ m ≤ m' ∧ (∀ w, cl w ≤ cl' w) ∧ stkI t t' b N ∧ ∀ j, j < N → t'.1 164 j = t.1 164 j) ∨ rdD s' t')
theorem k164 (f1 : rmF false m t t1) (g : smF N m (mnT t1 N u (b + 1) m key kk ow pt lo) t') : ∀ j, j < N → t'.1 164 j = t.1 164 j := fun j hj => by
  rw [g.2.1 164 rfl j (by omega), mnT_r (by decide) (by decide), if_neg (by omega), f1.1 164 (by decide) (Or.inl (by decide)) (by decide) (by decide) (by decide)]
/-- a statement with a key word, and no block -/
theorem simK_al (hP : prR u B n s t V U cl nc nl nt i m N th K bl (b + 1)) (hB : ∀ j, j < n → B j < 256) (hN : N < 100) (hb : b + 1 ≤ 12) (hkI : keyI u N key th pa ow pt) (hkV : kyV nt N key) (hlo : lo = (bl key).getLast?) (hla : lastI lo la laM) (hT : topI t b ow pt laM) (hy : 300 ≤ tkK B n i ∧ tkK B n i ≤ 313) : simR (qev en (d + 141) 124 [.ref 65, .int (nI N), .int dp] (naT s N key (nI u) pa pt (nI b) lo)) (L_X12_readStatement_99 en (d' + 14) (nI (tkK B n i - 297)) t) u B n s t V cl nc nl nt m N th K bl b key := by
  obtain ⟨hE, ⟨h12, h32, -⟩, hln, hG, h56, hW⟩ := id hP
  have hb3 := hE.2.1.1
  have hnt := (hE.2.2.2.1.2 rfl).2
  have hm4 := hE.2.2.2.2.1.2.2
  have hm25 : t.1 151 25 = nI m := by rw [hE.2.2.2.2.2.2, Nat.zero_add]
  have h275 := m_new (en := en) (d := d' + 13) (kk := nI (tkK B n i - 297)) hP hN hb hkI hlo hla hT (rmF.rf (lw := false) (c := m)) hm25
  have m7 := hE.1.2.2.1
  have hE1 := exS_mnT (N := N) (un := u) (b := b + 1) (m0 := m) (key := key) (kk := nI (tkK B n i - 297)) (ow := ow) (pt := pt) (lo := lo) (exS_naT (N := N) (key := key) (un := u) (pa := pa) (pt := pt) (lv := nI b) (lo := lo) hE)
  obtain ⟨hi, c1, -, -⟩ := cL_at hE1.1.1
  have hx := tkK_lt hi
  have nw : nwL (naT s N key (nI u) pa pt (nI b) lo) (mnT t N u (b + 1) m key (nI (tkK B n i - 297)) ow pt lo) N u (tkK B n i - 297) m := nwL_new hm4 (by rw [Nat.add_sub_cancel])
  have hWS : ∀ j, j < 7 → (naT s N key (nI u) pa pt (nI b) lo).2.1 66 j = Int64.ofNat (CWN.getD j 0) := hW
  have wS : wkX s (naT s N key (nI u) pa pt (nI b) lo) := wkX_naT
  have wM : wkM t (mnT t N u (b + 1) m key (nI (tkK B n i - 297)) ow pt lo) := wkM_mnT
  obtain ⟨s1, t1, e1, e2, e3, e4, e5⟩ := adv_al (en := en) (d := d + 139) (d' := d' + 11) hE1.1 (by omega)
  have e2' : qev en (d' + 14) 249 [.ref 151] (mnT t N u (b + 1) m key (nI (tkK B n i - 297)) ow pt lo) = some (none, t1) := e2
  have hk19 : tkK B n i - 297 < 19 := by omega
  have eK : (nI (tkK B n i) - (300 : Int32)) + (3 : Int32) = nI (tkK B n i - 297) := by
    rw [show nI (tkK B n i) - (300 : Int32) = nI (tkK B n i - 300) from n_sr (by omega), show nI (tkK B n i - 300) + (3 : Int32) = nI (tkK B n i - 300 + 3) from n_ar, show tkK B n i - 300 + 3 = tkK B n i - 297 by omega]
  have preX : ∀ s', kwX en (d + 140) N (tkK B n i - 297) dp s1 = some (none, s') → qev en (d + 141) 124 [.ref 65, .int (nI N), .int dp] (naT s N key (nI u) pa pt (nI b) lo) = some (none, s') := fun s' h => by
    refine le_X6_readStatement en _ _ _ _ _ ?_
    rw [if_pos (by rw [c1, n_eq (by decide) (by omega)]; omega), c1, eK, nm_eq, e1, bV_some]
    exact h
  have preM : ∀ t', kwM en (d' + 14) N (tkK B n i - 297) t1 = some (none, t') → L_X12_readStatement_99 en (d' + 14) (nI (tkK B n i - 297)) t = some (none, t') := fun t' h => by
    refine le_X12_readStatement_99 en _ _ _ _ ?_
    rw [m_goodL m7, bI_some, if_pos (by decide), if_pos (fun z => (n_m1 (by omega)).mp z), h275, bI_some, e2', bV_some, if_neg (by rw [n_eq (by decide) (by omega)]; omega), if_pos (by rw [n_eq (by decide) (by omega)]; omega)]
    exact h
  generalize hS : naT s N key (nI u) pa pt (nI b) lo = S at *
  generalize hk : tkK B n i - 297 = k at *
  rcases e5 with e5 | e5
  · have hE2 := exS_tk hE1 (tnF.ad e3) e4 e5
    have nw2 := nwL_tk nw (tnF.ad e3) e4
    have hW2 : ∀ j, j < 7 → s1.2.1 66 j = Int64.ofNat (CWN.getD j 0) := fun j hj => by rw [e3.2.2.1 66 (by decide)]; exact hWS j hj
    have res : stmR (kwX en (d + 140) N k dp s1) (kwM en (d' + 14) N k t1) u B n s1 t1 V cl (at1 th N u) nc nl nt m N := by
      by_cases z3 : k = 3
      · rw [z3] at nw2 ⊢
        exact cas_al (d' := d' + 1) hE2 nw2 at1_s (by omega) hB hN
      · by_cases z4 : k = 4
        · rw [z4] at nw2 ⊢
          exact add_al (d' := d' + 1) hE2 nw2 at1_s (by omega) hB hN
        · exact key_al (d' := d' + 1) hE2 nw2 at1_s (by omega) hB hN hW2 ⟨by omega, by omega⟩
    obtain ⟨s', t', q1, q2, q3, q4, q5⟩ := res
    refine ⟨s', t', preX _ q1, preM _ q2, (wS.tr (wkX.st (N := N) (m := m) (stF.tk (tnF.ad e3)))).tr q3, (wM.tr (wkM.mv e4)).tr q4, ?_⟩
    rcases q5 with ⟨U', cl', i', m', g1, g2, g3, g4, g5, g6⟩ | q5
    · have fX : stF N m S s' := (stF.tk (tnF.ad e3)).tr g5 (Nat.le_refl m)
      have fM : smF N m (mnT t N u (b + 1) m key (nI k) ow pt lo) t' := (smF.mv e4).tr g6 (Nat.le_refl m)
      rw [← hS] at fX
      exact Or.inl ⟨U', cl', i', m', prR_new hP hN hkI hlo hkV rmF.rf g1 g2 g3 g4 fX fM, g2, g3, stkI_of rmF.rf fM, k164 rmF.rf fM⟩
    · exact Or.inr q5
  · obtain ⟨F', p', z1, z2⟩ := id e5
    have h7 : S.2.2 65 7 = 8 := hE1.2.2.2.1.1
    obtain ⟨s2, y1, y2, y3⟩ := xD_129 (en := en) (d := d + 136) z1 hN hk19
    have y1' : qev en (d + 140) 129 [.ref 65, .int (nI N), .int (nI k)] s1 = some (none, s2) := y1
    obtain ⟨s3, o1, o2, o3⟩ := xD_47 (en := en) (d := d + 128) (dp := dp) (c := nI k) y2 (by rw [y3.2.2.2.2.2, e3.2.2.2]; exact h7) hN
    obtain ⟨t2, l1, l2, l3⟩ := m_279D (en := en) (d := d' + 1) (k := k) z2 hN ⟨by omega, by omega⟩
    have l1' : qev en (d' + 14) 279 [.ref 151, .int (nI N), .int (nI k)] t1 = some (none, t2) := l1
    refine ⟨s3, t2, preX _ ?_, preM _ ?_, ((wS.tr (wkX.st (N := N) (m := m) (stF.tk (tnF.ad e3)))).tr y3).tr o3, (wM.tr (wkM.mv e4)).tr l3, Or.inr ⟨F', p', o2, l2⟩⟩
    · show bV _ _ = _
      rw [y1', bV_some]
      exact o1
    · show bV _ _ = _
      rw [l1', bV_some, show d' + 14 = d' + 11 + 3 from rfl, endD_m l2, bV_some]
/-- a statement that begins with a name -/
theorem simW_al (hP : prR u B n s t V U cl nc nl nt i m N th K bl (b + 1)) (hB : ∀ j, j < n → B j < 256) (hN : N < 100) (hb : b + 1 ≤ 12) (hkI : keyI u N key th pa ow pt) (hkV : kyV nt N key) (hlo : lo = (bl key).getLast?) (hla : lastI lo la laM) (hT : topI t b ow pt laM) (hy : tkK B n i = 2) {wx wy : Int32} (e84 : ∀ d, qev en (d + 1) 84 [.ref 11, .long (s.2.1 1 11)] s = some (some (.int wx), s)) (e256 : ∀ d, qev en (d + 1) 256 [.ref 151, .long (t.2.1 151 5)] t = some (some (.int wy), t)) (hw : (wx = -1 ∧ wy = -1) ∨ ∃ c, c < nc ∧ wx = nI c ∧ wy = nI c) : simR (qev en (d + 141) 124 [.ref 65, .int (nI N), .int dp] (naT s N key (nI u) pa pt (nI b) lo)) (L_X12_readStatement_99 en (d' + 14) (-1) t) u B n s t V cl nc nl nt m N th K bl b key := by
  obtain ⟨hE, ⟨h12, h32, -⟩, hln, hG, h56, hW⟩ := id hP
  have hb3 := hE.2.1.1
  have hnt := (hE.2.2.2.1.2 rfl).2
  have m7 := hE.1.2.2.1
  have hES := exS_naT (N := N) (key := key) (un := u) (pa := pa) (pt := pt) (lv := nI b) (lo := lo) hE
  obtain ⟨hi, c1, -, -⟩ := cL_at hES.1.1
  obtain ⟨s', t', q1, q2, q3, q4, q5⟩ := asg_al (en := en) (d := d) (d' := d') (dp := dp) (b := b + 1) (key := key) (pa := pa) (pt := pt) (lv := nI b) (ow := ow) (lo := lo) (th := at1 th N u) hE hB hN at1_s (by omega) hy (by rw [Nat.add_sub_cancel]) e84 e256 hw (fun d t1 kk f h25 => m_new hP hN hb hkI hlo hla hT f h25)
  refine ⟨s', t', ?_, ?_, q3, q4, ?_⟩
  · refine le_X6_readStatement en _ _ _ _ _ ?_
    rw [if_neg (by rw [c1, hy]; exact not_not_intro rfl)]
    exact q1
  · refine le_X12_readStatement_99 en _ _ _ _ ?_
    rw [m_goodL m7, bI_some, if_pos (by decide), if_neg (not_not_intro rfl), q2, bV_some]
  · rcases q5 with ⟨t1, kk, U', cl', i', m', g1, g2, g3, g4, g5, g6, g7⟩ | q5
    · exact Or.inl ⟨U', cl', i', m', prR_new hP hN hkI hlo hkV g6 g1 g2 g3 g4 g5 g7, g2, g3, stkI_of g6 g7, k164 g6 g7⟩
    · exact Or.inr q5
end SIT
