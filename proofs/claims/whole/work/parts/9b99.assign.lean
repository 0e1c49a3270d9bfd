/-! THE READER: assignments on both sides. -/
/-- behind an assignment -/
abbrev asgR (R X : Option qR) (u b key : Nat) (ow pt : Int32) (lo : Option Nat) (B : Nat → Nat) (n : Nat) (s0 s t : qS) (V cl th : Nat → Nat) (nc nl nt m N : Nat) : Prop := ∃ s' t' : qS, R = some (none, s') ∧ X = some (none, t') ∧ wkX s0 s' ∧ wkM t t' ∧ ((∃ (t1 : qS) (kk : Nat) (U' : Nat → Nat → Nat) (cl' : Nat → Nat) (i' m' : Nat), exS false 7 0 u B n s' t' V U' cl' nc nl nt i' m' ∧ m ≤ m' ∧ (∀ w, cl w ≤ cl' w) ∧ lnB s' t' nc nl nt m' cl' th N ∧ stF N m s s' ∧ rmF false m t t1 ∧ smF N m (mnT t1 N u b m key (nI kk) ow pt lo) t') ∨ rdD s' t')
theorem uI_cg {σ τ : qS} {a b k : Nat} {v : Int32} (h : σ.1 a = τ.1 a) : (uI σ b k v).1 a = (uI τ b k v).1 a := by
  funext j
  rw [rdU, rdU, h]
theorem smW_is {a : Nat} (h : smW a = true) : a = 164 ∨ a = 166 ∨ a = 167 ∨ a = 176 ∨ a = 177 ∨ a = 178 ∨ a = 179 ∨ a = 183 := by
  unfold smW at h
  have := List.contains_iff_mem.mp h
  simp at this
  omega
section ASG
variable {en : pN} {d d' k b i i' n N j x y r m m' u F p nc nl nt D m0 key un : Nat} {V cl cl' th : Nat → Nat} {U U' : Nat → Nat → Nat} {s s' s'' s0 t t' t'' t0 : qS} {B : Nat → Nat} {v w dp pa pt lv ow kk kk' : Int32} {lo : Option Nat}
theorem mnT_kk : smF N m (mnT t N un b m0 key kk ow pt lo) (mnT t N un b m0 key kk' ow pt lo) := by
  have e : ∀ a, a ≠ 164 → (mnT t N un b m0 key kk' ow pt lo).1 a = (mnT t N un b m0 key kk ow pt lo).1 a := fun a ha => by
    have hm : (mnS t N kk' (nI un) (nI (b - 1)) ow pt (nI m0)).1 a = (mnS t N kk (nI un) (nI (b - 1)) ow pt (nI m0)).1 a := by
      funext j
      show (if 164 ≤ a ∧ a < 180 ∧ a ≠ 174 ∧ j = N then mnV kk' (nI un) (nI (b - 1)) ow pt (nI m0) a else _) = if 164 ≤ a ∧ a < 180 ∧ a ≠ 174 ∧ j = N then mnV kk (nI un) (nI (b - 1)) ow pt (nI m0) a else _
      unfold mnV
      rw [if_neg ha, if_neg ha]
    unfold mnT
    exact uI_cg (uI_cg (uI_cg hm))
  refine ⟨fun a _ _ _ _ _ h => e a (fun z => by subst z; cases h), fun a _ j hj => ?_, fun j _ => by rw [e 151 (by decide)], fun j _ => ⟨by rw [e 161 (by decide)], by rw [e 162 (by decide)]⟩, fun _ _ _ _ _ => rfl, fun _ _ _ _ => rfl, fun _ _ => rfl, rfl⟩
  by_cases z : a = 164
  · subst z
    rw [mnT_r (by decide) (by decide), if_neg hj, mnT_r (by decide) (by decide), if_neg hj]
  · rw [e a z]
theorem m_140D (h : mtD t F p) : L_X12_readAssignment_140 en (d + 3) v t = some (none, t) := by
  refine le_X12_readAssignment_140 en _ _ _ _ ?_
  rw [show d + 3 = d + 1 + 2 from rfl, m_280D h, bV_some]
  refine le_X12_readAssignment_145 en _ _ _ ?_
  rw [show d + 1 + 2 = d + 3 from rfl, endD_m h, bV_some]
theorem m_140 (h7 : t.1 151 7 = 0) (h : qev en (d + 12) 276 [.ref 151, .int v] t = some (none, t')) (g : qev en (d + 13) 252 [.ref 151, .int (59 : Int32)] t' = some (none, t'')) : L_X12_readAssignment_140 en (d + 13) v t = some (none, t'') := by
  refine le_X12_readAssignment_140 en _ _ _ _ ?_
  rw [m_280 (d := d + 11) h7 h, bV_some]
  refine le_X12_readAssignment_145 en _ _ _ ?_
  rw [g, bV_some]
set_option maxHeartbeats 1000000 in
/-- an assignment -/
theorem asg_al (hE : exS false 7 0 u B n s t V U cl nc nl nt i m) (hB : ∀ j, j < n → B j < 256) (hN : N < 100) (hth : th N = u) (hu : u < nt) (h2 : tkK B n i = 2) (hlv : lv = nI (b - 1)) {wx wy : Int32} (e84 : ∀ d, qev en (d + 1) 84 [.ref 11, .long (s.2.1 1 11)] s = some (some (.int wx), s)) (e256 : ∀ d, qev en (d + 1) 256 [.ref 151, .long (t.2.1 151 5)] t = some (some (.int wy), t)) (hw : (wx = -1 ∧ wy = -1) ∨ ∃ c, c < nc ∧ wx = nI c ∧ wy = nI c)
    (hNL : ∀ (d : Nat) (t1 : qS) (kk : Int32), rmF false m t t1 → t1.1 151 25 = nI m → qev en (d + 1) 275 [.ref 151, .int kk] t1 = some (some (.int (nI N)), mnT t1 N u b m key kk ow pt lo)) :
    asgR (bI (qev en (d + 140) 126 [.ref 65, .int (nI N)] (naT s N key (nI u) pa pt lv lo)) (fun w9 s10 => L_X6_readStatement_47 en (d + 140) (nI N) dp w9 s10)) (qev en (d' + 14) 283 [.ref 151] t) u b key ow pt lo B n s (naT s N key (nI u) pa pt lv lo) t V cl th nc nl nt m N := by
  have hb3 := hE.2.1.1
  have hm25 : t.1 151 25 = nI m := by rw [hE.2.2.2.2.2.2, Nat.zero_add]
  have hm4 : m ≤ 400 := hE.2.2.2.2.1.2.2
  have hES := exS_naT (N := N) (key := key) (un := u) (pa := pa) (pt := pt) (lv := lv) (lo := lo) hE
  have h7S : (naT s N key (nI u) pa pt lv lo).2.2 65 7 = 8 := hES.2.2.2.1.1
  have e84S : ∀ d, qev en (d + 1) 84 [.ref 11, .long ((naT s N key (nI u) pa pt lv lo).2.1 1 11)] (naT s N key (nI u) pa pt lv lo) = some (some (.int wx), naT s N key (nI u) pa pt lv lo) := fun d => by
    have h := e84 0
    rw [show qev en (0 + 1) 84 [.ref 11, .long (s.2.1 1 11)] s = _ from c_named (r := 11) rfl] at h
    have h1 := (Prod.mk.inj (Option.some.inj h)).1
    injection h1 with h1
    injection h1 with h1
    rw [← h1]
    exact c_named (r := 11) rfl
  have m7 := hE.1.2.2.1
  generalize hS : naT s N key (nI u) pa pt lv lo = S at *
  have wS : wkX s S := by rw [← hS]; exact wkX_naT
  rcases hw with ⟨rfl, rfl⟩ | ⟨c, hc, rfl, rfl⟩
  · -- a local
    have e85 : qev en (d + 139) 85 [.int (-1)] S = some (some (.int 0), S) := by
      refine le_X5_isCell en _ _ _ _ ?_
      rw [if_pos (by decide)]
    have preX : ∀ s1 s2 r, qev en (d + 139) 127 [.ref 65, .int (nI N)] S = some (none, s1) → qev en (d + 139) 115 [.ref 65, .int (61 : Int32)] s1 = some (none, s2) → (if ¬ (s2.1 1 9) = (2 : Int32) then L_X6_readTarget_89 en (d + 139) (nI N) (-1 : Int32) s2 else bI (qev en (d + 139) 84 [.ref 11, .long (s2.2.1 1 11)] s2) (fun w15 s16 => L_X6_readTarget_89 en (d + 139) (nI N) w15 s16)) = some r → qev en (d + 140) 126 [.ref 65, .int (nI N)] S = some r := fun s1 s2 r h1 h2 hr => by
      refine le_X6_readTarget en _ _ _ _ ?_
      rw [e84S, bI_some, e85, bI_some, if_pos rfl, h1, bV_some, h2, bV_some]
      exact hr
    have l89 : ∀ s2, L_X6_readTarget_89 en (d + 139) (nI N) (-1 : Int32) s2 = some (some (.int 0), s2) := fun s2 => by
      refine le_X6_readTarget_89 en _ _ _ _ _ ?_
      have e85' : qev en (d + 139) 85 [.int (-1)] s2 = some (some (.int 0), s2) := by
        refine le_X5_isCell en _ _ _ _ ?_
        rw [if_pos (by decide)]
      rw [e85', bI_some, if_neg (not_not_intro rfl)]
    rcases local_st (en := en) (d := d + 136) (d' := d' + 10) hES h2 with ⟨j, s1, t1, U1, cl1, a1, a2, a3, a4, a5, a6, a7, a8, a9, a10⟩ | ⟨t1, a1, a2, ⟨F', p', a3, a4⟩, a5⟩
    · -- it is there
      have hi1 : tkK B n i ≠ 0 := by omega
      have h25 : t1.1 151 25 = nI m := by rw [a4.2.2.2.2.2.2, Nat.zero_add]
      have m71 := a4.1.2.2.1
      have pre23 : ∀ r, L_X12_readAssignment_63 en (d' + 13) (-1) (nI j) (nI N) (nI N) (-2) (mnT t1 N u b m key (nI 0) ow pt lo) = some r → qev en (d' + 14) 283 [.ref 151] t = some r := fun r hr => by
        refine le_X12_readAssignment en _ _ _ ?_
        have a2' : qev en (d' + 13) 261 [.ref 151] t = some (some (.int (nI j)), t1) := a2
        rw [e256, bI_some, if_neg (not_not_intro rfl), a2', bI_some]
        refine le_X12_readAssignment_23 en _ _ _ _ _ ?_
        rw [m_goodL m71, bI_some, if_pos (by decide), if_neg (not_not_intro rfl)]
        refine le_X12_readAssignment_43 en _ _ _ _ _ _ ?_
        have h275 : qev en (d' + 13) 275 [.ref 151, .int (0 : Int32)] t1 = some (some (.int (nI N)), mnT t1 N u b m key (nI 0) ow pt lo) := hNL (d' + 12) t1 (nI 0) a6 h25
        rw [h275, bI_some, if_neg (not_not_intro rfl)]
        exact hr
      have hE2 : exS false 7 0 u B n (uI s1 21 N (nI j)) (uI (uI (mnT t1 N u b m key (nI 0) ow pt lo) 166 N (-2)) 167 N (nI j)) V U1 cl1 nc nl nt i m := exS_mi (exS_mi (exS_mnT (exS_ui a4 (Or.inl ⟨by decide, by decide⟩))) (by decide)) (by decide)
      obtain ⟨s3, t3, c1, c2, c3, c4, c5⟩ := adv_al (en := en) (d := d + 137) (d' := d' + 10) hE2.1 hi1
      have e127 : qev en (d + 139) 127 [.ref 65, .int (nI N)] S = some (none, s3) := by
        refine le_X6_readLocal en _ _ _ _ ?_
        rw [a1, bI_some, if_neg (by rw [n_gt (by decide) (by omega)]; omega), gd_in (by omega) (by decide), n_cl (by omega), nm_eq, c1, bV_some]
      have pre63 : ∀ t4 r, qev en (d' + 13) 252 [.ref 151, .int (61 : Int32)] t3 = some (none, t4) → bI (qev en (d' + 13) 243 [.ref 151] t4) (fun w11 s12 => if w11 = (0 : Int32) then L_X12_readAssignment_140 en (d' + 13) (nI N) s12 else bI (qev en (d' + 13) 254 [.ref 151] s12) (fun w16 s17 => if w16 = (0 : Int32) then L_X12_readAssignment_140 en (d' + 13) (nI N) s17 else bI (qev en (d' + 13) 256 [.ref 151, .long (s17.2.1 151 5)] s17) (fun w20 s21 => if w20 = (-1 : Int32) then L_X12_readAssignment_140 en (d' + 13) (nI N) s21 else nm (uI s21 164 N (1 : Int32)) (fun s24 => bI (qev en (d' + 13) 256 [.ref 151, .long (s24.2.1 151 5)] s24) (fun w25 s26 => nm (uI s26 166 N w25) (fun s28 => bV (qev en (d' + 13) 249 [.ref 151] s28) (fun s30 => L_X12_readAssignment_145 en (d' + 13) s30))))))) = some r → qev en (d' + 14) 283 [.ref 151] t = some r := fun t4 r h4 hr => pre23 r (by
        refine le_X12_readAssignment_63 en _ _ _ _ _ _ _ _ ?_
        have c2' : qev en (d' + 13) 249 [.ref 151] (uI (uI (mnT t1 N u b m key (nI 0) ow pt lo) 166 N (-2)) 167 N (nI j)) = some (none, t3) := c2
        rw [gd_in (by omega) (by decide), n_cl (by omega), nm_eq, gd_in (by omega) (by decide), nm_eq, c2', bV_some, h4, bV_some]
        refine Eq.trans ?_ hr
        congr 1)
      have fX3 : stF N m S s3 := ((stF.rx a5).tr (stF.ui (by decide)) (Nat.le_refl m)).tr (stF.tk (tnF.ad c3)) (Nat.le_refl m)
      have fM3 : smF N m (mnT t1 N u b m key (nI 0) ow pt lo) t3 := ((smF.ui rfl).tr (smF.ui rfl) (Nat.le_refl m)).tr (smF.mv c4) (Nat.le_refl m)
      have wM1 : wkM t (mnT t1 N u b m key (nI 0) ow pt lo) := (wkM.rm a6).tr wkM_mnT
      have deadX : ∀ s4 t4, rdD s4 t4 → s4.2.2 65 7 = 8 → wkX S s4 → wkM (mnT t1 N u b m key (nI 0) ow pt lo) t4 → qev en (d + 140) 126 [.ref 65, .int (nI N)] S = some (some (.int 0), s4) → qev en (d' + 14) 283 [.ref 151] t = some (none, t4) → asgR (bI (qev en (d + 140) 126 [.ref 65, .int (nI N)] S) (fun w9 s10 => L_X6_readStatement_47 en (d + 140) (nI N) dp w9 s10)) (qev en (d' + 14) 283 [.ref 151] t) u b key ow pt lo B n s S t V cl th nc nl nt m N := fun s4 t4 h1 h2 h3 h4 h5 h6 => by
        obtain ⟨s5, t5, q1, q2, q3, q4, q5⟩ := stmD_al (en := en) (dp := dp) (k := 0) (D := d + 140) (u := u) (B := B) (n := n) (V := V) (cl := cl) (th := th) (nc := nc) (nl := nl) (nt := nt) (m := m) (X := some (none, t4)) (by omega) hN h2 h1 h3 h4 (fun F p h => ⟨t4, rfl, h, wkM.rf⟩)
        cases q2
        refine ⟨s5, _, ?_, h6, wS.tr q3, wM1.tr q4, ?_⟩
        · rw [h5, bI_some]; exact q1
        · rcases q5 with ⟨U', cl', i', m', g1, -⟩ | q5
          · exact absurd h1 (fun ⟨F, p, y1, y2⟩ => by
              have := g1.1.2.2.1
              rw [y2.1] at this
              exact y2.2.1 (by
                have h16 := y2.2.2.1
                exact (n_eq (by decide) (by omega)).mp this))
          · exact Or.inr q5
      rcases c5 with c5 | c5
      · have hE3 := exS_tk hE2 (tnF.ad c3) c4 c5
        obtain ⟨s4, t4, o1, o2, o3, o4, o5⟩ := must_al (en := en) (d := d + 137) (d' := d' + 9) (k := 61) hE3.1 ⟨by decide, by decide⟩
        have o1' : qev en (d + 139) 115 [.ref 65, .int (61 : Int32)] s3 = some (none, s4) := o1
        have o2' : qev en (d' + 13) 252 [.ref 151, .int (61 : Int32)] t3 = some (none, t4) := o2
        have fX4 : stF N m S s4 := fX3.tr (stF.tk o3) (Nat.le_refl m)
        have fM4 : smF N m (mnT t1 N u b m key (nI 0) ow pt lo) t4 := fM3.tr (smF.mv o4) (Nat.le_refl m)
        have h74 : s4.2.2 65 7 = 8 := by rw [fX4.2.2.2.2.2.2.2.2.2]; exact h7S
        rcases o5 with ⟨-, o5⟩ | o5
        · have hE4 := exS_tk hE3 o3 o4 o5
          obtain ⟨hi4, c14, -, -⟩ := cL_at hE4.1.1
          have hx4 := tkK_lt hi4
          have m74 := hE4.1.2.2.1
          have eN := m_isNameK (en := en) (d := d' + 11) hB hE4.1.2
          -- the rows of the line now
          have rX : ∀ a, 18 ≤ a → a ≤ 27 → a ≠ 21 → s4.1 a N = S.1 a N := fun a q1 q2 q3 => by rw [o3.1 a (by omega) (by omega), c3.1 a (by omega), uI_ne q3, a7 a (by omega)]
          have rX21 : s4.1 21 N = nI j := by rw [o3.1 21 (by decide) (by decide), c3.1 21 (by decide), rdW]
          have rM : ∀ a, smW a = true → a ≠ 166 → a ≠ 167 → t4.1 a N = (mnT t1 N u b m key (nI 0) ow pt lo).1 a N := fun a q1 q2 q3 => by
            have := smW_lt q1
            rw [o4.1 a (by omega), c4.1 a (by omega), uI_ne q3, uI_ne q2]
          have rM166 : t4.1 166 N = -2 := by rw [o4.1 166 (by decide), c4.1 166 (by decide), uI_ne (by decide), rdW]
          have rM167 : t4.1 167 N = nI j := by rw [o4.1 167 (by decide), c4.1 167 (by decide), rdW]
          have nw : ∀ k, nwL S (mnT t1 N u b m key (nI k) ow pt lo) N u k m := fun k => by
            rw [← hS]
            exact nwL_new hm4 hlv
          have kindS : ∀ (k : Nat), (mnT t1 N u b m key (nI k) ow pt lo).1 164 N = nI k := fun k => by rw [mnT_r (by decide) (by decide), if_pos rfl]; rfl
          have oth : ∀ (k a : Nat), smW a = true → a ≠ 164 → (mnT t1 N u b m key (nI 0) ow pt lo).1 a N = (mnT t1 N u b m key (nI k) ow pt lo).1 a N := fun k a q1 q2 => by
            have := smW_is q1
            by_cases z : a = 183
            · rw [z, mnT_o (by decide) (by decide), mnT_o (by decide) (by decide)]
            · rw [mnT_r (by omega) (by omega), if_pos rfl, mnT_r (by omega) (by omega), if_pos rfl]
              unfold mnV
              rw [if_neg q2, if_neg q2]
          -- a setting
          have setting : (qev en (d + 140) 126 [.ref 65, .int (nI N)] S = some (some (.int (nI 0)), s4)) → (∀ t9, L_X12_readAssignment_140 en (d' + 13) (nI N) t4 = some (none, t9) → qev en (d' + 14) 283 [.ref 151] t = some (none, t9)) → asgR (bI (qev en (d + 140) 126 [.ref 65, .int (nI N)] S) (fun w9 s10 => L_X6_readStatement_47 en (d + 140) (nI N) dp w9 s10)) (qev en (d' + 14) 283 [.ref 151] t) u b key ow pt lo B n s S t V cl th nc nl nt m N := fun h5 h6 => by
            obtain ⟨s5, t5, q1, q2, q3, q4, q5⟩ := stm_al (en := en) (dp := dp) (e0 := d' + 2) (d' := d') (D := d + 140) (k := 0) (X := qev en (d' + 14) 283 [.ref 151] t) (nw 0) hth hu hB hN (by decide) (by decide) (by omega) fX4 fM4 hE4 (rX 19 (by decide) (by decide) (by decide)) (rX 22 (by decide) (by decide) (by decide)) ⟨rX 25 (by decide) (by decide) (by decide), rX 26 (by decide) (by decide) (by decide)⟩ (rM 164 rfl (by decide) (by decide)) ⟨rM 176 rfl (by decide) (by decide), rM 177 rfl (by decide) (by decide), rM 178 rfl (by decide) (by decide), rM 179 rfl (by decide) (by decide)⟩ (rM166.trans ((rX 20 (by decide) (by decide) (by decide)).trans (nw 0).2.2.1.1).symm) (fun z _ => absurd z (by decide)) (fun z _ => absurd z (by decide)) (rM167.trans rX21.symm) (Or.inr ⟨j, a3, rX21⟩) (fun z => absurd z (by decide)) (fun z => absurd z (by decide)) (fun b hb t2 t3 h1 h2 => by
              rw [hxB_yes (Or.inl rfl)] at hb
              subst hb
              rw [if_pos rfl] at h1
              exact h6 t3 (m_140 m74 h1 h2))
            refine ⟨s5, t5, ?_, q2, wS.tr q3, wM1.tr q4, ?_⟩
            · rw [h5, bI_some]; exact q1
            · rcases q5 with ⟨U', cl', i', m', g1, g2, g3, g4, g5, g6⟩ | q5
              · exact Or.inl ⟨t1, 0, U', cl', i', m', g1, g2, fun w => Nat.le_trans (a9 w) (g3 w), g4, g5, a6, g6⟩
              · exact Or.inr q5
          by_cases q4 : tkK B n (i + 1 + 1) = 2
          · have c94 : s4.1 1 9 = 2 := by rw [c14, q4]; rfl
            rw [q4, decide_eq_true rfl] at eN
            obtain ⟨W, wx, wy, wz, wr, -, -, -, f84, f256, -, -, hcase⟩ := word_st (en := en) hE4 hB q4
            have pM4 : ∀ r, (if wy = (-1 : Int32) then L_X12_readAssignment_140 en (d' + 13) (nI N) t4 else nm (uI t4 164 N (1 : Int32)) (fun s24 => bI (qev en (d' + 13) 256 [.ref 151, .long (s24.2.1 151 5)] s24) (fun w25 s26 => nm (uI s26 166 N w25) (fun s28 => bV (qev en (d' + 13) 249 [.ref 151] s28) (fun s30 => L_X12_readAssignment_145 en (d' + 13) s30))))) = some r → qev en (d' + 14) 283 [.ref 151] t = some r := fun r hr => pre63 t4 r o2' (by
              have eN' : qev en (d' + 13) 254 [.ref 151] t4 = some (some (.int (bt true)), t4) := eN
              rw [m_goodL m74, bI_some, if_neg (by decide), eN', bI_some, if_neg (by decide), f256, bI_some]
              exact hr)
            have pX4 : ∀ r, L_X6_readTarget_89 en (d + 139) (nI N) wx s4 = some r → qev en (d + 140) 126 [.ref 65, .int (nI N)] S = some r := fun r hr => preX s3 s4 r e127 o1' (by
              rw [if_neg (not_not_intro c94), f84, bI_some]
              exact hr)
            have noCell : wy = -1 → (wx < 0 ∨ 8 ≤ wx) → asgR (bI (qev en (d + 140) 126 [.ref 65, .int (nI N)] S) (fun w9 s10 => L_X6_readStatement_47 en (d + 140) (nI N) dp w9 s10)) (qev en (d' + 14) 283 [.ref 151] t) u b key ow pt lo B n s S t V cl th nc nl nt m N := fun z1 z2 => setting (pX4 _ (by
                refine le_X6_readTarget_89 en _ _ _ _ _ ?_
                have e85' : qev en (d + 139) 85 [.int wx] s4 = some (some (.int 0), s4) := by
                  refine le_X5_isCell en _ _ _ _ ?_
                  by_cases z : wx < 0
                  · rw [if_pos z]
                  · rw [if_neg z, if_pos (z2.resolve_left z)]
                rw [e85', bI_some, if_neg (not_not_intro rfl)]
                rfl)) (fun t9 h9 => pM4 _ (by rw [if_pos z1]; exact h9))
            rcases hcase with ⟨rfl, rfl, rfl, rfl⟩ | ⟨c, hc', rfl, rfl, rfl, rfl⟩ | ⟨l, hl', rfl, rfl, rfl, rfl⟩ | ⟨v, hv', rfl, rfl, rfl, rfl⟩
            · exact noCell rfl (Or.inl (by decide))
            · -- a load
              have hE5 : exS false 7 0 u B n (uI s4 20 N (nI c)) (uI (uI t4 164 N (1 : Int32)) 166 N (nI c)) V U1 cl1 nc nl nt (i + 1 + 1) m := exS_mi (exS_mi (exS_ui hE4 (Or.inl ⟨by decide, by decide⟩)) (by decide)) (by decide)
              obtain ⟨s5, t5, y1, y2, y3, y4, y5⟩ := adv_al (en := en) (d := d + 138) (d' := d' + 10) hE5.1 (by omega)
              have y2' : qev en (d' + 13) 249 [.ref 151] (uI (uI t4 164 N (1 : Int32)) 166 N (nI c)) = some (none, t5) := y2
              have h126 : qev en (d + 140) 126 [.ref 65, .int (nI N)] S = some (some (.int (nI 1)), s5) := pX4 _ (by
                refine le_X6_readTarget_89 en _ _ _ _ _ ?_
                have e85' : qev en (d + 139) 85 [.int (nI c)] s4 = some (some (.int 1), s4) := by
                  refine le_X5_isCell en _ _ _ _ ?_
                  rw [if_neg (by rw [n_gt (by decide) (by omega)]; omega), if_neg (by rw [n_le (by decide) (by omega)]; omega)]
                rw [e85', bI_some, if_pos (by decide), gd_in (by omega) (by decide), n_cl (by omega), nm_eq, y1, bV_some]
                rfl)
              have h283 : ∀ t9, L_X12_readAssignment_145 en (d' + 13) t5 = some (none, t9) → qev en (d' + 14) 283 [.ref 151] t = some (none, t9) := fun t9 h9 => pM4 _ (by
                have f256' : qev en (d' + 13) 256 [.ref 151, .long ((uI t4 164 N (1 : Int32)).2.1 151 5)] (uI t4 164 N (1 : Int32)) = some (some (.int (nI c)), uI t4 164 N (1 : Int32)) := by
                  obtain ⟨W', wx', wy', wz', wr', -, -, -, -, g256, -, -, hcase'⟩ := word_st (en := en) (exS_mi (j := N) (v := 1) hE4 (show 164 ≤ 164 by decide)) hB q4
                  have h1 := f256 0
                  have h2 := g256 0
                  rw [m_cellOf (c := nc) hE4.2.1.2.2.1.1 hE4.2.1.1.1] at h1
                  rw [m_cellOf (c := nc) (by rw [uI_ne (by decide)]; exact hE4.2.1.2.2.1.1) hE4.2.1.1.1] at h2
                  have h1' := (Prod.mk.inj (Option.some.inj h1)).1
                  have h2' := (Prod.mk.inj (Option.some.inj h2)).1
                  have h3 : fnd ((uI t4 164 N (1 : Int32)).2.1 153) ((uI t4 164 N (1 : Int32)).2.1 151 5) nc 0 = fnd (t4.2.1 153) (t4.2.1 151 5) nc 0 := rfl
                  rw [h3] at h2'
                  rw [h1'] at h2'
                  rw [h2']
                  exact g256 _
                rw [if_neg (fun z => (n_m1 (by omega)).mp z), nm_eq, f256', bI_some, nm_eq, y2', bV_some]
                exact h9)
              have fX5 : stF N m S s5 := (fX4.tr (stF.ui (by decide)) (Nat.le_refl m)).tr (stF.tk (tnF.ad y3)) (Nat.le_refl m)
              have fM5 : smF N m (mnT t1 N u b m key (nI 0) ow pt lo) t5 := ((fM4.tr (smF.ui rfl) (Nat.le_refl m)).tr (smF.ui rfl) (Nat.le_refl m)).tr (smF.mv y4) (Nat.le_refl m)
              rcases y5 with y5 | y5
              · have hE6 := exS_tk hE5 (tnF.ad y3) y4 y5
                have r5X : ∀ a, 18 ≤ a → a ≤ 27 → a ≠ 20 → a ≠ 21 → s5.1 a N = S.1 a N := fun a q1 q2 q3 q4 => by rw [y3.1 a (by omega), uI_ne q3]; exact rX a q1 q2 q4
                have r5M : ∀ a, smW a = true → a ≠ 164 → a ≠ 166 → a ≠ 167 → t5.1 a N = (mnT t1 N u b m key (nI 1) ow pt lo).1 a N := fun a q1 q2 q3 q4 => by
                  have := smW_lt q1
                  rw [y4.1 a (by omega), uI_ne q3, uI_ne q2, rM a q1 q3 q4, oth 1 a q1 q2]
                have r20 : s5.1 20 N = nI c := by rw [y3.1 20 (by decide), rdW]
                have r166 : t5.1 166 N = nI c := by rw [y4.1 166 (by decide), rdW]
                have r21 : s5.1 21 N = nI j := by rw [y3.1 21 (by decide), uI_ne (by decide)]; exact rX21
                have r167 : t5.1 167 N = nI j := by rw [y4.1 167 (by decide), uI_ne (by decide), uI_ne (by decide)]; exact rM167
                have r164 : t5.1 164 N = (mnT t1 N u b m key (nI 1) ow pt lo).1 164 N := by
                  rw [y4.1 164 (by decide), uI_ne (by decide), rdW, kindS 1]
                  rfl
                obtain ⟨s6, t6, q1, q2, q3, q4', q5⟩ := stm_al (en := en) (dp := dp) (e0 := d' + 2) (d' := d') (D := d + 140) (k := 1) (X := qev en (d' + 14) 283 [.ref 151] t) (nw 1) hth hu hB hN (by decide) (by decide) (by omega) fX5 (mnT_kk.tr fM5 (Nat.le_refl m)) hE6 (r5X 19 (by decide) (by decide) (by decide) (by decide)) (r5X 22 (by decide) (by decide) (by decide) (by decide)) ⟨r5X 25 (by decide) (by decide) (by decide) (by decide), r5X 26 (by decide) (by decide) (by decide) (by decide)⟩ r164 ⟨r5M 176 rfl (by decide) (by decide) (by decide), r5M 177 rfl (by decide) (by decide) (by decide), r5M 178 rfl (by decide) (by decide) (by decide), r5M 179 rfl (by decide) (by decide) (by decide)⟩ (r166.trans r20.symm) (fun _ _ => ⟨c, hc', r20⟩) (fun z _ => absurd z (by decide)) (r167.trans r21.symm) (Or.inr ⟨j, a3, r21⟩) (fun z => absurd z (by decide)) (fun z => absurd z (by decide)) (fun b hb t2 t3 h1 h2 => by
                  rw [hxB_no (Or.inl rfl)] at hb
                  subst hb
                  rw [if_neg (by decide)] at h1
                  subst h1
                  refine h283 t3 ?_
                  refine le_X12_readAssignment_145 en _ _ _ ?_
                  rw [h2, bV_some])
                refine ⟨s6, t6, ?_, q2, wS.tr q3, ((wkM.rm a6).tr wkM_mnT).tr q4', ?_⟩
                · rw [h126, bI_some]; exact q1
                · rcases q5 with ⟨U', cl', i', m', g1, g2, g3, g4, g5, g6⟩ | q5
                  · exact Or.inl ⟨t1, 1, U', cl', i', m', g1, g2, fun w => Nat.le_trans (a9 w) (g3 w), g4, g5, a6, g6⟩
                  · exact Or.inr q5
              · obtain ⟨F', p', z1, z2⟩ := id y5
                obtain ⟨s6, w1, w2, w3⟩ := xD_47 (en := en) (d := d + 128) (dp := dp) (c := nI 1) z1 (by rw [fX5.2.2.2.2.2.2.2.2.2]; exact h7S) hN
                refine ⟨s6, t5, ?_, h283 t5 ?_, wS.tr ((wkX.st fX5).tr w3), wM1.tr (wkM.sm fM5), Or.inr ⟨F', p', w2, z2⟩⟩
                · rw [h126, bI_some]; exact w1
                · refine le_X12_readAssignment_145 en _ _ _ ?_
                  rw [show d' + 13 = d' + 10 + 3 from rfl, endD_m z2, bV_some]
            · exact noCell rfl (Or.inr (by rw [n_le (by decide) (by omega)]; omega))
            · exact noCell rfl (Or.inr (by rw [n_le (by decide) (by omega)]; omega))
          · have c94 : ¬ s4.1 1 9 = (2 : Int32) := by rw [c14, n_eq (by decide) (by omega)]; exact q4
            rw [decide_eq_false q4] at eN
            refine setting (preX s3 s4 _ e127 o1' (by rw [if_pos c94, l89]; rfl)) (fun t9 h9 => pre63 t4 _ o2' ?_)
            have eN' : qev en (d' + 13) 254 [.ref 151] t4 = some (some (.int (bt false)), t4) := eN
            rw [m_goodL m74, bI_some, if_neg (by decide), eN', bI_some, if_pos (show bt false = (0 : Int32) from rfl)]
            exact h9
        · obtain ⟨F', p', z1, z2⟩ := id o5
          refine deadX s4 t4 o5 h74 (wkX.st fX4) (wkM.sm fM4) (preX s3 s4 _ e127 o1' (by rw [if_pos (dX_2 z1), l89])) (pre63 t4 _ o2' ?_)
          rw [m_goodD z2, bI_some, if_pos rfl, show d' + 13 = d' + 10 + 3 from rfl, m_140D z2]
      · obtain ⟨F', p', z1, z2⟩ := id c5
        have hD' := bmS_dead (k := 2) z1
        refine deadX (bmS s3 2) t3 ⟨F', p', hD', z2⟩ (by rw [bmS_F.2.2.2, fX3.2.2.2.2.2.2.2.2.2]; exact h7S) ((wkX.st fX3).tr (wkX.bm bmS_F)) (wkM.sm fM3) (preX s3 _ _ e127 (xDn61 (d := d + 137) z1) (by rw [if_pos (dX_2 hD'), l89])) (pre63 t3 _ (by rw [show d' + 13 = d' + 10 + 3 from rfl, endD_m z2]) ?_)
        rw [m_goodD z2, bI_some, if_pos rfl, show d' + 13 = d' + 10 + 3 from rfl, m_140D z2]
    · -- one local too many
      have hD1 := bmS_dead (k := 2) a3
      have e127 : qev en (d + 139) 127 [.ref 65, .int (nI N)] S = some (none, bmS S 4) := by
        refine le_X6_readLocal en _ _ _ _ ?_
        rw [a1, bI_some, if_pos (by decide)]
      obtain ⟨s6, w1, w2, w3⟩ := xD_47 (en := en) (d := d + 128) (dp := dp) (c := 0) hD1 (by rw [bmS_F.2.2.2, bmS_F.2.2.2]; exact h7S) hN
      refine ⟨s6, t1, ?_, ?_, wS.tr (((wkX.bm bmS_F).tr (wkX.bm bmS_F)).tr w3), wkM.mv a5, Or.inr ⟨F', p', w2, a4⟩⟩
      · rw [preX _ _ _ e127 (xDn61 (d := d + 137) a3) (by rw [if_pos (dX_2 hD1), l89]), bI_some]
        exact w1
      · refine le_X12_readAssignment en _ _ _ ?_
        have a2' : qev en (d' + 13) 261 [.ref 151] t = some (some (.int (-1)), t1) := a2
        rw [e256, bI_some, if_neg (not_not_intro rfl), a2', bI_some]
        refine le_X12_readAssignment_23 en _ _ _ _ _ ?_
        rw [m_goodD a4, bI_some, if_neg (not_not_intro rfl)]
  · -- a cell
    have hc1 : ¬ nI c = -1 := fun z => (n_m1 (by omega)).mp z
    have e85 : qev en (d + 139) 85 [.int (nI c)] S = some (some (.int 1), S) := by
      refine le_X5_isCell en _ _ _ _ ?_
      rw [if_neg (by rw [n_gt (by decide) (by omega)]; omega), if_neg (by rw [n_le (by decide) (by omega)]; omega)]
    have preX : ∀ s1 s2, qev en (d + 139) 167 [.ref 1] (uI S 20 N (nI c)) = some (none, s1) → qev en (d + 139) 115 [.ref 65, .int (61 : Int32)] s1 = some (none, s2) → qev en (d + 140) 126 [.ref 65, .int (nI N)] S = some (some (.int (nI 2)), s2) := fun s1 s2 h1 h2 => by
      refine le_X6_readTarget en _ _ _ _ ?_
      rw [e84S, bI_some, e85, bI_some, if_neg (by decide), gd_in (by omega) (by decide), n_cl (by omega), nm_eq, h1, bV_some, h2, bV_some]
      rfl
    have h275 : qev en (d' + 13) 275 [.ref 151, .int (2 : Int32)] t = some (some (.int (nI N)), mnT t N u b m key (nI 2) ow pt lo) := hNL (d' + 12) t (nI 2) rmF.rf hm25
    have hE1 : exS false 7 0 u B n (uI S 20 N (nI c)) (uI (uI (mnT t N u b m key (nI 2) ow pt lo) 166 N (nI c)) 167 N (-2)) V U cl nc nl nt i m := exS_mi (exS_mi (exS_mnT (exS_ui hES (Or.inl ⟨by decide, by decide⟩))) (by decide)) (by decide)
    obtain ⟨s3, t3, c1, c2, c3, c4, c5⟩ := adv_al (en := en) (d := d + 138) (d' := d' + 10) hE1.1 (by omega)
    have pre63 : ∀ t4 r, qev en (d' + 13) 252 [.ref 151, .int (61 : Int32)] t3 = some (none, t4) → L_X12_readAssignment_140 en (d' + 13) (nI N) t4 = some r → qev en (d' + 14) 283 [.ref 151] t = some r := fun t4 r h4 hr => by
      refine le_X12_readAssignment en _ _ _ ?_
      rw [e256, bI_some, if_pos hc1]
      refine le_X12_readAssignment_23 en _ _ _ _ _ ?_
      rw [m_goodL m7, bI_some, if_pos (by decide), if_pos hc1]
      refine le_X12_readAssignment_43 en _ _ _ _ _ _ ?_
      rw [h275, bI_some, if_pos hc1]
      refine le_X12_readAssignment_63 en _ _ _ _ _ _ _ _ ?_
      have c2' : qev en (d' + 13) 249 [.ref 151] (uI (uI (mnT t N u b m key (nI 2) ow pt lo) 166 N (nI c)) 167 N (-2)) = some (none, t3) := c2
      rw [gd_in (by omega) (by decide), n_cl (by omega), nm_eq, gd_in (by omega) (by decide), nm_eq, c2', bV_some, h4, bV_some]
      have h243 : ∃ w, (w = 0 ∨ w = 1) ∧ qev en (d' + 13) 243 [.ref 151] t4 = some (some (.int w), t4) := by
        by_cases z : t4.1 151 7 = 0
        · exact ⟨1, Or.inr rfl, m_goodL z⟩
        · refine ⟨0, Or.inl rfl, le_X12_good en _ _ _ ?_⟩
          rw [if_pos z]
      obtain ⟨w, hw, h243⟩ := h243
      rw [h243, bI_some]
      rcases hw with rfl | rfl
      · rw [if_pos rfl]; exact hr
      · rw [if_neg (by decide), if_pos hc1]; exact hr
    have fX3 : stF N m S s3 := (stF.ui (by decide)).tr (stF.tk (tnF.ad c3)) (Nat.le_refl m)
    have fM3 : smF N m (mnT t N u b m key (nI 2) ow pt lo) t3 := ((smF.ui rfl).tr (smF.ui rfl) (Nat.le_refl m)).tr (smF.mv c4) (Nat.le_refl m)
    have wM1 : wkM t (mnT t N u b m key (nI 2) ow pt lo) := wkM_mnT
    have deadX : ∀ s4 t4 F' p', dX s4 F' p' → mtD t4 F' p' → s4.2.2 65 7 = 8 → wkX S s4 → wkM (mnT t N u b m key (nI 2) ow pt lo) t4 → qev en (d + 140) 126 [.ref 65, .int (nI N)] S = some (some (.int (nI 2)), s4) → qev en (d' + 14) 283 [.ref 151] t = some (none, t4) → asgR (bI (qev en (d + 140) 126 [.ref 65, .int (nI N)] S) (fun w9 s10 => L_X6_readStatement_47 en (d + 140) (nI N) dp w9 s10)) (qev en (d' + 14) 283 [.ref 151] t) u b key ow pt lo B n s S t V cl th nc nl nt m N := fun s4 t4 F' p' h1 h1' h2 h3 h4 h5 h6 => by
      obtain ⟨s6, w1, w2, w3⟩ := xD_47 (en := en) (d := d + 128) (dp := dp) (c := nI 2) h1 h2 hN
      refine ⟨s6, t4, ?_, h6, wS.tr (h3.tr w3), wM1.tr h4, Or.inr ⟨F', p', w2, h1'⟩⟩
      rw [h5, bI_some]
      exact w1
    rcases c5 with c5 | c5
    · have hE3 := exS_tk hE1 (tnF.ad c3) c4 c5
      obtain ⟨s4, t4, o1, o2, o3, o4, o5⟩ := must_al (en := en) (d := d + 137) (d' := d' + 9) (k := 61) hE3.1 ⟨by decide, by decide⟩
      have o1' : qev en (d + 139) 115 [.ref 65, .int (61 : Int32)] s3 = some (none, s4) := o1
      have o2' : qev en (d' + 13) 252 [.ref 151, .int (61 : Int32)] t3 = some (none, t4) := o2
      have fX4 : stF N m S s4 := fX3.tr (stF.tk o3) (Nat.le_refl m)
      have fM4 : smF N m (mnT t N u b m key (nI 2) ow pt lo) t4 := fM3.tr (smF.mv o4) (Nat.le_refl m)
      have h74 : s4.2.2 65 7 = 8 := by rw [fX4.2.2.2.2.2.2.2.2.2]; exact h7S
      rcases o5 with ⟨-, o5⟩ | o5
      · have hE4 := exS_tk hE3 o3 o4 o5
        have m74 := hE4.1.2.2.1
        have nw : nwL S (mnT t N u b m key (nI 2) ow pt lo) N u 2 m := by
          rw [← hS]
          exact nwL_new hm4 hlv
        have rX : ∀ a, 18 ≤ a → a ≤ 27 → a ≠ 20 → s4.1 a N = S.1 a N := fun a q1 q2 q3 => by rw [o3.1 a (by omega) (by omega), c3.1 a (by omega), uI_ne q3]
        have rX20 : s4.1 20 N = nI c := by rw [o3.1 20 (by decide) (by decide), c3.1 20 (by decide), rdW]
        have rM : ∀ a, smW a = true → a ≠ 166 → a ≠ 167 → t4.1 a N = (mnT t N u b m key (nI 2) ow pt lo).1 a N := fun a q1 q2 q3 => by
          have := smW_lt q1
          rw [o4.1 a (by omega), c4.1 a (by omega), uI_ne q3, uI_ne q2]
        have rM166 : t4.1 166 N = nI c := by rw [o4.1 166 (by decide), c4.1 166 (by decide), uI_ne (by decide), rdW]
        have rM167 : t4.1 167 N = -2 := by rw [o4.1 167 (by decide), c4.1 167 (by decide), rdW]
        have r21 : s4.1 21 N = -2 := (rX 21 (by decide) (by decide) (by decide)).trans nw.2.2.2.1.1
        obtain ⟨s5, t5, q1, q2, q3, q4, q5⟩ := stm_al (en := en) (dp := dp) (e0 := d' + 2) (d' := d') (D := d + 140) (k := 2) (X := qev en (d' + 14) 283 [.ref 151] t) nw hth hu hB hN (by decide) (by decide) (by omega) fX4 fM4 hE4 (rX 19 (by decide) (by decide) (by decide)) (rX 22 (by decide) (by decide) (by decide)) ⟨rX 25 (by decide) (by decide) (by decide), rX 26 (by decide) (by decide) (by decide)⟩ (rM 164 rfl (by decide) (by decide)) ⟨rM 176 rfl (by decide) (by decide), rM 177 rfl (by decide) (by decide), rM 178 rfl (by decide) (by decide), rM 179 rfl (by decide) (by decide)⟩ (rM166.trans rX20.symm) (fun _ _ => ⟨c, hc, rX20⟩) (fun z _ => absurd z (by decide)) (rM167.trans r21.symm) (Or.inl ⟨r21, by decide⟩) (fun z => absurd z (by decide)) (fun z => absurd z (by decide)) (fun b hb t2 t3 h1 h2 => by
          rw [hxB_yes (Or.inr (Or.inl rfl))] at hb
          subst hb
          rw [if_pos rfl] at h1
          exact pre63 t4 _ o2' (m_140 m74 h1 h2))
        refine ⟨s5, t5, ?_, q2, wS.tr q3, wM1.tr q4, ?_⟩
        · rw [preX s3 s4 c1 o1', bI_some]; exact q1
        · rcases q5 with ⟨U', cl', i', m', g1, g2, g3, g4, g5, g6⟩ | q5
          · exact Or.inl ⟨t, 2, U', cl', i', m', g1, g2, g3, g4, g5, rmF.rf, g6⟩
          · exact Or.inr q5
      · obtain ⟨F', p', z1, z2⟩ := id o5
        exact deadX s4 t4 F' p' z1 z2 h74 (wkX.st fX4) (wkM.sm fM4) (preX s3 s4 c1 o1') (pre63 t4 _ o2' (by rw [show d' + 13 = d' + 10 + 3 from rfl, m_140D z2]))
    · obtain ⟨F', p', z1, z2⟩ := id c5
      have hD' := bmS_dead (k := 2) z1
      exact deadX (bmS s3 2) t3 F' p' hD' z2 (by rw [bmS_F.2.2.2, fX3.2.2.2.2.2.2.2.2.2]; exact h7S) ((wkX.st fX3).tr (wkX.bm bmS_F)) (wkM.sm fM3) (preX s3 _ c1 (xDn61 (d := d + 137) z1)) (pre63 t3 _ (by rw [show d' + 13 = d' + 10 + 3 from rfl, endD_m z2]) (by rw [show d' + 13 = d' + 10 + 3 from rfl, m_140D z2]))
end ASG
