/-! THE READER: an expression on both sides: brackets; whole expressions. -/
section EXB
variable {en : pN} {d d' k K q bs u n i i' ct ct' m m' m0 c c' c0 k' nc nl nt a b z h dp F p x j r l l0 y f D d0 e : Nat} {lw : Bool} {V cl cl' : Nat → Nat} {U U' : Nat → Nat → Nat} {pl pl' : Nat → Nat} {s s' s'' t t' t'' : qS} {B : Nat → Nat} {O Q M W v w v1 v2 v3 v4 v5 a2 : Int32} {R X : Option qR}
/-- an expression that can't end here -/
theorem m_488F (h : rdL s t B n i) (hP : pilF t k pl) (hk : k ≤ 2000) (hb : 0 < b) (hb9 : b < 20) : ∃ t', L_X12_readExp_488 en (d' + 4) v1 (nI b) t = some (some (.int v1), t') ∧ dX (bmS s 2) 2 (tkN B n i).1 ∧ mtD t' 2 (tkN B n i).1 ∧ ∀ c0, rmF true c0 t t' := by
  obtain ⟨t1, w1, w2, w3, w4⟩ := fault_al (en := en) (d' := d' + 2) (k := 2) h ⟨by decide, by decide⟩
  have w1' : qev en (d' + 4) 245 [.ref 151, .int (0 : Int32), .int (2 : Int32)] t = some (none, t1) := w1
  have hP1 := pil_mv hP w2
  obtain ⟨t2, y1, y2, y3⟩ := m_settleD (en := en) (d := d' + 1) (r := 1) (by decide) k t1 hk w4 hP1.1 hP1.2
  refine ⟨t2, le_X12_readExp_488 en _ _ _ _ _ ?_, w3, mtD_dd w4 y2, fun c0 => (rmF.mv w2).tr (rmF.dd y2) (Nat.le_refl c0)⟩
  rw [m_goodL h.2.2.1, bI_some, if_neg (by decide), if_pos (by rw [n_eq (by decide) (by omega)]; omega)]
  refine le_X12_readExp_505 en _ _ _ _ _ ?_
  rw [w1', bV_some]
  refine le_X12_readExp_509 en _ _ _ _ ?_
  have e266 : qev en (d' + 4) 266 [.ref 151, .int (1 : Int32)] t1 = some (none, t2) := le_X12_settle en _ _ _ _ y1
  rw [e266, bV_some]
/-- the class at a bracket -/
theorem x_bracket {s1 s2 s3 : qS} (c1 : s.1 1 9 = 40) (h1 : qev en (e + 7) 167 [.ref 1] s = some (none, s1)) (h2 : qev en (e + 7) 134 [.ref 65, .int (nI 0), .int (nI (dp + 1))] s1 = some (none, s2)) (h3 : qev en (e + 7) 115 [.ref 65, .int (nI 41)] s2 = some (none, s3)) : oneB en (e + 7) dp s = some (none, s3) := by
  show (if ¬ (s.1 1 9) = (40 : Int32) then _ else _) = _
  have h2' : qev en (e + 7) 134 [.ref 65, .int (0 : Int32), .int (nI (dp + 1))] s1 = some (none, s2) := h2
  have h3' : qev en (e + 7) 115 [.ref 65, .int (41 : Int32)] s2 = some (none, s3) := h3
  rw [if_neg (not_not_intro c1), h1, bV_some, show nI dp + (1 : Int32) = nI (dp + 1) from n_ar, h2', bV_some, h3', bV_some]
/-- the model at a bracket -/
theorem m_bracket {r : qR} (hy : tkK B n i = 40) (hm : mtL t B n i) (hdp : 1 ≤ dp) (hk : k < 1000) (hP : pilF t k pl) (hr : bV (qev en (d' + 8) 249 [.ref 151] (uI (uI t 163 k (nI 22)) 151 31 (nI (k + 1)))) (fun s2 => L_X12_readExp_20 en (d' + 8) v1 (nI (b + 1)) (nI dp) 1 0 s2) = some r) : L_X12_readExp_159 en (d' + 8) v1 (nI b) (nI (dp - 1)) 1 0 t = some r := by
  have m3 : t.1 151 3 = (40 : Int32) := by
    rw [hm.2.2.2.2.2.1, hy]; rfl
  refine m_159p (d' := d' + 7) hm (Or.inl hy) r ?_
  refine le_X12_readExp_195 en _ _ _ _ _ _ _ _ ?_
  rw [if_pos m3]
  refine m_pushP (K := 22) (w := 1) hP (Nat.lt_trans hk (by decide)) (fun _ => ⟨rfl, rfl⟩) (fun z => by rw [m3] at z; exact absurd z (by decide)) (fun z => absurd m3 z) r ?_
  rw [show nI b + (1 : Int32) = nI (b + 1) from n_ar, show nI (dp - 1) + (1 : Int32) = nI (dp - 1 + 1) from n_ar, Nat.sub_add_cancel hdp]
  exact hr
/-- the model where a bracket is closed -/
theorem m_close {t1 t2 t3 : qS} {w16 : Int32} {r : qR} (hy : tkK B n i = 41) (hm : mtL t B n i) (hb : b < 20) (hk : k < 1000) (h1 : qev en (d' + 8) 266 [.ref 151, .int (nI 1)] t = some (none, t1)) (hP : t1.1 151 31 = nI (k + 1)) (h2 : qev en (d' + 8) 249 [.ref 151] (uI t1 151 31 (nI k)) = some (none, t2)) (h3 : qev en (d' + 8) 269 [.ref 151] t2 = some (some (.int w16), t3)) (hr : L_X12_readExp_20 en (d' + 8) v1 (nI b) (nI dp - w16) 0 0 t3 = some r) : L_X12_readExp_20 en (d' + 8) v1 (nI (b + 1)) (nI (dp + 1)) 0 0 t = some r := by
  have m3 : t.1 151 3 = (41 : Int32) := by
    rw [hm.2.2.2.2.2.1, hy]; rfl
  have h1' : qev en (d' + 8) 266 [.ref 151, .int (1 : Int32)] t = some (none, t1) := h1
  refine le_X12_readExp_20 en _ _ _ _ _ _ _ _ ?_
  rw [m_goodL hm.2.1, bI_some, if_neg (by decide), if_neg (not_not_intro rfl), if_pos rfl, if_neg (not_not_intro m3), if_neg (by rw [n_ge (by decide) (by omega)]; omega), h1', bV_some, hP, show nI (k + 1) - (1 : Int32) = nI k from by rw [show nI (k + 1) - (1 : Int32) = nI (k + 1 - 1) from n_sr (by omega), Nat.add_sub_cancel], nm_eq, h2, bV_some, h3, bI_some, nm_eq, n_cm1, n_cm1]
  exact hr
set_option maxHeartbeats 1000000 in
/-- an expression in brackets -/
theorem one_par (hF16 : 16 ≤ F) (hI : levelOK en d' v1 lw q bs u B n V nc nl nt (b + 1) (dp + 1) 0 F) (hF : F ≤ e + 7) (hE : eS lw q bs u B n s t V U cl nc nl nt i ct m m k pl) (hq : plcQ lw q bs) (hcnt : m + k = ct + b) (hbk : b ≤ k) (hb : b ≤ dp - 1) (hdp : 1 ≤ dp ∧ dp ≤ 9) (he : k - epC pl k ≤ dp - 1) (hy : tkK B n i = 40) (hX : ∀ r, oneB en (e + 7) dp s = some r → R = some r) (hM : ∀ r, L_X12_readExp_159 en (d' + 8) v1 (nI b) (nI (dp - 1)) 1 0 t = some r → X = some r) : oneR en d' v1 lw q bs u B n b dp R X s t V cl nc nl nt (ct + 1) m k pl := by
  obtain ⟨hl, -, -, ⟨h7, -⟩, ⟨x1, x2, x3⟩, ⟨y1, y2, y3⟩, hp⟩ := id hE
  have hq' := hq.qq
  have hle := @epC_le pl k
  obtain ⟨hi, c1, -, -⟩ := cL_at hl.1
  have c9 : s.1 1 9 = 40 := by rw [c1, hy]; rfl
  have N : m + (k + 1) = ct + (b + 1) ∧ b + 1 ≤ k + 1 ∧ k < 1000 ∧ m ≤ 500 ∧ k < 2000 ∧ k + 1 ≤ 2000 ∧ m ≤ 409 ∧ b + 1 < 20 ∧ b + 1 ≤ 9 ∧ b < 20 ∧ b ≤ 9 ∧ k ≤ 2000 ∧ 0 < b + 1 := by clear hI hE hl hX hM hp; omega
  obtain ⟨N1, N2, N5, N6, N7, N8, N9, N10, N11, N12, N13, N14, N15⟩ := N
  have hcap : m ≤ ln (q + 1) := by
    clear hI hE hl hX hM hp
    rcases hq' with rfl | rfl
    · exact N6
    · show m ≤ 400; omega
  have hdp1 : dp + 1 - 1 = dp := Nat.add_sub_cancel dp 1
  have hdp2 : dp - 1 + 1 = dp := Nat.sub_add_cancel hdp.1
  have hP := pil_of hE
  have hE3 := eS_push hE hq (K := 22) N7 (by decide)
  obtain ⟨s2, t3, a1, a2, a3, a4, a5⟩ := adv_al (en := en) (d := e + 6) (d' := d' + 5) hE3.1 (show tkK B n i ≠ 0 by rw [hy]; decide)
  have fx2 : rxF true q m s s2 := rxF.ad a3 hq'
  have fm3 : rmF lw (bs + m) t t3 := (rmF.pu).tr (rmF.mv a4) (Nat.le_refl _)
  have hP3 : pilF t3 (k + 1) (at1 pl k 22) := pil_mv (pil_of hE3) a4
  have hm3' : mEnd s2 q m := mEnd_tk hq' ⟨m, y1, Nat.le_refl _, hcap⟩ (tnF.ad a3)
  rcases a5 with a5 | a5
  · have hE4 := eS_ad hE3 hq a3 a4 a5
    have hI' := hI (e + 7) s2 t3 U cl (i + 1) ct m (k + 1) (at1 pl k 22) hF hE4 (Or.inr (Or.inl (by rw [Nat.add_sub_cancel, at1_s]))) N1 N2
    clear hE hE3 hE4 a5 hI
    unfold lvR at hI'
    rw [hdp1] at hI'
    rcases hI' with ⟨s5, t5, U5, cl5, i5, ct5, z5, h5, pl5, g1, g2, g3, g4, g5, g6, g7, g8, g9⟩ | ⟨s5, t5, g1, g2, g3, g4, g5, g6⟩
    · have hpk : pl5 k = 22 := by rw [g5 k (Nat.lt_succ_self k), at1_s]
      have hpl : ∀ j, j < k → pl5 j = pl j := fun j hj => by rw [g5 j (Nat.lt_succ_of_lt hj), at1_n (Nat.ne_of_lt hj)]
      have hl5 := g3.1.1
      have fm5 : rmF lw (bs + m) t t5 := fm3.tr g9 (Nat.le_refl _)
      have fx5 : rxF lw q m s s5 := fx2.wk.tr g8 (Nat.le_refl m)
      by_cases hy5 : tkK B n i5 = 41
      · obtain ⟨t6, p1, p2, p3, p4⟩ := pop_al (en := en) (d' := d' + 5) (r := 1) g3 hq (Nat.le_refl 1) (Nat.le_refl 1) (by decide) N11 (Or.inr (Or.inl (by rw [Nat.add_sub_cancel]; exact hpk)))
        have hP6 := pil_of p2
        have hcnt5 := g3.2.1
        have hgw5 := g3.2.2.2.2.2.2
        have fm6 : rmF lw (bs + m) t t6 := fm5.tr (rmF.em p4 (Nat.add_le_add_left hcnt5.1 bs)) (Nat.le_refl _)
        have hE7 : eS lw q bs u B n s5 (uI t6 151 31 (nI k)) V U5 cl5 nc nl nt i5 ct5 (z5 + h5) (z5 + h5) k pl := by
          obtain ⟨u1, u2, u3, u4, ⟨u5, u6, u7⟩, ⟨u8, u9, u10⟩, u11⟩ := id p2
          refine eS_fr p2 hq (m0 := 0) (c0 := 0) rxF.rf (rmF.ui rfl) ⟨u1.1, mtL_fr u1.2 (fun j hj => ?_) ?_ rfl⟩ ⟨u5, ?_, u7⟩ ⟨u8, ?_, ?_⟩ (fun j hj => ?_)
          · rw [rdU, if_neg (fun z => absurd z.2 (Nat.ne_of_lt (Nat.lt_trans hj (by decide))))]
          · rw [uI_ne (by decide)]
          · rw [rdU, if_neg (by decide)]; exact u6
          · rw [rdU, if_neg (by decide)]; exact u9
          · rw [rdU, if_pos ⟨rfl, rfl⟩]
          · rw [uI_ne (by decide), ← hpl j hj]; exact u11 j (Nat.lt_succ_of_lt hj)
        obtain ⟨s8, t8, b1, b2, b3, b4, b5⟩ := adv_al (en := en) (d := e + 5) (d' := d' + 5) hE7.1 (show tkK B n i5 ≠ 0 by rw [hy5]; decide)
        have h115 : qev en (e + 7) 115 [.ref 65, .int (nI 41)] s5 = some (none, s8) := by
          rcases x_need (en := en) (k := 41) hl5 ⟨by decide, by decide⟩ with ⟨_, g⟩ | ⟨g, _⟩
          · exact g (e + 5) s8 b1
          · exact absurd hy5 g
        have rX : R = some (none, s8) := hX _ (x_bracket c9 a1 g1 h115)
        have fx8 : rxF lw q m s s8 := fx5.tr (rxF.ad b3 hq') (Nat.le_refl m)
        have fm8 : rmF lw (bs + m) t t8 := (fm6.tr (rmF.ui rfl) (Nat.le_refl _)).tr (rmF.mv b4) (Nat.le_refl _)
        rcases b5 with b5 | b5
        · left
          have hE8 := eS_ad hE7 hq b3 b4 b5
          have hc8 : z5 + h5 + k = ct5 + b := by
            have := hcnt5.2
            clear g3 p2 hE7 hE8 hl hl5 g2 hX hM b5
            omega
          obtain ⟨t9, w1, w2, w3, w4⟩ := pre_al (en := en) (d' := d' + 5) (b := b) hE8 hq hc8 N13
          refine ⟨s8, t9, U5, cl5, i5 + 1, ct5, z5 + h5, rX, fun x hx => hM x (m_bracket hy hl.2 hdp.1 N5 hP ?_), w2, ⟨Nat.le_trans hcnt5.1 (Nat.le_add_right _ _), hc8⟩, fun j j1 j2 => ?_, w4, gw_ag hgw5 (fun j _ _ => ⟨by rw [b3.1 (q + 1) (by rcases hq' with rfl | rfl <;> decide)], by rw [b3.1 (q + 2) (by rcases hq' with rfl | rfl <;> decide)]⟩), g6, g7, fx8, fm8.tr (rmF.em w3 (Nat.add_le_add_left (Nat.le_trans hcnt5.1 (Nat.le_add_right _ _)) bs)) (Nat.le_refl _)⟩
          · rw [a2, bV_some]
            refine g2 x ?_
            have := m_close (en := en) (d' := d') (v1 := v1) (dp := dp - 1) hy5 hl5.2 N12 N5 p1 hP6.1 b2 w1 (r := x) (by rw [n_sub he]; exact hx)
            rw [hdp2] at this
            exact this
          · obtain ⟨f1, f2⟩ := w3.2.2.1 (bs + j) (Nat.add_lt_add_left j2 bs)
            refine nd1_eq (p3 j j1 j2) (by rw [b3.1 (q + 1) (by rcases hq' with rfl | rfl <;> decide)]) (by rw [b3.1 (q + 2) (by rcases hq' with rfl | rfl <;> decide)]) (f1.trans ?_) (f2.trans ?_)
            · rw [b4.1 161 (by decide), uI_ne (by decide)]
            · rw [b4.1 162 (by decide), uI_ne (by decide)]
        · right
          obtain ⟨F', p', b6, b7⟩ := id b5
          have hP8 : pilF t8 k pl := pil_mv (pil_of hE7) b4
          obtain ⟨t9, w1, w2, w3⟩ := m_deadExp (en := en) (d := d' + 5) (v1 := v1) (v2 := nI b) (v3 := nI (dp - 1) - 0) (v4 := 0) (v5 := 0) N14 b7 hP8.1 hP8.2
          have hM8 : mEnd s8 q m := mEnd_tk hq' ⟨z5 + h5, hE7.2.2.2.2.2.1.1, Nat.le_trans hcnt5.1 (Nat.le_add_right _ _), by
            have hc := hcnt5.2
            have hct := hE7.2.2.2.2.1.2.2
            clear g3 p2 hE7 hl hl5 g2 hX hM b5
            rcases hq' with rfl | rfl
            · show z5 + h5 ≤ 500; omega
            · show z5 + h5 ≤ 400; omega⟩ (tnF.ad b3)
          refine ⟨s8, t9, rX, hM _ (m_bracket hy hl.2 hdp.1 N5 hP ?_), ⟨F', p', b6, w2⟩, hM8, fx8, fm8.tr (rmF.dd w3) (Nat.le_refl _)⟩
          rw [a2, bV_some]
          refine g2 _ ?_
          have := m_close (en := en) (d' := d') (v1 := v1) (dp := dp - 1) hy5 hl5.2 N12 N5 p1 hP6.1 b2 (m_269D (d := d' + 5) b7) w1
          rw [hdp2] at this
          exact this
      · right
        obtain ⟨t6, h1, q1, q2, q3, q4⟩ := reach488 (en := en) (d' := d' + 4) (v1 := v1) (v3 := nI dp) g3 g4 hq N11 (Or.inl hy5)
        have hP6 := pil_of q3.1
        have hcn := q3.2.1
        have hct := q3.1.2.2.2.2.1.2.2
        have hk1 : k + 1 + h1 ≤ 2000 := by
          clear g3 hl hl5 g2 hX hM q2 q3 hP6
          omega
        obtain ⟨t7, w1, w2, w3, w4⟩ := m_488F (en := en) (d' := d' + 4) (v1 := v1) q3.1.1 hP6 hk1 N15 N10
        have h115 : qev en (e + 7) 115 [.ref 65, .int (nI 41)] s5 = some (none, bmS s5 2) := by
          rcases x_need (en := en) (k := 41) hl5 ⟨by decide, by decide⟩ with ⟨g, _⟩ | ⟨_, g⟩
          · exact absurd g hy5
          · exact g (e + 5)
        refine ⟨bmS s5 2, t7, hX _ (x_bracket c9 a1 g1 h115), hM _ (m_bracket hy hl.2 hdp.1 N5 hP ?_), ⟨2, _, w2, w3⟩, ?_, fx5.tr (rxF.bm bmS_F hq') (Nat.le_refl m), (fm5.tr (rmF.em q4 (Nat.add_le_add_left g3.2.1.1 bs)) (Nat.le_refl _)).tr (w4 _).wk (Nat.le_refl _)⟩
        · rw [a2, bV_some]
          exact g2 _ (q2 _ w1)
        · refine mEnd_tk hq' ⟨z5 + h5, g3.1.2.2.2.2.2.1.1, Nat.le_trans g3.2.1.1 (Nat.le_add_right _ _), ?_⟩ (tnF.bm bmS_F)
          have hc := g3.2.1.2
          have hct := g3.1.2.2.2.2.1.2.2
          clear g3 hl hl5 g2 hX hM q2 q3 hP6
          rcases hq' with rfl | rfl
          · show z5 + h5 ≤ 500; omega
          · show z5 + h5 ≤ 400; omega
    · right
      obtain ⟨F', p', b6, b7⟩ := id g3
      have h115 : qev en (e + 7) 115 [.ref 65, .int (nI 41)] s5 = some (none, bmS s5 2) := x_deadNeed b6 ⟨by decide, by decide⟩
      refine ⟨bmS s5 2, t5, hX _ (x_bracket c9 a1 g1 h115), hM _ (m_bracket hy hl.2 hdp.1 N5 hP ?_), ⟨F', p', bmS_dead b6, b7⟩, mEnd_tk hq' g4 (tnF.bm bmS_F), (fx2.wk.tr g5 (Nat.le_refl m)).tr (rxF.bm bmS_F hq') (Nat.le_refl m), fm3.tr g6 (Nat.le_refl _)⟩
      rw [a2, bV_some]
      exact g2
  · right
    clear hE hE3 hI
    obtain ⟨F', p', b5, b6⟩ := id a5
    obtain ⟨o, ho⟩ : ∃ o, e + 7 = o + 2 * 4 + 4 := ⟨e + 7 - 12, by clear hl a5 hX hM; omega⟩
    obtain ⟨s5, g1, g2, g3⟩ := x_deadLevel (en := en) (d := o) (a := nI (dp + 1)) 4 0 s2 rfl b5
    rw [← ho] at g1
    have h115 : qev en (e + 7) 115 [.ref 65, .int (nI 41)] s5 = some (none, bmS s5 2) := x_deadNeed g3 ⟨by decide, by decide⟩
    obtain ⟨t6, u1, u2, u3⟩ := m_deadExp (en := en) (d := d' + 5) (v1 := v1) (v2 := nI (b + 1)) (v3 := nI dp) (v4 := 1) (v5 := 0) N8 b6 hP3.1 hP3.2
    refine ⟨bmS s5 2, t6, hX _ (x_bracket c9 a1 g1 h115), hM _ (m_bracket hy hl.2 hdp.1 N5 hP ?_), ⟨F', p', bmS_dead g3, u2⟩, mEnd_tk hq' (mEnd_tk hq' hm3' (tnF.bm g2)) (tnF.bm bmS_F), ((fx2.tr (rxF.bm g2 hq') (Nat.le_refl m)).tr (rxF.bm bmS_F hq') (Nat.le_refl m)).wk, fm3.tr (rmF.dd u3) (Nat.le_refl _)⟩
    rw [a2, bV_some]
    exact u1
/-- sides of the strongest level are operands -/
theorem side5_al (hq : plcQ lw q bs) (hO : oneOK en d' v1 lw q bs u B n V nc nl nt dp F) (hb : b ≤ dp - 1) : sideOK en d' v1 lw q bs u B n V nc nl nt b dp 5 (F + 1) := by
  intro D s t U cl i ct m k pl hD hE hto hcnt hbk
  obtain ⟨e, rfl⟩ : ∃ e, D = e + 1 := ⟨D - 1, by clear hE hO; omega⟩
  have ep := topOK_e hto (Nat.le_refl 5)
  have hO' := hO b e s t U cl i ct m k pl (by clear hE hO; omega) hE hcnt hbk hb (by rw [ep, Nat.sub_self]; exact Nat.zero_le _)
  unfold oneR at hO'
  rw [ep, Nat.sub_self] at hO'
  have preX : ∀ s', qev en e 139 [.ref 65, .int (nI dp)] s = some (none, s') → qev en (e + 1) 135 [.ref 65, .int (nI 5), .int (nI dp)] s = some (none, s') := fun s' h => by
    refine le_X6_readSide en _ _ _ _ _ ?_
    rw [if_pos (by decide), h, bV_some]
  rcases hO' with ⟨s', t', U', cl', i', ct', z, g1, g2, g3, ⟨g4, g5⟩, g6, g7, g8, g9, g10, g11, g12⟩ | ⟨s', t', g1, g2, g3, g4, g5, g6⟩
  · refine Or.inl ⟨s', t', U', cl', i', ct', z, 0, pl, preX _ g1, g2, ⟨g3, ⟨g4, g5⟩, fun j j1 j2 => absurd j2 (Nat.not_lt.mpr j1), fun i j j1 j2 j3 => absurd (Nat.lt_trans j2 j3) (Nat.not_lt.mpr j1), g6, fun x hx => absurd hx (Nat.not_lt_zero x), g8⟩, ?_, fun _ _ => rfl, g9, g10, g11, g12⟩
    obtain ⟨r, hr⟩ := sgv_of (tkK B n i')
    refine ⟨r, hr, Or.inl ?_⟩
    rcases hr with ⟨-, -, z⟩ | ⟨K, -, -, -, -, -, z, -⟩
    · rw [z]; exact Nat.zero_le _
    · exact z
  · exact Or.inr ⟨s', t', preX _ g1, g2, g3, g4, g5, g6⟩
theorem side_al (hL : levelOK en d' v1 lw q bs u B n V nc nl nt b dp l F) (hl : l ≤ 4) : sideOK en d' v1 lw q bs u B n V nc nl nt b dp l (F + 1) := by
  intro D s t U cl i ct m k pl hD hE hto hcnt hbk
  obtain ⟨e, rfl⟩ : ∃ e, D = e + 1 := ⟨D - 1, by clear hE hL; omega⟩
  have preX : ∀ s', qev en e 134 [.ref 65, .int (nI l), .int (nI dp)] s = some (none, s') → qev en (e + 1) 135 [.ref 65, .int (nI l), .int (nI dp)] s = some (none, s') := fun s' h => by
    refine le_X6_readSide en _ _ _ _ _ ?_
    rw [if_neg (by rw [n_le (by decide) (by omega)]; omega), h, bV_some]
  rcases hL e s t U cl i ct m k pl (by clear hE hL; omega) hE hto hcnt hbk with ⟨s', t', U', cl', i', ct', z, h, pl', g1, g2⟩ | ⟨s', t', g1, g2⟩
  · exact Or.inl ⟨s', t', U', cl', i', ct', z, h, pl', preX _ g1, g2⟩
  · exact Or.inr ⟨s', t', preX _ g1, g2⟩
/-- a level by the sides of the next -/
theorem level_al (hq : plcQ lw q bs) (hl4 : l ≤ 4) (hb : b ≤ 9) (hdp : 1 ≤ dp ∧ dp ≤ 10) (hF : 16 ≤ F) (hS : sideOK en d' v1 lw q bs u B n V nc nl nt b dp (l + 1) F) : levelOK en d' v1 lw q bs u B n V nc nl nt b dp l (F + 1) := by
  intro D s t U cl i ct m k pl hD hE hto hcnt hbk
  obtain ⟨e, rfl⟩ : ∃ e, D = e + 1 := ⟨D - 1, by clear hE hS; omega⟩
  have hto1 : topOK (l + 1) k pl := by
    rcases hto with g | g | g
    · exact Or.inl g
    · exact Or.inr (Or.inl g)
    · exact Or.inr (Or.inr (Nat.le_succ_of_le g))
  have hFe : F ≤ e := by clear hE hS; omega
  have preX : ∀ s2 r, qev en e 135 [.ref 65, .int (nI (l + 1)), .int (nI dp)] s = some (none, s2) → L_X6_readLevel_10 en e (nI l) (nI dp) (nI 0) s2 = some r → qev en (e + 1) 134 [.ref 65, .int (nI l), .int (nI dp)] s = some r := fun s2 r h1 h2 => by
    refine le_X6_readLevel en _ _ _ _ _ ?_
    rw [show nI l + (1 : Int32) = nI (l + 1) from n_ar, h1, bV_some]
    exact h2
  rcases hS e s t U cl i ct m k pl hFe hE hto1 hcnt hbk with ⟨s', t', U', cl', i', ct', z, h, pl', g1, g2, g3, g4, g5, g6, g7, g8, g9⟩ | ⟨s', t', g1, g2, ⟨F', p', g3, g3'⟩, g4, g5, g6⟩
  · have hlo : loL l ≤ l + 1 + 1 := by
      unfold loL
      split <;> omega
    have hto' : topOK l k pl' := by
      by_cases g0 : k = 0
      · exact Or.inl g0
      · have : pl' (k - 1) = pl (k - 1) := g5 (k - 1) (Nat.sub_lt (Nat.pos_of_ne_zero g0) (by decide))
        rcases hto with g | g | g
        · exact Or.inl g
        · exact Or.inr (Or.inl (this.trans g))
        · exact Or.inr (Or.inr (by rw [this]; exact g))
    have hct : 0 < ct' := Nat.lt_of_lt_of_le (Nat.succ_pos ct) g6
    rcases loop_al (en := en) (d' := d') (v1 := v1) hq hl4 hb hdp hF hS 401 e s' t' U' cl' i' ct' z h k m 0 pl' (by clear hE hS g3; omega) hFe (lvS_mono g3 hlo) hto' g4 hbk hct with ⟨s7, t7, U7, cl7, i7, ct7, z7, h7', pl7, r1', r2', r3', r4', r5', r6', r7', r8', r9'⟩ | ⟨s7, t7, r1', r2', r3', r4', r5', r6'⟩
    · exact Or.inl ⟨s7, t7, U7, cl7, i7, ct7, z7, h7', pl7, preX _ _ g1 r1', fun x hx => g2 x (r2' x hx), r3', r4', fun j hj => (r5' j hj).trans (g5 j hj), Nat.le_trans g6 r6', fun w => Nat.le_trans (g7 w) (r7' w), g8.tr r8' (Nat.le_refl m), g9.tr r9' (Nat.le_refl _)⟩
    · exact Or.inr ⟨s7, t7, preX _ _ g1 r1', g2 _ r2', r3', r4', g8.tr r5' (Nat.le_refl m), g9.tr r6' (Nat.le_refl _)⟩
  · refine Or.inr ⟨s', t', preX _ _ g1 ?_, g2, ⟨F', p', g3, g3'⟩, g4, g5, g6⟩
    obtain ⟨f, rfl⟩ : ∃ f, e = f + 1 := ⟨e - 1, by clear hE hS; omega⟩
    refine le_X6_readLevel_10 en _ _ _ _ _ _ ?_
    rw [if_neg (by decide), x_deadLevelOf (dX_kind g3), bI_some, if_pos (fun z => (n_1m (by omega)).mp z)]
theorem levels_al (hq : plcQ lw q bs) (hb : b ≤ dp - 1) (hdp : 1 ≤ dp ∧ dp ≤ 10) (hF : 16 ≤ F) (hO : oneOK en d' v1 lw q bs u B n V nc nl nt dp F) : ∀ j, j ≤ 4 → levelOK en d' v1 lw q bs u B n V nc nl nt b dp (4 - j) (F + 2 * j + 2) := by
  have hb9 : b ≤ 9 := by clear hO; omega
  intro j
  induction j with
  | zero => intro _; exact level_al hq (Nat.le_refl 4) hb9 hdp (by clear hO; omega) (side5_al hq hO hb)
  | succ j ih =>
    intro hj
    have h1 := side_al (ih (by clear hO ih; omega)) (Nat.sub_le 4 j)
    rw [show 4 - j = 4 - (j + 1) + 1 by clear hO ih; omega] at h1
    exact level_al hq (Nat.sub_le 4 (j + 1)) hb9 hdp (by clear hO ih; omega) h1
/-- operands are alike -/
theorem one_al (hq : plcQ lw q bs) (hB : ∀ j, j < n → B j < 256) : ∀ g dp, dp + g = 10 → 1 ≤ dp → oneOK en d' v1 lw q bs u B n V nc nl nt dp (11 * g + 16) := by
  intro g
  induction g with
  | zero =>
    intro dp hg hdp b D s t U cl i ct m k pl hD hE hcnt hbk hb he
    obtain ⟨e, rfl⟩ : ∃ e, D = e + 4 := ⟨D - 4, by clear hE; omega⟩
    rcases head_al (en := en) (d := e) (d' := d' + 3) (v1 := v1) (v2 := nI b) hE hB ⟨hdp, by omega⟩ with ⟨s', t', g1, g2, g3, g4, g5⟩ | ⟨_, g, _⟩
    · have hc := hE.2.2.2.2.1.2.2
      refine Or.inr ⟨s', t', g1, g2, g3, mEnd_tk hq.qq (mEnd_0 hE hq (by clear hE g3; omega)) (tnF.bm g4), rxF.bm g4 hq.qq, rmF.mv g5⟩
    · omega
  | succ g ih =>
    intro dp hg hdp b D s t U cl i ct m k pl hD hE hcnt hbk hb he
    obtain ⟨e, rfl⟩ : ∃ e, D = e + 8 := ⟨D - 8, by clear hE ih; omega⟩
    have hI := ih (dp + 1) (by clear hE ih; omega) (by clear hE ih; omega)
    have hdp10 : 1 ≤ dp ∧ dp ≤ 10 := by clear hE ih hI; omega
    have hF1 : 11 * g + 16 ≤ e + 6 := by clear hE ih hI; omega
    have hF2 : 11 * g + 16 + 2 * 4 + 2 ≤ e + 7 := by clear hE ih hI; omega
    rcases head_al (en := en) (d := e + 4) (d' := d' + 3) (v1 := v1) (v2 := nI b) hE hB hdp10 with ⟨s', t', g1, g2, g3, g4, g5⟩ | ⟨hbg, h9, h138, hX, hM⟩
    · have hc := hE.2.2.2.2.1.2.2
      refine Or.inr ⟨s', t', g1, g2, g3, mEnd_tk hq.qq (mEnd_0 hE hq (by clear hE g3 ih hI; omega)) (tnF.bm g4), rxF.bm g4 hq.qq, rmF.mv g5⟩
    · have hb9 : b ≤ 9 := by clear hE ih hI hX hM; omega
      by_cases z1 : tkK B n i = 40
      · exact one_par (by clear hE ih hI hX hM; omega) (levels_al hq (by clear hE ih hI hX hM; omega) (by clear hE ih hI hX hM; omega) (by clear hE ih hI hX hM; omega) hI 4 (Nat.le_refl 4)) hF2 hE hq hcnt hbk hb ⟨hdp, h9⟩ he z1 hX hM
      · by_cases z2 : tkK B n i = 45 ∨ tkK B n i = 33
        · exact one_pre hI hF1 hE hq hcnt hbk hb ⟨hdp, h9⟩ he z2 hX hM
        · exact one_opd (d0 := e + 5) hE hq hB hcnt hbk hb9 he hbg ⟨z1, fun z => z2 (Or.inl z), fun z => z2 (Or.inr z)⟩ h138 hX hM
end EXB
