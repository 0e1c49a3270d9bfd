/-! THE READER: cells, locks, threads declared, on both sides. -/
section RDC
variable {en : pN} {d d' k i i' n N j x y c u v q nc nc' nl nl' nt nt' m D : Nat} {V V' cl cl' th K : Nat → Nat} {U : Nat → Nat → Nat} {bl : Nat → List Nat} {s s' s'' t t' t'' : qS} {B : Nat → Nat} {w z : Int32} {W : Int64}
theorem x_addCell (h9 : s.1 11 9 = nI c) (hc : c < 8) : qev en (d + 1) 95 [.ref 11, .long (Int64.ofNat v)] s = some (some (.int (nI c)), ncX s c v) := by
  have e11 : lc 11 = 5 := rfl
  refine le_X5_addCell en _ _ _ _ _ ?_
  rw [gd_true e11, h9, gd_in (by omega) (by decide), n_cl (by omega), nm_eq, show (uJ s (11 + 1) c (Int64.ofNat v)).1 11 9 = nI c from h9, gd_in (by omega) (by decide), n_cl (by omega), nm_eq, show (uI (uJ s (11 + 1) c (Int64.ofNat v)) (11 + 4) c 0).1 11 9 = nI c from by rw [uI_ne (by decide)]; exact h9, show nI c + (1 : Int32) = nI (c + 1) from n_ar, nm_eq]
  have e : (ncX s c v).1 11 9 - (1 : Int32) = nI c := by
    rw [show (ncX s c v).1 11 9 = nI (c + 1) from rdW]
    exact n_sr (by omega)
  show some (some (Value.int ((ncX s c v).1 11 9 - (1 : Int32))), ncX s c v) = _
  rw [e]
theorem rdL_st (h : rdL s t B n i) (h1 : ∀ a, a = 1 ∨ a = 4 ∨ a = 5 → s'.1 a = s.1 a) (h2 : ∀ j, j = 11 ∨ j = 12 → s'.1 65 j = s.1 65 j) (h3 : ∀ a, a = 1 ∨ a = 3 ∨ a = 6 → s'.2.1 a = s.2.1 a) (g1 : ∀ j, j < 9 → t'.1 151 j = t.1 151 j) (g2 : t'.1 152 = t.1 152) (g3 : t'.2.1 151 = t.2.1 151) : rdL s' t' B n i := ⟨cL_fr h.1 (fun _ _ => by rw [h1 1 (Or.inl rfl)]) (h1 4 (Or.inr (Or.inl rfl))) (h1 5 (Or.inr (Or.inr rfl))) (by rw [h3 1 (Or.inl rfl)]) (h3 3 (Or.inr (Or.inl rfl))) (h3 6 (Or.inr (Or.inr rfl))) h2, mtL_fr h.2 g1 g2 (by rw [g3])⟩
theorem rdL_nc (h : rdL s t B n i) : rdL (ncX s c v) (ncM t c v) B n i := by
  unfold ncX ncM
  refine rdL_st h (fun a ha => by rw [uI_ne (by omega), uI_ne (by omega)]; rfl) (fun j _ => by rw [uI_ne (by decide), uI_ne (by decide)]; rfl) (fun a ha => uJ_ne (by omega)) (fun j hj => ?_) ?_ (uJ_ne (by decide))
  · rw [rdU, if_neg (by omega), uI_ne (by decide), uI_ne (by decide)]; rfl
  · rw [uI_ne (by decide), uI_ne (by decide), uI_ne (by decide)]; rfl
theorem rdL_nl (h : rdL s t B n i) : rdL (nlX s c v) (nlM t c v) B n i := by
  unfold nlX nlM
  refine rdL_st h (fun a ha => by rw [uI_ne (by omega)]; rfl) (fun j _ => by rw [uI_ne (by decide)]; rfl) (fun a ha => uJ_ne (by omega)) (fun j hj => ?_) ?_ (uJ_ne (by decide))
  · rw [rdU, if_neg (by omega)]; rfl
  · rw [uI_ne (by decide)]; rfl
theorem rdL_nt (h : rdL s t B n i) : rdL (ntX s c v) (ntM t c v) B n i := by
  unfold ntX ntM
  refine rdL_st h (fun a ha => by rw [uI_ne (by omega), uI_ne (by omega), uI_ne (by omega)]; rfl) (fun j hj => by rw [rdU, if_neg (by omega), uI_ne (by decide), uI_ne (by decide)]; rfl) (fun a ha => uJ_ne (by omega)) (fun j hj => ?_) ?_ (uJ_ne (by decide))
  · rw [rdU, if_neg (by omega), uI_ne (by decide), uI_ne (by decide), uI_ne (by decide)]; rfl
  · rw [uI_ne (by decide), uI_ne (by decide), uI_ne (by decide), uI_ne (by decide)]; rfl
theorem tqX_nc : tqX s (ncX s c v) := (((tqX.uj (Or.inl rfl)).tr (tqX.ui (by decide))).tr (tqX.ui (by decide)))
theorem tqM_nc : tqM t (ncM t c v) := ((((tqM.uj (by decide)).tr (tqM.ui (by decide))).tr (tqM.ui (by decide))).tr (tqM.uf rfl))
theorem tqX_nl : tqX s (nlX s c v) := ((tqX.uj (Or.inl rfl)).tr (tqX.ui (by decide)))
theorem tqM_nl : tqM t (nlM t c v) := ((tqM.uj (by decide)).tr (tqM.uf rfl))
theorem tqX_nt : tqX s (ntX s c v) := ((((tqX.uj (Or.inl rfl)).tr (tqX.ui (by decide))).tr (tqX.ui (by decide))).tr (tqX.uf (by decide)))
theorem tqM_nt : tqM t (ntM t c v) := (((((tqM.uj (by decide)).tr (tqM.ui (by decide))).tr (tqM.ui (by decide))).tr (tqM.ui (by decide))).tr (tqM.uf rfl))
/-- a cell -/
theorem readCell_al (hB : ∀ j, j < n → B j < 256) (h1 : rdL s t B n i) (h2 : tpS s t V U cl nc nl nt m N th K bl) : ∃ s' t' V', qev en (d + 5) 119 [.ref 65] s = some (none, s') ∧ qev en (d' + 5) 287 [.ref 151] t = some (none, t') ∧ tqX s s' ∧ tqM t t' ∧ tpL B n s' t' V' U cl (nc + 1) nl nt m N th K bl := by
  obtain ⟨hn, -⟩ := id h2
  have hb3 := hn.1
  have h9 := hn.2.1.1
  have h12 := hn.2.2.1.1
  have pM : ∀ r, L_X12_readCell_15 en (d' + 4) (bt (decide (nc < 8))) t = some r → qev en (d' + 5) 287 [.ref 151] t = some r := fun r hr => by
    refine le_X12_readCell en _ _ _ ?_
    rw [h12]
    by_cases q : nc < 8
    · rw [if_neg (by rw [n_le (by decide) (by omega)]; omega)]
      rw [decide_eq_true q] at hr; exact hr
    · rw [if_pos (by rw [n_le (by decide) (by omega)]; omega)]
      rw [decide_eq_false q] at hr; exact hr
  rcases isNew_al (en := en) (d := d) (d' := d') (a := nc) (mx := 8) h1 hn hB (by omega) (by decide) with ⟨a1, a2, a3, a4, a5, -⟩ | ⟨s', t', a1, a2, -, a4, a5, a6⟩
  · obtain ⟨hc, hm⟩ := id h1
    obtain ⟨hi, c1, c2, c3⟩ := cL_at hc
    obtain ⟨⟨mX, mn, -⟩, m7, m4, mk1, m2, m3, m5, m6⟩ := id hm
    have hv := tk_val (B := B) (n := n) hi
    have hv0 := word_pos hB hi (Or.inl a1)
    have cw := c3 (by omega)
    have mw := m5 (Or.inl a1)
    generalize hval : (tkN B n i).2.2.1 = v at *
    have hS := tpS_cell h2 a2 hv hv0 a3
    have hL := rdL_nc (c := nc) (v := v) h1
    have e95 := x_addCell (en := en) (d := d + 3) (v := v) h9 a2
    obtain ⟨s1, t1, e1, e2, e3, e4, e5⟩ := adv_al (en := en) (d := d + 3) (d' := d' + 1) hL (by omega)
    have f1 : tqX s s1 := tqX_nc.tr (tqX.tk (tnF.ad e3))
    have f2 : tqM t t1 := tqM_nc.tr (tqM.mv e4)
    have n12 : (ncM t nc v).1 151 12 = nI (nc + 1) := rdW
    have t12 : t1.1 151 12 = nI (nc + 1) := by rw [e4.2.1 12 (by decide) (by decide) (by decide) (by decide) (by decide) (by decide)]; exact n12
    have qX : ∀ r, bI (qev en (d + 4) 116 [.ref 65, .int (318 : Int32)] s1) (fun w11 s12 => if w11 = (0 : Int32) then L_X6_readCell_64 en (d + 4) (nI nc) s12 else nm (uI s12 11 7 ((s12.1 11 7) ||| ((1 : Int32) <<< ((nI nc) &&& 31)))) (fun s15 => L_X6_readCell_64 en (d + 4) (nI nc) s15)) = some r → qev en (d + 5) 119 [.ref 65] s = some r := fun r hr => by
      refine le_X6_readCell en _ _ _ ?_
      rw [h9, show qev en (d + 4) 118 [.ref 65, .int (nI nc), .int (8 : Int32)] s = _ from a4, bI_some, if_pos (by decide), cw, show qev en (d + 4) 95 [.ref 11, .long (Int64.ofNat v)] s = _ from e95, bI_some, show qev en (d + 4) 167 [.ref 1] (ncX s nc v) = _ from e1, bV_some]
      exact hr
    have qM : ∀ r, bI (qev en (d' + 4) 243 [.ref 151] t1) (fun w18 s19 => if w18 = (0 : Int32) then L_X12_readCell_106 en (d' + 4) s19 else bI (qev en (d' + 4) 255 [.ref 151, .long (8534158984711072869 : Int64)] s19) (fun w22 s23 => if w22 = (0 : Int32) then L_X12_readCell_106 en (d' + 4) s23 else gd (p_inB ((s23.1 151 12) - (1 : Int32)) 8 = true) (nm (uI s23 155 (((s23.1 151 12) - (1 : Int32)).toNatClampNeg) (vp_nar .boolean (1 : Int32))) (fun s27 => bV (qev en (d' + 4) 249 [.ref 151] s27) (fun s29 => L_X12_readCell_106 en (d' + 4) s29))))) = some r → qev en (d' + 5) 287 [.ref 151] t = some r := fun r hr => pM r (by
      refine le_X12_readCell_15 en _ _ _ _ ?_
      rw [a5, bV_some, m_goodL m7, bI_some, if_pos (by decide), h12, gd_in a2 (by decide), n_cl (by omega), mw, nm_eq, show (uJ t 153 nc (Int64.ofNat (w8 8 v))).1 151 12 = nI nc from h12, gd_in a2 (by decide), n_cl (by omega), nm_eq, show (uI (uJ t 153 nc (Int64.ofNat (w8 8 v))) 154 nc 0).1 151 12 = nI nc from by rw [uI_ne (by decide)]; exact h12, gd_in a2 (by decide), n_cl (by omega), nar0, nm_eq, show (uI (uI (uJ t 153 nc (Int64.ofNat (w8 8 v))) 154 nc 0) 155 nc 0).1 151 12 = nI nc from by rw [uI_ne (by decide), uI_ne (by decide)]; exact h12, show nI nc + (1 : Int32) = nI (nc + 1) from n_ar, nm_eq, show qev en (d' + 4) 249 [.ref 151] (uI (uI (uI (uJ t 153 nc (Int64.ofNat (w8 8 v))) 154 nc 0) 155 nc 0) 151 12 (nI (nc + 1))) = _ from e2, bV_some]
      exact hr)
    have plain : qev en (d + 4) 116 [.ref 65, .int (318 : Int32)] s1 = some (some (.int 0), s1) → tpL B n s1 t1 (at1 V nc v) U cl (nc + 1) nl nt m N th K bl → (∀ r, L_X12_readCell_106 en (d' + 4) t1 = some r → qev en (d' + 5) 287 [.ref 151] t = some r) → ∃ s' t' V', qev en (d + 5) 119 [.ref 65] s = some (none, s') ∧ qev en (d' + 5) 287 [.ref 151] t = some (none, t') ∧ tqX s s' ∧ tqM t t' ∧ tpL B n s' t' V' U cl (nc + 1) nl nt m N th K bl := fun g1 g2 g3 => by
      obtain ⟨s', t', b1, b2, b3, b4, b5⟩ := cellE_al (en := en) (d := d) (d' := d') hB g2 t12 a2
      refine ⟨s', t', at1 V nc v, qX _ ?_, g3 _ b2, f1.tr b3, f2.tr b4, b5⟩
      rw [g1, bI_some, if_pos rfl]; exact b1
    rcases e5 with e5 | e5
    · obtain ⟨hc', hm'⟩ := id e5
      have m7' := hm'.2.1
      have hS1 := tpS_tk hS (tnF.ad e3) e4
      obtain ⟨sk0, sk1⟩ := x_116 (en := en) (k := 318) hc' ⟨by decide, by decide⟩
      have e255 := m_isKeyW (en := en) (d := d' + 3) (j := 18) (C := 8534158984711072869) hB hm' (by decide) (by decide +kernel)
      by_cases q : tkK B n (i + 1) = 318
      · obtain ⟨s2, t2, b1, b2, b3, b4, b5⟩ := adv_al (en := en) (d := d + 2) (d' := d' + 1) (rdL_mi (a := 155) (j := nc) (w := 1) e5 (by decide) (by decide)) (by omega)
        have k7 : s2.1 11 7 = s1.1 11 7 := by rw [b3.1 11 (by decide)]
        have L : tpL B n (uI s2 11 7 (s1.1 11 7 ||| ((1 : Int32) <<< (nI nc &&& 31)))) t2 (at1 V nc v) U cl (nc + 1) nl nt m N th K bl := by
          rcases b5 with b5 | b5
          · exact Or.inl ⟨i + 1 + 1, rdL_xi b5 (by decide) (by decide) (by decide) (by decide), tpS_tk (tpS_vol hS1 (Nat.lt_succ_self nc)) (tnF_ui (tnF.ad b3) (by decide) (by decide)) b4⟩
          · exact Or.inr (rdD_ui b5 (by decide) (by decide))
        obtain ⟨s', t', g1, g2, g3, g4, g5⟩ := cellE_al (en := en) (d := d) (d' := d') hB L (by rw [b4.2.1 12 (by decide) (by decide) (by decide) (by decide) (by decide) (by decide), uI_ne (by decide)]; exact t12) a2
        refine ⟨s', t', at1 V nc v, qX _ ?_, qM _ ?_, ((f1.tr (tqX.tk (tnF.ad b3))).tr (tqX.ui (by decide))).tr g3, ((f2.tr (tqM.ui (by decide))).tr (tqM.mv b4)).tr g4, g5⟩
        · rw [show qev en (d + 4) 116 [.ref 65, .int (318 : Int32)] s1 = _ from sk1 q (d + 3) s2 b1, bI_some, if_neg (by decide), k7, nm_eq]
          exact g1
        · rw [m_goodL m7', bI_some, if_neg (by decide), show qev en (d' + 4) 255 [.ref 151, .long (8534158984711072869 : Int64)] t1 = _ from e255, bI_some, if_neg (by rw [decide_eq_true q]; decide), t12, show nI (nc + 1) - (1 : Int32) = nI nc from n_sr (by omega), gd_in a2 (by decide), n_cl (by omega), nar1, nm_eq, show qev en (d' + 4) 249 [.ref 151] (uI t1 155 nc 1) = _ from b2, bV_some]
          exact g2
      · refine plain (sk0 q (d + 3)) (Or.inl ⟨i + 1, e5, hS1⟩) (fun r hr => qM r ?_)
        rw [m_goodL m7', bI_some, if_neg (by decide), show qev en (d' + 4) 255 [.ref 151, .long (8534158984711072869 : Int64)] t1 = _ from e255, bI_some, if_pos (by rw [decide_eq_false q]; rfl)]
        exact hr
    · obtain ⟨F, p, z1, z2⟩ := id e5
      refine plain (x_deadSkip (d := d + 3) (m := 318) z1 ⟨by decide, by decide⟩) (Or.inr e5) (fun r hr => qM r ?_)
      rw [m_goodD z2, bI_some, if_pos rfl]
      exact hr
  · obtain ⟨F, p, z1, z2⟩ := id a4
    refine ⟨s', t', V, le_X6_readCell en _ _ _ ?_, pM _ (le_X12_readCell_15 en _ _ _ _ ?_), tqX.bm a5, tqM.mv a6, Or.inr a4⟩
    · rw [h9, show qev en (d + 4) 118 [.ref 65, .int (nI nc), .int (8 : Int32)] s = _ from a1, bI_some, if_neg (not_not_intro rfl)]
    · rw [a2, bV_some, m_goodD z2, bI_some, if_neg (not_not_intro rfl)]
/-- a lock -/
theorem readLock_al (hB : ∀ j, j < n → B j < 256) (h1 : rdL s t B n i) (h2 : tpS s t V U cl nc nl nt m N th K bl) : ∃ s' t' V', qev en (d + 5) 120 [.ref 65] s = some (none, s') ∧ (∀ r, L_X12_program_71 en (d' + 4) t' = some r → L_X12_program_134 en (d' + 4) (bt (decide (nl < 4))) t = some r) ∧ tqX s s' ∧ tqM t t' ∧ tpL B n s' t' V' U cl nc (nl + 1) nt m N th K bl := by
  obtain ⟨hn, -⟩ := id h2
  have hb3 := hn.1
  have h10 := hn.2.1.2.1
  have h16 := hn.2.2.1.2.1
  rcases isNew_al (en := en) (d := d) (d' := d') (a := nl) (mx := 4) h1 hn hB (by omega) (by decide) with ⟨a1, a2, a3, a4, a5, -⟩ | ⟨s', t', a1, a2, -, a4, a5, a6⟩
  · obtain ⟨hc, hm⟩ := id h1
    obtain ⟨hi, c1, c2, c3⟩ := cL_at hc
    obtain ⟨⟨mX, mn, -⟩, m7, m4, mk1, m2, m3, m5, m6⟩ := id hm
    have hv := tk_val (B := B) (n := n) hi
    have hv0 := word_pos hB hi (Or.inl a1)
    have cw := c3 (by omega)
    have mw := m5 (Or.inl a1)
    generalize hval : (tkN B n i).2.2.1 = v at *
    have hS := tpS_lock h2 a2 hv hv0 a3
    have hL := rdL_nl (c := nl) (v := v) h1
    have e11 : lc 11 = 5 := rfl
    have e96 : qev en (d + 4) 96 [.ref 11, .long (Int64.ofNat v)] s = some (none, nlX s nl v) := by
      refine le_X5_addLock en _ _ _ _ _ ?_
      rw [gd_true e11, h10, show (8 : Int32) + nI nl = nI (8 + nl) from n_al, gd_in (by omega) (by decide), n_cl (by omega), nm_eq, show (uJ s (11 + 1) (8 + nl) (Int64.ofNat v)).1 11 10 = nI nl from h10, show nI nl + (1 : Int32) = nI (nl + 1) from n_ar, nm_eq]
      rfl
    obtain ⟨s1, t1, e1, e2, e3, e4, e5⟩ := adv_al (en := en) (d := d + 3) (d' := d' + 1) hL (by omega)
    have L : tpL B n s1 t1 (at1 V (8 + nl) v) U cl nc (nl + 1) nt m N th K bl := by
      rcases e5 with e5 | e5
      · exact Or.inl ⟨i + 1, e5, tpS_tk hS (tnF.ad e3) e4⟩
      · exact Or.inr e5
    obtain ⟨s2, t2, g1, g2, g3, g4, g5⟩ := semi_al (en := en) (d := d + 2) (d' := d') L
    refine ⟨s2, t2, _, le_X6_readLock en _ _ _ ?_, fun r hr => le_X12_program_134 en _ _ _ _ ?_, (tqX_nl.tr (tqX.tk (tnF.ad e3))).tr g3, (tqM_nl.tr (tqM.mv e4)).tr g4, g5⟩
    · rw [h10, show qev en (d + 4) 118 [.ref 65, .int (nI nl), .int (4 : Int32)] s = _ from a4, bI_some, if_neg (by decide), cw, e96, bV_some, show qev en (d + 4) 167 [.ref 1] (nlX s nl v) = _ from e1, bV_some, g1, bV_some]
    · rw [a5, bV_some, m_goodL m7, bI_some, if_neg (by decide), h16, gd_in a2 (by decide), n_cl (by omega), mw, nm_eq, show (uJ t 156 nl (Int64.ofNat (w8 8 v))).1 151 16 = nI nl from h16, show nI nl + (1 : Int32) = nI (nl + 1) from n_ar, nm_eq]
      refine le_X12_program_167 en _ _ _ ?_
      rw [show qev en (d' + 4) 249 [.ref 151] (uI (uJ t 156 nl (Int64.ofNat (w8 8 v))) 151 16 (nI (nl + 1))) = _ from e2, bV_some, g2, bV_some]
      exact hr
  · obtain ⟨F, p, z1, z2⟩ := id a4
    refine ⟨s', t', V, le_X6_readLock en _ _ _ ?_, fun r hr => le_X12_program_134 en _ _ _ _ ?_, tqX.bm a5, tqM.mv a6, Or.inr a4⟩
    · rw [h10, show qev en (d + 4) 118 [.ref 65, .int (nI nl), .int (4 : Int32)] s = _ from a1, bI_some, if_pos rfl]
    · rw [a2, bV_some, m_goodD z2, bI_some, if_pos rfl]
      refine le_X12_program_167 en _ _ _ ?_
      rw [show d' + 4 = d' + 2 + 2 from rfl, m_nextD z2, bV_some, show d' + 2 + 2 = d' + 1 + 3 from rfl, endD_m z2, bV_some]
      exact hr
end RDC
