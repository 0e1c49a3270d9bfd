/-! THE READER: a thread on both sides. -/
section RDT
variable {en : pN} {d d' k i i' n N j x y c u v q nc nc' nl nl' nt nt' m D b : Nat} {V V' cl cl' th K : Nat → Nat} {U : Nat → Nat → Nat} {bl : Nat → List Nat} {s s' s'' t t' t'' : qS} {B : Nat → Nat} {w z : Int32} {W : Int64} {F p : Nat}
theorem tpS_pr (h : prR u B n s t V U cl nc nl nt i m N th K bl b) (hc : clR s t nc) (hl : laR s t nt) (hel : elI bl t 0 N) : tpS s t V U cl nc nl nt m N th K bl := by
  obtain ⟨⟨-, hn, hf, ⟨h7, -⟩, h13, h3, h25⟩, ⟨h12, h32, hN⟩, hln, hG, -, hW⟩ := h
  exact ⟨hn, ⟨hf, h7, h13, h3, by rw [h25, Nat.zero_add]⟩, ⟨h12, h32, hN, hel⟩, hln, hG, hW, hc, hl⟩
theorem pr_tpS (hR : rdL s t B n i) (h : tpS s t V U cl nc nl (u + 1) m N th K bl) (h14 : s.1 65 14 = nI u) : prR u B n s (uI t 151 56 (nI b)) V U cl nc nl (u + 1) i m N th K bl b := by
  obtain ⟨hn, ⟨hf, h7, h13, h3, h25⟩, ⟨h12, h32, hN, -⟩, hln, hG, hW, -, -⟩ := h
  have hE : exS false 7 0 u B n s t V U cl nc nl (u + 1) i m := ⟨hR, hn, hf, ⟨h7, fun _ => ⟨h14, rfl⟩⟩, h13, h3, by rw [Nat.zero_add]; exact h25⟩
  have e : ∀ a, 161 ≤ a → a < 184 → (uI t 151 56 (nI b)).1 a = t.1 a := fun a h _ => uI_ne (by omega)
  exact ⟨exS_mf hE (Or.inr rfl), ⟨h12, by rw [rdU, if_neg (by decide)]; exact h32, hN⟩, fun i hi => lnB_mr (hln i hi) e rfl, lnG_mr hG e, rdW, hW⟩
/-- the block of a thread -/
theorem body_al (hB : ∀ j, j < n → B j < 256) (h : tpL B n s t V U cl nc nl (nt + 1) m N th K bl) (h14 : s.1 65 14 = nI nt) (hbl : bl nt = []) (hnt : nt < 4) : ∃ (s' t' : qS) (U' : Nat → Nat → Nat) (cl' : Nat → Nat) (m' N' : Nat) (th' K' : Nat → Nat) (bl' : Nat → List Nat), L_X6_readThread_68 en (d + 163) s = some (none, s') ∧ L_X12_readThread_175 en (d' + 16) t = some (none, t') ∧ tqX s s' ∧ tqM t t' ∧ tpL B n s' t' V U' cl' nc nl (nt + 1) m' N' th' K' bl' := by
  have hu : tqM t (uI t 151 56 (0 : Int32)) := tqM.uf rfl
  have pX : ∀ s', qev en (d + 163) 122 [.ref 65, .int (1 : Int32), .int (-1 : Int32), .int (0 : Int32)] s = some (none, s') → L_X6_readThread_68 en (d + 163) s = some (none, s') := fun s' g => by
    refine le_X6_readThread_68 en _ _ _ ?_
    rw [g, bV_some]
  have pM : ∀ t', bV (qev en (d' + 16) 274 [.ref 151, .int (-2 : Int32), .int (0 : Int32)] (uI t 151 56 (0 : Int32))) (fun s => L_X12_readBlocks_0 en (d' + 15) s) = some (none, t') → L_X12_readThread_175 en (d' + 16) t = some (none, t') := fun t' g => by
    obtain ⟨t1, g1, g2⟩ := bV_out g
    refine le_X12_readThread_175 en _ _ _ ?_
    rw [nm_eq, g1, bV_some, show qev en (d' + 16) 284 [.ref 151] t1 = some (none, t') from le_X12_readBlocks en _ _ _ g2, bV_some]
  rcases h with ⟨i, h1, h2⟩ | h
  · have hP : prR nt B n s (uI t 151 56 (0 : Int32)) V U cl nc nl (nt + 1) i m N th K bl 0 := pr_tpS h1 h2 h14
    have hc := h2.2.2.2.2.2.2.1
    have hl := h2.2.2.2.2.2.2.2
    rcases block_ok (en := en) (d' := d') (V := V) (nc := nc) (nl := nl) (nt := nt + 1) (u := nt) hB 9 0 rfl (d + 163) (d' + 16) s (uI t 151 56 (0 : Int32)) U cl i m N th K bl nt (-1) (-2) 0 (by omega) (by omega) hP (Or.inl ⟨hnt, rfl, rfl, rfl⟩) (Or.inl (Nat.lt_succ_self nt)) hbl with ⟨s2, t2, U2, cl2, i2, m2, N2, th2, K2, bl2, a1, a2, a3, a4⟩ | ⟨s2, t2, a1, a2, a3, a4, a5⟩
    · have wX := a4.2.2.2.2.2.1
      have wM := a4.2.2.2.2.2.2
      have m7 := a3.1.1.2.2.1
      have h56 := a3.2.2.2.2.1
      refine ⟨s2, t2, U2, cl2, m2, N2, th2, K2, bl2, pX s2 a1, pM t2 (a2 _ ?_), tqX.wk wX, hu.tr (tqM.wk wM), Or.inl ⟨i2, a3.1.1, tpS_pr a3 ?_ ?_ ?_⟩⟩
      · show bI _ _ = _
        rw [m_goodL m7, bI_some, if_neg (by decide), if_pos rfl]
        refine le_X12_readBlocks_0 en _ _ _ ?_
        rw [m_goodL m7, bI_some, if_neg (by decide), h56, if_pos (by decide)]
      · exact clR_eq hc (wX.1 15 (by decide) (by decide) (by decide) (by decide)) (wX.2.2.1.2 7 (by decide)) (by rw [wM.1 154 (by decide) (by decide), uI_ne (by decide)]) (by rw [wM.1 155 (by decide) (by decide), uI_ne (by decide)])
      · exact laR_eq hl (wX.2.2.1.2 8 (by decide)) (by rw [wM.1 158 (by decide) (by decide), uI_ne (by decide)])
      · intro p p1 p2 p3
        by_cases q : p < N
        · rw [a4.2.2.1 (5 + 2 * p) (by omega) (by omega)] at p3
          rw [a4.2.2.2.2.1 p q, uI_ne (show 164 ≠ 151 by decide)]
          exact h2.2.2.1.2.2.2 p p1 q p3
        · exact a4.1.2.2.2 p (by omega) p2 p3
    · exact ⟨s2, t2, U, cl, m, N, th, K, bl, pX s2 a1, pM t2 a2, tqX.wk a4, hu.tr (tqM.wk a5), Or.inr a3⟩
  · obtain ⟨F, p, z1, z2⟩ := id h
    obtain ⟨s', y1, y2, y3⟩ := xD_122 (en := en) (d := d + 159) (dp := 1) (pa := -1) (pt := 0) z1
    have z3 : mtD (uI t 151 56 (0 : Int32)) F p := mtD_fr z2 (by rw [rdU, if_neg (by decide)]) (by rw [rdU, if_neg (by decide)])
    refine ⟨s', uI t 151 56 (0 : Int32), U, cl, m, N, th, K, bl, pX s' y1, pM _ ?_, tqX.bm y2, hu, Or.inr ⟨F, p, y3, z3⟩⟩
    rw [show d' + 16 = d' + 13 + 3 from rfl, m_274D z3, bV_some]
    exact m_L0D (d := d' + 14) z3
/-- a thread -/
theorem readThread_al (hB : ∀ j, j < n → B j < 256) (h1 : rdL s t B n i) (h2 : tpS s t V U cl nc nl nt m N th K bl) : ∃ (s' t' : qS) (V' : Nat → Nat) (U' : Nat → Nat → Nat) (cl' : Nat → Nat) (m' N' : Nat) (th' K' : Nat → Nat) (bl' : Nat → List Nat), qev en (d + 164) 121 [.ref 65] s = some (none, s') ∧ qev en (d' + 17) 288 [.ref 151] t = some (none, t') ∧ tqX s s' ∧ tqM t t' ∧ tpL B n s' t' V' U' cl' nc nl (nt + 1) m' N' th' K' bl' := by
  obtain ⟨hn, -⟩ := id h2
  have hb3 := hn.1
  have h11 := hn.2.1.2.2
  have h18 := hn.2.2.1.2.2
  have e11 : lc 11 = 5 := rfl
  rcases isNew_al (en := en) (d := d + 159) (d' := d' + 13) (a := nt) (mx := 4) h1 hn hB (by omega) (by decide) with ⟨a1, a2, a3, a4, -, a5⟩ | ⟨s', t', a1, -, a2, a4, a5, a6⟩
  · obtain ⟨hc, hm⟩ := id h1
    obtain ⟨hi, c1, c2, c3⟩ := cL_at hc
    obtain ⟨⟨mX, mn, -⟩, m7, m4, mk1, m2, m3, m5, m6⟩ := id hm
    have hv := tk_val (B := B) (n := n) hi
    have hv0 := word_pos hB hi (Or.inl a1)
    have cw := c3 (by omega)
    have mw := m5 (Or.inl a1)
    have a5' := a5 rfl rfl
    generalize hval : (tkN B n i).2.2.1 = v at *
    obtain ⟨hS, h14, hbl⟩ := tpS_thread h2 a2 hv hv0 a3
    have hL := rdL_nt (c := nt) (v := v) h1
    have e97 : qev en (d + 163) 97 [.ref 11, .long (Int64.ofNat v)] s = some (some (.int (nI nt)), uI (uI (uJ s 12 (12 + nt) (Int64.ofNat v)) 16 nt (-1)) 11 11 (nI (nt + 1))) := by
      refine le_X5_addThread en _ _ _ _ _ ?_
      rw [gd_true e11, h11, show (12 : Int32) + nI nt = nI (12 + nt) from n_al, gd_in (by omega) (by decide), n_cl (by omega), nm_eq, show (uJ s (11 + 1) (12 + nt) (Int64.ofNat v)).1 11 11 = nI nt from h11, gd_in (by omega) (by decide), n_cl (by omega), nm_eq, show (uI (uJ s (11 + 1) (12 + nt) (Int64.ofNat v)) (11 + 5) nt (-1)).1 11 11 = nI nt from by rw [uI_ne (by decide)]; exact h11, show nI nt + (1 : Int32) = nI (nt + 1) from n_ar, nm_eq]
      have e : (uI (uI (uJ s 12 (12 + nt) (Int64.ofNat v)) 16 nt (-1)) 11 11 (nI (nt + 1))).1 11 11 - (1 : Int32) = nI nt := by
        rw [rdW]
        exact n_sr (by omega)
      show some (some (Value.int ((uI (uI (uJ s 12 (12 + nt) (Int64.ofNat v)) 16 nt (-1)) 11 11 (nI (nt + 1))).1 11 11 - (1 : Int32))), _) = _
      rw [e]
    obtain ⟨s1, t1, e1, e2, e3, e4, e5⟩ := adv_al (en := en) (d := d + 162) (d' := d' + 13) hL (by omega)
    have f1 : tqX s s1 := tqX_nt.tr (tqX.tk (tnF.ad e3))
    have f2 : tqM t t1 := tqM_nt.tr (tqM.mv e4)
    have n18 : (ntM t nt v).1 151 18 = nI (nt + 1) := rdW
    have t18 : t1.1 151 18 = nI (nt + 1) := by rw [e4.2.1 18 (by decide) (by decide) (by decide) (by decide) (by decide) (by decide)]; exact n18
    have s14 : s1.1 65 14 = nI nt := by rw [e3.1 65 (by decide)]; exact h14
    have qX : ∀ r, bI (qev en (d + 163) 116 [.ref 65, .int (320 : Int32)] s1) (fun w12 s13 => if w12 = (0 : Int32) then L_X6_readThread_68 en (d + 163) s13 else nm (uI s13 11 8 ((s13.1 11 8) ||| ((1 : Int32) <<< ((s13.1 65 14) &&& 31)))) (fun s16 => L_X6_readThread_68 en (d + 163) s16)) = some r → qev en (d + 164) 121 [.ref 65] s = some r := fun r hr => by
      refine le_X6_readThread en _ _ _ ?_
      rw [h11, show qev en (d + 163) 118 [.ref 65, .int (nI nt), .int (4 : Int32)] s = _ from a4, bI_some, if_neg (by decide), cw, e97, bI_some, nm_eq, show qev en (d + 163) 167 [.ref 1] (uI (uI (uI (uJ s 12 (12 + nt) (Int64.ofNat v)) 16 nt (-1)) 11 11 (nI (nt + 1))) 65 14 (nI nt)) = _ from e1, bV_some]
      exact hr
    have qM : ∀ r, bI (qev en (d' + 16) 243 [.ref 151] t1) (fun w17 s18 => if w17 = (0 : Int32) then L_X12_readThread_175 en (d' + 16) s18 else bI (qev en (d' + 16) 255 [.ref 151, .long (465491486066 : Int64)] s18) (fun w21 s22 => if w21 = (0 : Int32) then L_X12_readThread_175 en (d' + 16) s22 else gd (p_inB ((s22.1 151 18) - (1 : Int32)) 4 = true) (nm (uI s22 158 (((s22.1 151 18) - (1 : Int32)).toNatClampNeg) (vp_nar .boolean (1 : Int32))) (fun s26 => bV (qev en (d' + 16) 249 [.ref 151] s26) (fun s28 => L_X12_readThread_175 en (d' + 16) s28))))) = some r → qev en (d' + 17) 288 [.ref 151] t = some r := fun r hr => a5' r (by
      refine le_X12_readThread_76 en _ _ _ ?_
      rw [m_goodL m7, bI_some, if_pos (by decide), h18, gd_in a2 (by decide), n_cl (by omega), mw, nm_eq, show (uJ t 157 nt (Int64.ofNat (w8 8 v))).1 151 18 = nI nt from h18, gd_in a2 (by decide), n_cl (by omega), nar0, nm_eq, show (uI (uJ t 157 nt (Int64.ofNat (w8 8 v))) 158 nt 0).1 151 18 = nI nt from by rw [uI_ne (by decide)]; exact h18, gd_in a2 (by decide), n_cl (by omega), nm_eq, show (uI (uI (uJ t 157 nt (Int64.ofNat (w8 8 v))) 158 nt 0) 159 nt 0).1 151 18 = nI nt from by rw [uI_ne (by decide), uI_ne (by decide)]; exact h18, gd_in (by omega) (by decide), n_cl (by omega), nm_eq, show (uI (uI (uI (uJ t 157 nt (Int64.ofNat (w8 8 v))) 158 nt 0) 159 nt 0) 181 nt (-2)).1 151 18 = nI nt from by rw [uI_ne (by decide), uI_ne (by decide), uI_ne (by decide)]; exact h18, show nI nt + (1 : Int32) = nI (nt + 1) from n_ar, nm_eq, show qev en (d' + 16) 249 [.ref 151] (uI (uI (uI (uI (uJ t 157 nt (Int64.ofNat (w8 8 v))) 158 nt 0) 159 nt 0) 181 nt (-2)) 151 18 (nI (nt + 1))) = _ from e2, bV_some]
      exact hr)
    have plain : qev en (d + 163) 116 [.ref 65, .int (320 : Int32)] s1 = some (some (.int 0), s1) → tpL B n s1 t1 (at1 V (12 + nt) v) U cl nc nl (nt + 1) m N th K bl → (∀ r, L_X12_readThread_175 en (d' + 16) t1 = some r → qev en (d' + 17) 288 [.ref 151] t = some r) → ∃ (s' t' : qS) (V' : Nat → Nat) (U' : Nat → Nat → Nat) (cl' : Nat → Nat) (m' N' : Nat) (th' K' : Nat → Nat) (bl' : Nat → List Nat), qev en (d + 164) 121 [.ref 65] s = some (none, s') ∧ qev en (d' + 17) 288 [.ref 151] t = some (none, t') ∧ tqX s s' ∧ tqM t t' ∧ tpL B n s' t' V' U' cl' nc nl (nt + 1) m' N' th' K' bl' := fun g1 g2 g3 => by
      obtain ⟨s', t', U', cl', m', N', th', K', bl', b1, b2, b3, b4, b5⟩ := body_al (en := en) (d := d) (d' := d') hB g2 s14 hbl a2
      refine ⟨s', t', _, U', cl', m', N', th', K', bl', qX _ ?_, g3 _ b2, f1.tr b3, f2.tr b4, b5⟩
      rw [g1, bI_some, if_pos rfl]; exact b1
    rcases e5 with e5 | e5
    · obtain ⟨hc', hm'⟩ := id e5
      have m7' := hm'.2.1
      have hS1 := tpS_tk hS (tnF.ad e3) e4
      obtain ⟨sk0, sk1⟩ := x_116 (en := en) (k := 320) hc' ⟨by decide, by decide⟩
      have e255 := m_isKeyW (en := en) (d := d' + 15) (j := 20) (C := 465491486066) hB hm' (by decide) (by decide +kernel)
      by_cases q : tkK B n (i + 1) = 320
      · obtain ⟨s2, t2, b1, b2, b3, b4, b5⟩ := adv_al (en := en) (d := d + 161) (d' := d' + 13) (rdL_mi (a := 158) (j := nt) (w := 1) e5 (by decide) (by decide)) (by omega)
        have k7 : s2.1 11 8 = s1.1 11 8 := by rw [b3.1 11 (by decide)]
        have k14 : s2.1 65 14 = nI nt := by rw [b3.1 65 (by decide)]; exact s14
        have L : tpL B n (uI s2 11 8 (s1.1 11 8 ||| ((1 : Int32) <<< (nI nt &&& 31)))) t2 (at1 V (12 + nt) v) U cl nc nl (nt + 1) m N th K bl := by
          rcases b5 with b5 | b5
          · exact Or.inl ⟨i + 1 + 1, rdL_xi b5 (by decide) (by decide) (by decide) (by decide), tpS_tk (tpS_later hS1 (Nat.lt_succ_self nt)) (tnF_ui (tnF.ad b3) (by decide) (by decide)) b4⟩
          · exact Or.inr (rdD_ui b5 (by decide) (by decide))
        obtain ⟨s', t', U', cl', m', N', th', K', bl', g1, g2, g3, g4, g5⟩ := body_al (en := en) (d := d) (d' := d') hB L (by rw [uI_ne (by decide)]; exact k14) hbl a2
        refine ⟨s', t', _, U', cl', m', N', th', K', bl', qX _ ?_, qM _ ?_, ((f1.tr (tqX.tk (tnF.ad b3))).tr (tqX.ui (by decide))).tr g3, ((f2.tr (tqM.ui (by decide))).tr (tqM.mv b4)).tr g4, g5⟩
        · rw [show qev en (d + 163) 116 [.ref 65, .int (320 : Int32)] s1 = _ from sk1 q (d + 162) s2 b1, bI_some, if_neg (by decide), k7, k14, nm_eq]
          exact g1
        · rw [m_goodL m7', bI_some, if_neg (by decide), show qev en (d' + 16) 255 [.ref 151, .long (465491486066 : Int64)] t1 = _ from e255, bI_some, if_neg (by rw [decide_eq_true q]; decide), t18, show nI (nt + 1) - (1 : Int32) = nI nt from n_sr (by omega), gd_in a2 (by decide), n_cl (by omega), nar1, nm_eq, show qev en (d' + 16) 249 [.ref 151] (uI t1 158 nt 1) = _ from b2, bV_some]
          exact g2
      · refine plain (sk0 q (d + 162)) (Or.inl ⟨i + 1, e5, hS1⟩) (fun r hr => qM r ?_)
        rw [m_goodL m7', bI_some, if_neg (by decide), show qev en (d' + 16) 255 [.ref 151, .long (465491486066 : Int64)] t1 = _ from e255, bI_some, if_pos (by rw [decide_eq_false q]; rfl)]
        exact hr
    · obtain ⟨F, p, z1, z2⟩ := id e5
      refine plain (x_deadSkip (d := d + 162) (m := 320) z1 ⟨by decide, by decide⟩) (Or.inr e5) (fun r hr => qM r ?_)
      rw [m_goodD z2, bI_some, if_pos rfl]
      exact hr
  · obtain ⟨F, p, z1, z2⟩ := id a4
    refine ⟨s', t', V, U, cl, m, N, th, K, bl, le_X6_readThread en _ _ _ ?_, a2 rfl rfl _ (le_X12_readThread_76 en _ _ _ ?_), tqX.bm a5, tqM.mv a6, Or.inr a4⟩
    · rw [h11, show qev en (d + 163) 118 [.ref 65, .int (nI nt), .int (4 : Int32)] s = _ from a1, bI_some, if_pos rfl]
    · rw [m_goodD z2, bI_some, if_neg (not_not_intro rfl)]
end RDT
