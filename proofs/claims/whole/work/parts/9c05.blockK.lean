/-! THE READER: if and while on both sides. -/
section BLK
variable {en : pN} {d d' k b i i' n N N0 N' j x y r m m' u F p nc nl nt D D2 m0 m1 key key' un : Nat} {V cl cl0 cl' cl'' th th0 th' th'' K K0 K' K'' : Nat → Nat} {U U' : Nat → Nat → Nat} {s s' s'' s0 t t' t'' t0 t1 : qS} {B : Nat → Nat} {v w dp pa pt lv ow kk kk' la laM o q : Int32} {lo : Option Nat} {bl bl0 bl' bl'' : Nat → List Nat} {L : List Nat}
/-- the expression of an if or a while -/
theorem ifE_al (hn : nwL s t N u k m0) (hth : th N = u) (hu : u < nt) (hB : ∀ j, j < n → B j < 256) (hN : N < 100) (hk : k = 17 ∨ k = 18) (hD : 140 ≤ D) (hE : exS false 7 0 u B n s t V U cl nc nl nt i m) : ∃ s' t', (∀ r, L_X6_readStatement_149 en D (nI N) dp (nI k) s' = some r → L_X6_readStatement_47 en D (nI N) dp (nI k) s = some r) ∧ qev en (d' + 10) 276 [.ref 151, .int (nI N)] t = some (none, t') ∧ stF N m s s' ∧ smF N m t t' ∧ ((∃ (U' : Nat → Nat → Nat) (cl' : Nat → Nat) (i' m' : Nat), exS false 7 0 u B n s' t' V U' cl' nc nl nt i' m' ∧ m ≤ m' ∧ (∀ w, cl w ≤ cl' w) ∧ lnB s' t' nc nl nt m' cl' th N ∧ t'.1 164 N = nI k) ∨ rdD s' t') := by
  have hn' := hn
  obtain ⟨⟨n1, n2⟩, n3, ⟨n4, n4'⟩, ⟨n5, n5'⟩, n6, ⟨n7, n8⟩, ⟨n9, n9'⟩, ⟨n10, n10', n10'', n10'''⟩, n11⟩ := hn
  have hk19 : k < 19 := by omega
  obtain ⟨s2, t2, e1, e2, e3, e4, e5, e6, ⟨e7, e7'⟩, ⟨e8, e8'⟩, e9⟩ := mid_al (en := en) (D := D) (d' := d') (dp := dp) (b := true) hE hB hN hk19 (show k ≠ 3 by omega) hD (hxB_yes (by omega)) ⟨m0, by omega, n10, n10'⟩
  rw [if_pos rfl] at e2
  refine ⟨s2, t2, e1, e2, e3, e4, ?_⟩
  rcases e9 with ⟨U', cl', i', m', g1, g2, g3, g4, g5, g6⟩ | e9
  · have c : ∀ a, 18 ≤ a → a ≤ 27 → a ≠ 18 → a ≠ 23 → a ≠ 24 → s2.1 a N = s.1 a N := fun a a1 a2 a3 a4 a5 => by rw [e5 a a1 a2 a3 a4 a5]
    have c' : ∀ a, smW a = true → a ≠ 176 → a ≠ 177 → t2.1 a N = t.1 a N := fun a a1 a2 a3 => by rw [e6 a a1 a2 a3]
    have h164 := (c' 164 rfl (by decide) (by decide)).trans n3
    have c20 := c 20 (by decide) (by decide) (by decide) (by decide) (by decide)
    have c21 := c 21 (by decide) (by decide) (by decide) (by decide) (by decide)
    have c25 := c 25 (by decide) (by decide) (by decide) (by decide) (by decide)
    have c26 := c 26 (by decide) (by decide) (by decide) (by decide) (by decide)
    refine Or.inl ⟨U', cl', i', m', g1, g2, g6, ?_, h164⟩
    refine lnB_of hn' hth hu e3 e4 hk19 g3 h164 (c 19 (by decide) (by decide) (by decide) (by decide) (by decide)) (c 22 (by decide) (by decide) (by decide) (by decide) (by decide)) ?_ (fun z1 z2 => absurd hk (by omega)) (fun z1 z2 => absurd hk (by omega)) ?_ ?_ g4 ?_ (fun z => g5 (absurd hk (by omega))) ?_ (fun z => absurd hk (by omega)) (fun z => absurd hk (by omega))
    · rw [c' 166 rfl (by decide) (by decide), c20, n4, n4']
    · rw [c' 167 rfl (by decide) (by decide), c21, n5, n5']
    · exact Or.inl ⟨c21.trans n5, by omega⟩
    · exact exA_0 (c25.trans n9) (c26.trans n9') ((c' 178 rfl (by decide) (by decide)).trans n10'') ((c' 179 rfl (by decide) (by decide)).trans n10''') n11
    · intro _
      rw [c25, c26, n9, n9']
  · exact Or.inr e9
set_option maxHeartbeats 1000000 in
/-- an if or a while -/
theorem simB_al (hI : blockOK en d' u B n V nc nl nt (b + 1) F) (hF : F ≤ d + 140) (hP : prR u B n s t V U cl nc nl nt i m N th K bl (b + 1)) (hB : ∀ j, j < n → B j < 256) (hN : N < 100) (hb : b + 1 ≤ 12) (hkI : keyI u N key th pa ow pt) (hkV : kyV nt N key) (hlo : lo = (bl key).getLast?) (hla : lastI lo la laM) (hT : topI t b ow pt laM) (hy : tkK B n i = 314 ∨ tkK B n i = 315) (h278 : ∀ r, L_X12_readStatement_99 en (d' + 14) (nI (tkK B n i - 297)) t = some r → qev en (d' + 15) 278 [.ref 151] t = some r) : itR en (d' + 15) (qev en (d + 141) 124 [.ref 65, .int (nI N), .int (nI (b + 1))] (naT s N key (nI u) pa pt (nI b) lo)) (bV (qev en (d' + 15) 278 [.ref 151] t) (fun s => L_X12_readBlocks_0 en (d' + 15) s)) u B n s t V cl nc nl nt m N th K bl b key := by
  have q10 : 10 ≤ d + 140 := by omega
  have q12 : 12 ≤ d' + 14 := by omega
  have q140 : 140 ≤ d + 140 := by omega
  obtain ⟨hE, ⟨h12, h32, -⟩, hln, hG, h56, hW⟩ := id hP
  have hb3 := hE.2.1.1
  have hnt := (hE.2.2.2.1.2 rfl).2
  have hnt4 : nt ≤ 4 := hb3.2.2
  have hut : u < nt := by omega
  have hm4 := hE.2.2.2.2.1.2.2
  have hm25 : t.1 151 25 = nI m := by rw [hE.2.2.2.2.2.2, Nat.zero_add]
  have h275 := m_new (en := en) (d := d' + 13) (kk := nI (tkK B n i - 297)) hP hN hb hkI hlo hla hT (rmF.rf (lw := false) (c := m)) hm25
  have m7 := hE.1.2.2.1
  have hE1 := exS_mnT (N := N) (un := u) (b := b + 1) (m0 := m) (key := key) (kk := nI (tkK B n i - 297)) (ow := ow) (pt := pt) (lo := lo) (exS_naT (N := N) (key := key) (un := u) (pa := pa) (pt := pt) (lv := nI b) (lo := lo) hE)
  obtain ⟨hi, c1, -, -⟩ := cL_at hE1.1.1
  have nw : nwL (naT s N key (nI u) pa pt (nI b) lo) (mnT t N u (b + 1) m key (nI (tkK B n i - 297)) ow pt lo) N u (tkK B n i - 297) m := nwL_new hm4 (by rw [Nat.add_sub_cancel])
  have wS : wkX s (naT s N key (nI u) pa pt (nI b) lo) := wkX_naT
  have wM : wkM t (mnT t N u (b + 1) m key (nI (tkK B n i - 297)) ow pt lo) := wkM_mnT
  have hx0 : tkK B n i ≠ 0 := by rcases hy with z | z <;> (rw [z]; decide)
  have hx400 := tkK_lt (B := B) hi
  have hx300 : 300 ≤ tkK B n i := by rcases hy with z | z <;> (rw [z]; decide)
  have hk1718 : tkK B n i - 297 = 17 ∨ tkK B n i - 297 = 18 := by rcases hy with z | z <;> (rw [z]; decide)
  have hx2 : ¬ nI (tkK B n i) = (2 : Int32) := by rcases hy with z | z <;> (rw [z]; decide)
  have hkey : key < 4 + 2 * N := by rcases hkV with z | z <;> omega
  have hne4 : 4 + 2 * N ≠ key := by omega
  have hne5 : 5 + 2 * N ≠ key := by omega
  have hb4 : bl (4 + 2 * N) = [] := G_no hG hnt4 (by omega) (by omega)
  have hb5 : bl (5 + 2 * N) = [] := G_no hG hnt4 (by omega) (by omega)
  obtain ⟨s1, t1, e1, e2, e3, e4, e5⟩ := adv_al (en := en) (d := d + 139) (d' := d' + 11) hE1.1 hx0
  have e2' : qev en (d' + 14) 249 [.ref 151] (mnT t N u (b + 1) m key (nI (tkK B n i - 297)) ow pt lo) = some (none, t1) := e2
  have eK := kw_eq hx300
  have preX : ∀ s2 s', qev en (d + 140) 129 [.ref 65, .int (nI N), .int (nI (tkK B n i - 297))] s1 = some (none, s2) → L_X6_readStatement_47 en (d + 140) (nI N) (nI (b + 1)) (nI (tkK B n i - 297)) s2 = some (none, s') → qev en (d + 141) 124 [.ref 65, .int (nI N), .int (nI (b + 1))] (naT s N key (nI u) pa pt (nI b) lo) = some (none, s') := fun s2 s' h h2 => by
    refine le_X6_readStatement en _ _ _ _ _ ?_
    rw [if_pos (by rw [c1]; exact hx2), c1, eK, nm_eq, e1, bV_some, h, bV_some]
    exact h2
  have preM : ∀ t2 r, qev en (d' + 14) 276 [.ref 151, .int (nI N)] t1 = some (none, t2) → bV (qev en (d' + 14) 274 [.ref 151, .int (nI N), .int (0 : Int32)] t2) (fun s => L_X12_readBlocks_0 en (d' + 15) s) = some r → bV (qev en (d' + 15) 278 [.ref 151] t) (fun s => L_X12_readBlocks_0 en (d' + 15) s) = some r := fun t2 r h hr => by
    obtain ⟨t3, q1, q2⟩ := bV_out hr
    have g139 : L_X12_readStatement_139 en (d' + 14) (nI N) t1 = some (none, t3) := by
      refine le_X12_readStatement_139 en _ _ _ _ ?_
      rw [h, bV_some, q1, bV_some]
    rw [h278 _ (le_X12_readStatement_99 en _ _ _ _ (by
      rw [m_goodL m7, bI_some, if_pos (by decide), if_pos (fun z => (n_m1 (by omega)).mp z), h275, bI_some, e2', bV_some]
      rcases hk1718 with z | z
      · rw [if_pos (by rw [z]; rfl)]; exact g139
      · rw [if_neg (by rw [z]; decide), if_neg (by rw [z]; decide)]; exact g139)), bV_some]
    exact q2
  clear h278 h275 eK
  generalize hk : tkK B n i - 297 = k at *
  have hk3 : k ≠ 3 := by rcases hk1718 with z | z <;> (rw [z]; decide)
  have hk4 : k ≠ 4 := by rcases hk1718 with z | z <;> (rw [z]; decide)
  have hk19 : k < 19 := by rcases hk1718 with z | z <;> (rw [z]; decide)
  have hk12 : 12 ≤ k := by rcases hk1718 with z | z <;> (rw [z]; decide)
  rcases e5 with e5 | e5
  · have hE2 := exS_tk hE1 (tnF.ad e3) e4 e5
    have nw2 := nwL_tk nw (tnF.ad e3) e4
    have h129 : qev en (d + 140) 129 [.ref 65, .int (nI N), .int (nI k)] s1 = some (none, s1) := x_129o (d := d + 137) hE2 (by omega)
    obtain ⟨s2, t2, f1, f2, f3, f4, f5⟩ := ifE_al (en := en) (D := d + 140) (d' := d' + 4) (dp := nI (b + 1)) (th := at1 th N u) nw2 at1_s hut hB hN hk1718 q140 hE2
    have fX : stF N m (naT s N key (nI u) pa pt (nI b) lo) s2 := (stF.tk (tnF.ad e3)).tr f3 (Nat.le_refl m)
    have fM : smF N m (mnT t N u (b + 1) m key (nI k) ow pt lo) t2 := (smF.mv e4).tr f4 (Nat.le_refl m)
    have w2 : wkX s s2 := wS.tr (wkX.st fX)
    have wm2 : wkM t t2 := wM.tr (wkM.sm fM)
    rcases f5 with ⟨U', cl', i', m', g1, g2, g3, g4, g5⟩ | f5
    · have hP2 := prR_new hP hN hkI hlo hkV rmF.rf g1 g2 g3 g4 fX fM
      have hS2 := stkI_of rmF.rf fM
      have gg := grI_new (u := u) (th := th) (K := K) (bl := bl) hkey hb5 g2 g3 hS2 (k164 rmF.rf fM) w2 wm2
      have hT2 : topI t2 b (t.1 184 b) (t.1 185 b) (nI N) := ⟨by rw [hS2.2.1], by rw [hS2.2.2.1], hS2.2.2.2⟩
      rcases inner_al (D := d + 140) (D2 := d' + 14) hI hF q10 q12 hP2 hB gg at1_s hkey (by rw [at1_n hne4]; exact hb4) (by rw [at1_n hne5]; exact hb5) g5 hk1718 hT2 at1_s with ⟨s3, t3, U3, cl3, i3, m3, N3, th3, K3, bl3, a1, a2, a3, a4, a5, a6, a7⟩ | ⟨s3, t3, a1, a2, a3, a4, a5⟩
      · exact Or.inl ⟨s3, t3, U3, cl3, i3, m3, N3, th3, K3, bl3, preX s1 s3 h129 (f1 _ (x_149 ⟨hk3, hk4⟩ hk19 _ a1)), fun r hr => preM t2 r f2 (a2 r hr), a3, a4, a5, a6, a7⟩
      · exact Or.inr ⟨s3, t3, preX s1 s3 h129 (f1 _ (x_149 ⟨hk3, hk4⟩ hk19 _ a1)), preM t2 _ f2 a2, a3, w2.tr a4, wm2.tr a5⟩
    · right
      obtain ⟨F', p', z1, z2⟩ := id f5
      obtain ⟨s3, y1, y2, y3⟩ := xD_149 (en := en) (d := d + 128) (v := nI N) (dp := nI (b + 1)) (c := nI k) z1
      refine ⟨s3, t2, preX s1 s3 h129 (f1 _ y1), preM t2 _ f2 ?_, ⟨F', p', y2, z2⟩, w2.tr y3, wm2⟩
      rw [show d' + 14 = d' + 11 + 3 from rfl, m_274D z2, bV_some]
      exact m_L0D (d := d' + 14) z2
  · right
    obtain ⟨F', p', z1, z2⟩ := id e5
    have h7 : (naT s N key (nI u) pa pt (nI b) lo).2.2 65 7 = 8 := hE1.2.2.2.1.1
    obtain ⟨s2, y1, y2, y3⟩ := xD_129 (en := en) (d := d + 136) (k := k) z1 hN hk19
    obtain ⟨s3, o1, o2, o3⟩ := xD_47 (en := en) (d := d + 128) (dp := nI (b + 1)) (c := nI k) y2 (by rw [y3.2.2.2.2.2, e3.2.2.2]; exact h7) hN
    obtain ⟨t2, l1, l2, l3⟩ := m_276D (en := en) (d := d' + 9) z2 hN
    refine ⟨s3, t2, preX s2 s3 y1 o1, preM t2 _ l1 ?_, ⟨F', p', o2, l2⟩, ((wS.tr (wkX.st (N := 0) (m := m) (stF.tk (tnF.ad e3)))).tr y3).tr o3, (wM.tr (wkM.mv e4)).tr l3⟩
    rw [show d' + 14 = d' + 11 + 3 from rfl, m_274D l2, bV_some]
    exact m_L0D (d := d' + 14) l2
end BLK
