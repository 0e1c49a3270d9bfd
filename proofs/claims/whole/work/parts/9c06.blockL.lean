/-! THE READER: whole blocks on both sides. -/
section BLL
variable {en : pN} {d d' k b i i' n N N0 N' j x y r m m' u F p nc nl nt D D2 m0 m1 key key' un : Nat} {V cl cl0 cl' cl'' th th0 th' th'' K K0 K' K'' : Nat → Nat} {U U' : Nat → Nat → Nat} {s s' s'' s0 t t' t'' t0 t1 : qS} {B : Nat → Nat} {v w dp pa pt lv ow kk kk' la laM o q : Int32} {lo : Option Nat} {bl bl0 bl' bl'' : Nat → List Nat} {L : List Nat} {R X : Option qR}
/-- a simple statement is something that the loop goes on from -/
theorem sim_it (h : simR R X u B n s t V cl nc nl nt m N th K bl b key) (hX : ∀ r, X = some r → qev en (d' + 15) 278 [.ref 151] t = some r) (hkey : key < 4 + 2 * N) (hb5 : bl (5 + 2 * N) = []) : itR en (d' + 15) R (bV (qev en (d' + 15) 278 [.ref 151] t) (fun s => L_X12_readBlocks_0 en (d' + 15) s)) u B n s t V cl nc nl nt m N th K bl b key := by
  obtain ⟨s', t', r1, r2, w1, w2, h⟩ := h
  rcases h with ⟨U', cl', i', m', g1, g2, g3, g4, g5⟩ | h
  · exact Or.inl ⟨s', t', U', cl', i', m', N + 1, _, _, _, r1, fun r hr => by rw [hX _ r2, bV_some]; exact hr, g1, grI_new hkey hb5 g2 g3 g4 g5 w1 w2, Nat.lt_succ_self N, at1_s, by rw [g4.2.1], by rw [g4.2.2.1], g4.2.2.2⟩
  · obtain ⟨F', p', z1, z2⟩ := id h
    exact Or.inr ⟨s', t', r1, by rw [hX _ r2, bV_some]; exact m_L0D (d := d' + 14) z2, h, w1, w2⟩
/-- the statements of a block, up to its end -/
theorem blk_loop (hI : blockOK en d' u B n V nc nl nt (b + 1) F) (hF : F ≤ d + 140) (hB : ∀ j, j < n → B j < 256) (hb : b + 1 ≤ 12) : ∀ (z : Nat) (s t : qS) (U : Nat → Nat → Nat) (cl : Nat → Nat) (i m N : Nat) (th K : Nat → Nat) (bl : Nat → List Nat) (key : Nat) (pa ow pt la laM : Int32) (v5 : Nat), 100 < N + z → v5 ≤ N → prR u B n s t V U cl nc nl nt i m N th K bl (b + 1) → keyI u N key th pa ow pt → kyV nt N key → lastI (bl key).getLast? la laM → topI t b ow pt laM → blkR en (d' + 15) (L_X6_readBlock_35 en (d + 141) (nI (b + 1)) pa pt la (nI v5) s) (L_X12_readBlocks_0 en (d' + 15) t) u B n s t V cl nc nl nt m N th K bl b key ow pt := by
  intro z
  induction z with
  | zero =>
    intro s t U cl i m N th K bl key pa ow pt la laM v5 hz hv5 hP
    exact absurd hP.2.1.2.2 (by omega)
  | succ z ih =>
    intro s t U cl i m N th K bl key pa ow pt la laM v5 hz hv5 hP hkI hkV hla hT
    obtain ⟨hE, ⟨h12, h32, hN⟩, hln, hG, h56, hW⟩ := id hP
    have hm := hE.1
    obtain ⟨hi, c1, -, -⟩ := cL_at hm.1
    have hx := tkK_lt (B := B) hi
    obtain ⟨⟨-, mn, -⟩, m7, -, -, -, m3, -⟩ := id hm.2
    obtain ⟨k1, -, -, k4⟩ := kdM_v hx
    have hnt4 : nt ≤ 4 := hE.2.1.1.2.2
    have hkey : key < 4 + 2 * N := by rcases hkV with z | z <;> omega
    have hb5 : bl (5 + 2 * N) = [] := G_no hG hnt4 (by omega) (by omega)
    have m56 : ¬ t.1 151 56 ≤ (0 : Int32) := by rw [h56, n_ge (by decide) (by omega)]; omega
    have c5 : ¬ (100 : Int32) < nI v5 := by rw [n_lt (by decide) (by omega)]; omega
    by_cases q : tkK B n i = 125
    · have P56 : prR u B n s (uI t 151 56 (nI b)) V U cl nc nl nt i m N th K bl b := prR_56 hP
      obtain ⟨s1, t1, e1, e2, e3, e4, e5⟩ := adv_al (en := en) (d := d + 139) (d' := d' + 12) P56.1.1 (by omega)
      have e2' : qev en (d' + 15) 249 [.ref 151] (uI t 151 56 (nI b)) = some (none, t1) := e2
      have hR : L_X6_readBlock_35 en (d + 141) (nI (b + 1)) pa pt la (nI v5) s = some (none, s1) := by
        refine le_X6_readBlock_35 en _ _ _ _ _ _ _ _ ?_
        rw [if_neg c5, if_pos (by rw [c1, q]; rfl)]
        refine le_X6_readBlock_108 en _ _ _ ?_
        have e115 : qev en (d + 141) 115 [.ref 65, .int (125 : Int32)] s = some (none, s1) := by
          rcases x_need (en := en) (k := 125) hm ⟨by omega, by omega⟩ with ⟨_, f⟩ | ⟨f, _⟩
          · exact f (d + 139) s1 e1
          · exact absurd q f
        rw [e115, bV_some]
      have hM : ∀ r, blkE en (d' + 15) ow pt t1 = some r → L_X12_readBlocks_0 en (d' + 15) t = some r := fun r hr => by
        refine le_X12_readBlocks_0 en _ _ _ ?_
        have a56 : t.1 151 56 - (1 : Int32) = nI b := by rw [h56]; exact n_sr (by omega)
        have b56 : (uI t 151 56 (nI b)).1 151 56 = nI b := rdW
        rw [m_goodL m7, bI_some, if_neg (by decide), if_neg m56, if_neg (by rw [m3, q]; exact not_not_intro rfl), a56, nm_eq, b56, gd_in (by omega) (by decide), n_cl (by omega), nm_eq, nm_eq, e2', bV_some, uI_ne (show 184 ≠ 151 by decide), uI_ne (show 185 ≠ 151 by decide), hT.1, hT.2.1]
        exact hr
      have wX : wkX s s1 := wkX.st (N := 0) (m := m) (stF.tk (tnF.ad e3))
      have wM : wkM t t1 := (wkM.uf rfl).tr (wkM.mv e4)
      rcases e5 with e5 | e5
      · exact Or.inl ⟨s1, t1, U, cl, i + 1, m, N, th, K, bl, hR, hM, prR_tk P56 (tnF.ad e3) e4 e5, ⟨Nat.le_refl _, Nat.le_refl _, fun _ => Nat.le_refl _, fun p h1 h2 _ => absurd h2 (by omega)⟩, fun _ _ => ⟨rfl, rfl⟩, fun _ _ _ => rfl, fun j _ => ⟨by rw [e4.1 184 (by decide), uI_ne (by decide)], by rw [e4.1 185 (by decide), uI_ne (by decide)], by rw [e4.1 186 (by decide), uI_ne (by decide)]⟩, fun j _ => by rw [e4.1 164 (by decide), uI_ne (by decide)], wX, wM⟩
      · obtain ⟨F', p', z1, z2⟩ := id e5
        refine Or.inr ⟨s1, t1, hR, hM _ ?_, e5, wX, wM⟩
        show bI _ _ = _
        rw [m_goodD z2, bI_some, if_pos rfl]
        exact m_L0D (d := d' + 14) z2
    · have preX : ∀ (w : Int32) (s' : qS) (r : qR), qev en (d + 141) 123 [.ref 65] s = some (some (.int w), s') → (if ¬ w = (0 : Int32) then bI (qev en (d + 141) 99 [.ref 11, .int (s'.1 65 14), .int pa, .int pt, .int (nI (b + 1) - (1 : Int32))] s') (fun w7 s8 => bV (qev en (d + 141) 100 [.ref 11, .int la, .int w7] s8) (fun s11 => bV (qev en (d + 141) 124 [.ref 65, .int w7, .int (nI (b + 1))] s11) (fun s14 => L_X6_readBlock_35 en (d + 141) (nI (b + 1)) pa pt w7 (nI v5 + (1 : Int32)) s14))) else some (none, s')) = some r → L_X6_readBlock_35 en (d + 141) (nI (b + 1)) pa pt la (nI v5) s = some r := fun w s' r h hr => by
        refine le_X6_readBlock_35 en _ _ _ _ _ _ _ _ ?_
        rw [if_neg c5, if_neg (by rw [c1, n_eq (by decide) (by omega)]; exact q), h, bI_some]
        exact hr
      have preM : ∀ r, bV (qev en (d' + 15) 278 [.ref 151] t) (fun s => L_X12_readBlocks_0 en (d' + 15) s) = some r → L_X12_readBlocks_0 en (d' + 15) t = some r := fun r hr => by
        refine le_X12_readBlocks_0 en _ _ _ ?_
        rw [m_goodL m7, bI_some, if_neg (by decide), if_neg m56, if_pos (by rw [m3, n_eq (by decide) (by omega)]; exact fun z => q ((k4 125 (by decide) (by decide)).mp z))]
        exact hr
      rcases may_al (en := en) (d := d + 138) (d' := d' + 11) hm hE.2.1 hB h12 h32 hN with ⟨s1, t1, a1, a2, a3, a4, a5⟩ | ⟨a1, a2, a3⟩
      · obtain ⟨F', p', z1, z2⟩ := id a3
        refine Or.inr ⟨s1, t1, preX 0 s1 _ a1 (by rw [if_neg (not_not_intro rfl)]), preM _ ?_, a3, wkX.bm a4, wkM.mv a5⟩
        rw [show qev en (d' + 15) 278 [.ref 151] t = _ from a2, bV_some]
        exact m_L0D (d := d' + 14) z2
      · have hit : itR en (d' + 15) (qev en (d + 141) 124 [.ref 65, .int (nI N), .int (nI (b + 1))] (naT s N key (nI u) pa pt (nI b) (bl key).getLast?)) (bV (qev en (d' + 15) 278 [.ref 151] t) (fun s => L_X12_readBlocks_0 en (d' + 15) s)) u B n s t V cl nc nl nt m N th K bl b key := by
          rcases a3 with ⟨y1, y2, y3⟩ | ⟨y1, y2, wx, wy, y3, y4, y5⟩
          · by_cases y : tkK B n i ≤ 313
            · exact sim_it (simK_al (d := d) (d' := d') hP hB a1 hb hkI hkV rfl hla hT ⟨y1, y⟩) y3 hkey hb5
            · exact simB_al (d := d) hI hF hP hB a1 hb hkI hkV rfl hla hT (by omega) y3
          · exact sim_it (simW_al (d := d) (d' := d') hP hB a1 hb hkI hkV rfl hla hT y1 y3 y4 y5) y2 hkey hb5
        obtain ⟨n1, n2⟩ := x_new (en := en) (d := d + 140) (v := nI b) hP a1 hkI rfl hla
        have ev : nI (b + 1) - (1 : Int32) = nI b := n_sr (by omega)
        have e5' : nI v5 + (1 : Int32) = nI (v5 + 1) := n_ar
        have goX : ∀ s1 r, qev en (d + 141) 124 [.ref 65, .int (nI N), .int (nI (b + 1))] (naT s N key (nI u) pa pt (nI b) (bl key).getLast?) = some (none, s1) → L_X6_readBlock_35 en (d + 141) (nI (b + 1)) pa pt (nI N) (nI (v5 + 1)) s1 = some r → L_X6_readBlock_35 en (d + 141) (nI (b + 1)) pa pt la (nI v5) s = some r := fun s1 r h hr => preX 1 s _ a2 (by
          rw [if_pos (by decide), ev, n1, bI_some, n2, bV_some, h, bV_some, e5']
          exact hr)
        rcases hit with ⟨s1, t1, U1, cl1, i1, m1, N1, th1, K1, bl1, b1, b2, b3, b4, b5, b6, b7⟩ | ⟨s1, t1, b1, b2, b3, b4, b5⟩
        · have hkI1 : keyI u N1 key th1 pa ow pt := by
            rcases hkI with z | ⟨p, c, z1, z2, z3, z4, z5, z6, z7⟩
            · exact Or.inl z
            · exact Or.inr ⟨p, c, by omega, z2, z3, z4, z5, z6, (b4.2.1 p z1).1.trans z7⟩
          have hkV1 : kyV nt N1 key := by rcases hkV with z | z <;> omega
          have hla1 : lastI (bl1 key).getLast? (nI N) (nI N) := by
            rw [b6, List.getLast?_concat]
            exact ⟨fun l hl => by cases hl; exact ⟨rfl, rfl⟩, fun hl => by cases hl⟩
          rcases ih s1 t1 U1 cl1 i1 m1 N1 th1 K1 bl1 key pa ow pt (nI N) (nI N) (v5 + 1) (by omega) (by omega) b3 hkI1 hkV1 hla1 ⟨b7.1.trans hT.1, b7.2.1.trans hT.2.1, b7.2.2⟩ with ⟨s2, t2, U2, cl2, i2, m2, N2, th2, K2, bl2, c1, c2, c3, c4⟩ | ⟨s2, t2, c1, c2, c3, c4, c5⟩
          · exact Or.inl ⟨s2, t2, U2, cl2, i2, m2, N2, th2, K2, bl2, goX s1 _ b1 c1, fun r hr => preM r (b2 r (c2 r hr)), c3, b4.tr c4 hkey⟩
          · exact Or.inr ⟨s2, t2, goX s1 _ b1 c1, preM _ (b2 _ c2), c3, b4.2.2.2.2.2.1.tr c4, b4.2.2.2.2.2.2.tr c5⟩
        · obtain ⟨F', p', z1, z2⟩ := id b3
          exact Or.inr ⟨bmS s1 2, t1, goX s1 _ b1 (xD_35 (d := d + 138) z1 (by rw [n_lt (by decide) (by omega)]; omega)), preM _ b2, rdD_bm b3, b4.tr (wkX.bm bmS_F), b5⟩
/-- blocks, from the deepest on -/
theorem block_ok (hB : ∀ j, j < n → B j < 256) : ∀ (z b : Nat), b + z = 9 → blockOK en d' u B n V nc nl nt b (145 + 2 * z) := by
  intro z
  induction z with
  | zero =>
    intro b hb D D2 s t U cl i m N th K bl key pa ow pt hD hD2 hP hkI hkV hbl
    obtain ⟨D, rfl⟩ : ∃ D', D = D' + 4 := ⟨D - 4, by omega⟩
    obtain ⟨D2, rfl⟩ : ∃ D', D2 = D' + 5 := ⟨D2 - 5, by omega⟩
    rcases open_al (en := en) (d := D) (d' := D2) (pa := pa) (ow := ow) (pt := pt) hP (by omega) with ⟨s1, t1, a1, a2, a3, -⟩ | ⟨s1, t1, a1, a2, a3, a4, a5⟩
    · exfalso; omega
    · obtain ⟨F', p', z1, z2⟩ := id a3
      refine Or.inr ⟨s1, t1, a1, ?_, a3, a4, a5⟩
      rw [a2, bV_some]
      exact m_L0D (d := d' + 14) z2
  | succ z ih =>
    intro b hb D D2 s t U cl i m N th K bl key pa ow pt hD hD2 hP hkI hkV hbl
    have hI := ih (b + 1) (by omega)
    obtain ⟨D, rfl⟩ : ∃ D', D = D' + 142 := ⟨D - 142, by omega⟩
    obtain ⟨D2, rfl⟩ : ∃ D', D2 = D' + 5 := ⟨D2 - 5, by omega⟩
    rcases open_al (en := en) (d := D + 138) (d' := D2) (pa := pa) (ow := ow) (pt := pt) hP (by omega) with ⟨s1, t1, a1, a2, a3, a4, a5, a6, a7, a8, a9⟩ | ⟨s1, t1, a1, a2, a3, a4, a5⟩
    · have hla : lastI (bl key).getLast? (-1) (-2) := by
        rw [hbl]
        exact ⟨fun l hl => (by cases hl), fun _ => ⟨rfl, rfl⟩⟩
      have g0 : grI s t s1 t1 cl cl m m N N th th K K bl bl b key := ⟨⟨Nat.le_refl _, Nat.le_refl _, fun _ => Nat.le_refl _, fun p h1 h2 _ => absurd h2 (by omega)⟩, fun _ _ => ⟨rfl, rfl⟩, fun _ _ _ => rfl, a6, fun j _ => a7 j, a8, a9⟩
      have hN := hP.2.1.2.2
      rcases blk_loop (d := D) hI (by omega) hB (by omega) 101 s1 t1 U cl (i + 1) m N th K bl key pa ow pt (-1) (-2) 0 (by omega) (by omega) a4 hkI hkV hla a5 with ⟨s2, t2, U2, cl2, i2, m2, N2, th2, K2, bl2, c1, c2, c3, c4⟩ | ⟨s2, t2, c1, c2, c3, c4, c5⟩
      · exact Or.inl ⟨s2, t2, U2, cl2, i2, m2, N2, th2, K2, bl2, a1 _ c1, fun r hr => by rw [a2, bV_some]; exact c2 r hr, c3, g0.tr c4 (by
          have h4 := hP.1.2.1.1.2.2
          rcases hkV with z | z <;> omega)⟩
      · exact Or.inr ⟨s2, t2, a1 _ c1, by rw [a2, bV_some]; exact c2, c3, a8.tr c4, a9.tr c5⟩
    · obtain ⟨F', p', z1, z2⟩ := id a3
      refine Or.inr ⟨s1, t1, a1, ?_, a3, a4, a5⟩
      rw [a2, bV_some]
      exact m_L0D (d := d' + 14) z2
end BLL
