/-! THE READER: the blocks of an if or a while on both sides. -/
section BLJ
variable {en : pN} {d d' k b i i' n N N0 N' j x y r m m' u F p nc nl nt D D2 m0 m1 key key' un : Nat} {V cl cl0 cl' cl'' th th0 th' th'' K K0 K' K'' : Nat → Nat} {U U' : Nat → Nat → Nat} {s s' s'' s0 t t' t'' t0 t1 : qS} {B : Nat → Nat} {v w dp pa pt lv ow kk kk' la laM o q : Int32} {lo : Option Nat} {bl bl0 bl' bl'' : Nat → List Nat} {L : List Nat}
/-- behind the blocks of a statement -/
abbrev innR (en : pN) (D : Nat) (R X : Option qR) (u : Nat) (B : Nat → Nat) (n : Nat) (s0 t0 s t : qS) (V cl0 : Nat → Nat) (nc nl nt m0 N : Nat) (th0 K0 : Nat → Nat) (bl0 : Nat → List Nat) (b key : Nat) (L : List Nat) (o q : Int32) : Prop :=
  (∃ (s' t' : qS) (U' : Nat → Nat → Nat) (cl' : Nat → Nat) (i' m' N' : Nat) (th' K' : Nat → Nat) (bl' : Nat → List Nat), R = some (none, s') ∧ (∀ r, L_X12_readBlocks_0 en D t' = some r → X = some r) ∧ prR u B n s' t' V U' cl' nc nl nt i' m' N' th' K' bl' (b + 1) ∧ grI s0 t0 s' t' cl0 cl' m0 m' N N' th0 th' K0 K' bl0 bl' b key ∧ N < N' ∧ bl' key = L ∧ topI t' b o q (nI N)) ∨
  (∃ s' t' : qS, R = some (none, s') ∧ X = some (none, t') ∧ rdD s' t' ∧ wkX s s' ∧ wkM t t')
theorem x_116 (hm : cL s B n i) (hk : 2 ≤ k ∧ k < 2 ^ 31) : (tkK B n i ≠ k → ∀ D, qev en (D + 1) 116 [.ref 65, .int (nI k)] s = some (some (.int 0), s)) ∧ (tkK B n i = k → ∀ D s', qev en D 167 [.ref 1] s = some (none, s') → qev en (D + 1) 116 [.ref 65, .int (nI k)] s = some (some (.int 1), s')) := by
  obtain ⟨hi, c1, -, -⟩ := cL_at hm
  have hx := tkK_lt (B := B) hi
  refine ⟨fun h D => le_X6_skip en _ _ _ _ ?_, fun h D s' e => le_X6_skip en _ _ _ _ ?_⟩
  · rw [if_pos (by rw [c1, n_EQ (by omega) (by omega)]; exact h)]
    refine le_X6_skip_16 en _ _ _ _ ?_
    rw [if_pos rfl, gd_true (Or.inl rfl)]
  · rw [if_neg (by rw [c1, h]; exact not_not_intro rfl)]
    refine le_X6_skip_16 en _ _ _ _ ?_
    rw [if_neg (by decide), e, bV_some, gd_true (Or.inr rfl)]
theorem inner_al (hI : blockOK en d' u B n V nc nl nt (b + 1) F) (hF : F ≤ D) (hD : 10 ≤ D) (hD2 : 12 ≤ D2) (hP : prR u B n s t V U cl nc nl nt i m (N + 1) th K bl (b + 1)) (hB : ∀ j, j < n → B j < 256) (hg : grI s0 t0 s t cl0 cl m0 m N (N + 1) th0 th K0 K bl0 bl b key) (hth : th N = u) (hkey : key < 4 + 2 * N) (hb4 : bl (4 + 2 * N) = []) (hb5 : bl (5 + 2 * N) = []) (h164 : t.1 164 N = nI k) (hk : k = 17 ∨ k = 18) (hT : topI t b o q (nI N)) (hL : bl key = L) : innR en (d' + 15) (L_X6_readStatement_164 en D (nI N) (nI (b + 1)) (nI k) s) (bV (qev en D2 274 [.ref 151, .int (nI N), .int (0 : Int32)] t) (fun s => L_X12_readBlocks_0 en (d' + 15) s)) u B n s0 t0 s t V cl0 nc nl nt m0 N th0 K0 bl0 b key L o q := by
  have hN100 : N + 1 ≤ 100 := hP.2.1.2.2
  have pre : ∀ r, L_X6_readStatement_183 en D (nI N) (nI (b + 1)) (nI k) s = some r → L_X6_readStatement_164 en D (nI N) (nI (b + 1)) (nI k) s = some r := fun r hr => by
    refine le_X6_readStatement_164 en _ _ _ _ _ _ ?_
    rcases hk with z | z
    · rw [if_pos (by rw [z]; rfl)]; exact hr
    · rw [if_neg (by rw [z]; decide), if_pos (by rw [z]; rfl)]; exact hr
  have e1 : nI (b + 1) + (1 : Int32) = nI (b + 1 + 1) := n_ar
  have A := hI D D2 s t U cl i m (N + 1) th K bl (4 + 2 * N) (nI N) (nI N) 0 hF hD2 hP (Or.inr ⟨N, 0, by omega, by omega, by omega, rfl, rfl, rfl, hth⟩) (Or.inr ⟨by omega, by omega⟩) hb4
  rcases A with ⟨s2, t2, U2, cl2, i2, m2, N2, th2, K2, bl2, a1, a2, a3, a4⟩ | ⟨s2, t2, a1, a2, a3, a4, a5⟩
  · obtain ⟨hE, hN2, -⟩ := id a3
    have m7 := hE.1.2.2.1
    have gA := hg.inn a4 (by omega) (fun p hp => absurd hp (by omega))
    have hNN : N + 1 ≤ N2 := a4.1.2.1
    have f164 : t2.1 164 N = nI k := (a4.2.2.2.2.1 N (by omega)).trans h164
    have fT : topI t2 b o q (nI N) := by
      obtain ⟨z1, z2, z3⟩ := a4.2.2.2.1 b (by omega)
      exact ⟨z1.trans hT.1, z2.trans hT.2.1, z3.trans hT.2.2⟩
    have fL : bl2 key = L := (a4.2.2.1 key (by omega) (by omega)).trans hL
    have fne : ¬ nI N = (-2 : Int32) := fun z => (n_m2 (a := N) (by omega)).mp z
    have preM : ∀ (pt : Int32) (t : qS) (r : qR), t.1 151 7 = 0 → t.1 164 N = nI k → (if ¬ nI k = (17 : Int32) then L_X12_readBlocks_0 en (d' + 15) t else if ¬ pt = (0 : Int32) then L_X12_readBlocks_0 en (d' + 15) t else bI (qev en (d' + 15) 255 [.ref 151, .long (1701606245 : Int64)] t) (fun w25 s26 => if w25 = (0 : Int32) then L_X12_readBlocks_0 en (d' + 15) s26 else bV (qev en (d' + 15) 249 [.ref 151] s26) (fun s30 => bV (qev en (d' + 15) 274 [.ref 151, .int (nI N), .int (1 : Int32)] s30) (fun s33 => L_X12_readBlocks_0 en (d' + 15) s33)))) = some r → blkE en (d' + 15) (nI N) pt t = some r := fun pt t r h7 h164 hr => by
      show bI _ _ = _
      rw [m_goodL h7, bI_some, if_neg (by decide), if_neg fne, gd_in (by omega) (by decide), n_cl (by omega), h164]
      exact hr
    by_cases k17 : k = 17
    · have k17' : nI k = (17 : Int32) := by rw [k17]; rfl
      have hm := hE.1
      have e255 := m_isKeyW (en := en) (d := d' + 14) (j := 16) (C := 1701606245) hB hm.2 (by decide) (by decide +kernel)
      obtain ⟨sk0, sk1⟩ := x_116 (en := en) (k := 316) hm.1 ⟨by decide, by decide⟩
      have preX : ∀ r, bI (qev en D 116 [.ref 65, .int (316 : Int32)] s2) (fun w5 s6 => if w5 = (0 : Int32) then some (none, s6) else bV (qev en D 122 [.ref 65, .int (nI (b + 1) + (1 : Int32)), .int (nI N), .int (1 : Int32)] s6) (fun s10 => some (none, s10))) = some r → L_X6_readStatement_164 en D (nI N) (nI (b + 1)) (nI k) s = some r := fun r hr => pre r (by
        refine le_X6_readStatement_183 en _ _ _ _ _ _ ?_
        rw [e1, a1, bV_some, if_neg (not_not_intro k17')]
        rw [e1] at hr
        exact hr)
      obtain ⟨D', rfl⟩ : ∃ D', D = D' + 1 := ⟨D - 1, by omega⟩
      by_cases q316 : tkK B n i2 = 316
      · have hq : tkK B n i2 ≠ 0 := by rw [q316]; decide
        have adv : ∃ s' t', qev en D' 167 [.ref 1] s2 = some (none, s') ∧ qev en (d' + 15) 249 [.ref 151] t2 = some (none, t') ∧ adF s2 s' ∧ mvF t2 t' ∧ (rdL s' t' B n (i2 + 1) ∨ rdD s' t') := by
          obtain ⟨D, rfl⟩ : ∃ D, D' = D + 1 := ⟨D' - 1, by omega⟩
          exact adv_al (en := en) (d := D) (d' := d' + 12) hE.1 hq
        obtain ⟨s3, t3, c1, c2, c3, c4, c5⟩ := adv
        have wS : wkX s2 s3 := wkX.st (N := 0) (m := m2) (stF.tk (tnF.ad c3))
        have wM : wkM t2 t3 := wkM.mv c4
        have wS2 : wkX s s3 := a4.2.2.2.2.2.1.tr wS
        have wM2 : wkM t t3 := a4.2.2.2.2.2.2.tr wM
        have X1 : ∀ s4, qev en (D' + 1) 122 [.ref 65, .int (nI (b + 1 + 1)), .int (nI N), .int (1 : Int32)] s3 = some (none, s4) → L_X6_readStatement_164 en (D' + 1) (nI N) (nI (b + 1)) (nI k) s = some (none, s4) := fun s4 h => preX _ (by
          rw [show qev en (D' + 1) 116 [.ref 65, .int (316 : Int32)] s2 = _ from sk1 q316 D' s3 c1, bI_some, if_neg (by decide), e1, h, bV_some])
        have M1 : ∀ r, bV (qev en (d' + 15) 274 [.ref 151, .int (nI N), .int (1 : Int32)] t3) (fun s33 => L_X12_readBlocks_0 en (d' + 15) s33) = some r → bV (qev en D2 274 [.ref 151, .int (nI N), .int (0 : Int32)] t) (fun s => L_X12_readBlocks_0 en (d' + 15) s) = some r := fun r hr => a2 r (preM 0 t2 r m7 f164 (by
          rw [if_neg (not_not_intro k17'), if_neg (not_not_intro rfl), show qev en (d' + 15) 255 [.ref 151, .long (1701606245 : Int64)] t2 = _ from e255, bI_some, if_neg (by rw [decide_eq_true q316]; decide), c2, bV_some]
          exact hr))
        rcases c5 with c5 | c5
        · have hP3 := prR_tk a3 (tnF.ad c3) c4 c5
          have hth2 : th2 N = u := ((a4.2.1 N (by omega)).1).trans hth
          have hb52 : bl2 (5 + 2 * N) = [] := (a4.2.2.1 (5 + 2 * N) (by omega) (by omega)).trans hb5
          have A2 := hI (D' + 1) (d' + 15) s3 t3 U2 cl2 (i2 + 1) m2 N2 th2 K2 bl2 (5 + 2 * N) (nI N) (nI N) 1 hF (by omega) hP3 (Or.inr ⟨N, 1, by omega, by omega, by omega, rfl, rfl, rfl, hth2⟩) (Or.inr ⟨by omega, by omega⟩) hb52
          have gB : grI s0 t0 s3 t3 cl0 cl2 m0 m2 N N2 th0 th2 K0 K2 bl0 bl2 b key := gA.tr (hkey := hkey) ⟨⟨Nat.le_refl _, Nat.le_refl _, fun _ => Nat.le_refl _, fun p h1 h2 _ => absurd h2 (by omega)⟩, fun _ _ => ⟨rfl, rfl⟩, fun _ _ _ => rfl, fun j _ => ⟨by rw [c4.1 184 (by decide)], by rw [c4.1 185 (by decide)], by rw [c4.1 186 (by decide)]⟩, fun j _ => by rw [c4.1 164 (by decide)], wS, wM⟩
          rcases A2 with ⟨s4, t4, U4, cl4, i4, m4, N4, th4, K4, bl4, b1, b2, b3, b4⟩ | ⟨s4, t4, b1, b2, b3, b4, b5⟩
          · left
            refine ⟨s4, t4, U4, cl4, i4, m4, N4, th4, K4, bl4, X1 _ b1, fun r hr => M1 r (b2 r (preM 1 t4 r b3.1.1.2.2.1 ?_ ?_)), b3, gB.inn b4 (by omega) (fun p hp => by
              have e : p = N := by omega
              rw [e, b4.2.2.2.2.1 N (by omega), c4.1 164 (by decide), f164, k17]
              rfl), ?_, ?_, ?_, ?_, ?_⟩
            · rw [b4.2.2.2.2.1 N (by omega), c4.1 164 (by decide)]; exact f164
            · rw [if_neg (not_not_intro k17'), if_pos (by decide)]; exact hr
            · have := b4.1.2.1
              omega
            · rw [b4.2.2.1 key (by omega) (by omega)]; exact fL
            · rw [(b4.2.2.2.1 b (by omega)).1, c4.1 184 (by decide)]; exact fT.1
            · rw [(b4.2.2.2.1 b (by omega)).2.1, c4.1 185 (by decide)]; exact fT.2.1
            · rw [(b4.2.2.2.1 b (by omega)).2.2, c4.1 186 (by decide)]; exact fT.2.2
          · right
            exact ⟨s4, t4, X1 _ b1, M1 _ b2, b3, wS2.tr b4, wM2.tr b5⟩
        · right
          obtain ⟨F', p', z1, z2⟩ := id c5
          obtain ⟨s4, y1, y2, y3⟩ := xD_122 (en := en) (d := D' - 3) (dp := nI (b + 1 + 1)) (pa := nI N) (pt := 1) z1
          rw [show D' - 3 + 4 = D' + 1 by omega] at y1
          refine ⟨s4, t3, X1 _ y1, M1 _ ?_, ⟨F', p', y3, z2⟩, wS2.tr (wkX.bm y2), wM2⟩
          rw [show d' + 15 = d' + 12 + 3 from rfl, m_274D z2, bV_some]
          exact m_L0D (d := d' + 14) z2
      · left
        refine ⟨s2, t2, U2, cl2, i2, m2, N2, th2, K2, bl2, preX _ ?_, fun r hr => a2 r (preM 0 t2 r m7 f164 ?_), a3, gA, by omega, fL, fT⟩
        · have := sk0 q316 D'
          rw [show qev en (D' + 1) 116 [.ref 65, .int (316 : Int32)] s2 = some (some (.int 0), s2) from this, bI_some, if_pos rfl]
        · rw [if_neg (not_not_intro k17'), if_neg (not_not_intro rfl), show qev en (d' + 15) 255 [.ref 151, .long (1701606245 : Int64)] t2 = _ from e255, bI_some, if_pos (by rw [decide_eq_false q316]; rfl)]
          exact hr
    · left
      have k17' : ¬ nI k = (17 : Int32) := by rw [n_eq (by decide) (by omega)]; exact k17
      refine ⟨s2, t2, U2, cl2, i2, m2, N2, th2, K2, bl2, pre _ (le_X6_readStatement_183 en _ _ _ _ _ _ ?_), fun r hr => a2 r (preM 0 t2 r m7 f164 ?_), a3, gA, by omega, fL, fT⟩
      · rw [e1, a1, bV_some, if_pos k17']
      · rw [if_pos k17']; exact hr
  · right
    obtain ⟨F', p', z1, z2⟩ := id a3
    refine ⟨s2, t2, pre _ (le_X6_readStatement_183 en _ _ _ _ _ _ ?_), a2, a3, a4, a5⟩
    obtain ⟨D', rfl⟩ : ∃ D', D = D' + 1 := ⟨D - 1, by omega⟩
    rw [e1, a1, bV_some]
    by_cases k17 : k = 17
    · rw [if_neg (by rw [k17]; exact not_not_intro rfl), show qev en (D' + 1) 116 [.ref 65, .int (316 : Int32)] s2 = _ from x_deadSkip (m := 316) z1 ⟨by decide, by decide⟩, bI_some, if_pos rfl]
    · rw [if_pos (by rw [n_eq (by decide) (by omega)]; exact k17)]
end BLJ
