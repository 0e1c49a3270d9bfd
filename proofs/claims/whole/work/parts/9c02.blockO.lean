/-! THE READER: blocks on both sides: how they open, how they end. -/
/-- the model behind the end of a block -/
noncomputable abbrev blkE (en : pN) (D : Nat) (ow pt : Int32) (t : qS) : Option qR := bI (qev en D 243 [.ref 151] t) (fun w17 s18 => if w17 = (0 : Int32) then L_X12_readBlocks_0 en D s18 else if ow = (-2 : Int32) then L_X12_readBlocks_0 en D s18 else gd (p_inB ow 400 = true) (if ¬ (s18.1 164 ow.toNatClampNeg) = (17 : Int32) then L_X12_readBlocks_0 en D s18 else if ¬ pt = (0 : Int32) then L_X12_readBlocks_0 en D s18 else bI (qev en D 255 [.ref 151, .long (1701606245 : Int64)] s18) (fun w25 s26 => if w25 = (0 : Int32) then L_X12_readBlocks_0 en D s26 else bV (qev en D 249 [.ref 151] s26) (fun s30 => bV (qev en D 274 [.ref 151, .int ow, .int (1 : Int32)] s30) (fun s33 => L_X12_readBlocks_0 en D s33)))))
/-- new lines within an else: their line is an if -/
abbrev elI (bl : Nat → List Nat) (t : qS) (N N' : Nat) : Prop := ∀ p, N ≤ p → p < N' → bl (5 + 2 * p) ≠ [] → t.1 164 p = 17
/-- what reading within block key has left as it was -/
abbrev grI (s t s' t' : qS) (cl cl' : Nat → Nat) (m m' N N' : Nat) (th th' K K' : Nat → Nat) (bl bl' : Nat → List Nat) (b key : Nat) : Prop := (m ≤ m' ∧ N ≤ N' ∧ (∀ w, cl w ≤ cl' w) ∧ elI bl' t' N N') ∧ (∀ i, i < N → th' i = th i ∧ K' i = K i) ∧ (∀ k, k ≠ key → k < 4 + 2 * N → bl' k = bl k) ∧ (∀ j, j < b → t'.1 184 j = t.1 184 j ∧ t'.1 185 j = t.1 185 j ∧ t'.1 186 j = t.1 186 j) ∧ (∀ j, j < N → t'.1 164 j = t.1 164 j) ∧ wkX s s' ∧ wkM t t'
/-- behind a block -/
abbrev blkR (en : pN) (D : Nat) (R X : Option qR) (u : Nat) (B : Nat → Nat) (n : Nat) (s t : qS) (V cl : Nat → Nat) (nc nl nt m N : Nat) (th K : Nat → Nat) (bl : Nat → List Nat) (b key : Nat) (ow pt : Int32) : Prop :=
  (∃ (s' t' : qS) (U' : Nat → Nat → Nat) (cl' : Nat → Nat) (i' m' N' : Nat) (th' K' : Nat → Nat) (bl' : Nat → List Nat), R = some (none, s') ∧ (∀ r, blkE en D ow pt t' = some r → X = some r) ∧ prR u B n s' t' V U' cl' nc nl nt i' m' N' th' K' bl' b ∧ grI s t s' t' cl cl' m m' N N' th th' K K' bl bl' b key) ∨
  (∃ s' t' : qS, R = some (none, s') ∧ X = some (none, t') ∧ rdD s' t' ∧ wkX s s' ∧ wkM t t')
/-- behind something that the loop goes on from -/
abbrev itR (en : pN) (D : Nat) (R X : Option qR) (u : Nat) (B : Nat → Nat) (n : Nat) (s t : qS) (V cl : Nat → Nat) (nc nl nt m N : Nat) (th K : Nat → Nat) (bl : Nat → List Nat) (b key : Nat) : Prop :=
  (∃ (s' t' : qS) (U' : Nat → Nat → Nat) (cl' : Nat → Nat) (i' m' N' : Nat) (th' K' : Nat → Nat) (bl' : Nat → List Nat), R = some (none, s') ∧ (∀ r, L_X12_readBlocks_0 en D t' = some r → X = some r) ∧ prR u B n s' t' V U' cl' nc nl nt i' m' N' th' K' bl' (b + 1) ∧ grI s t s' t' cl cl' m m' N N' th th' K K' bl bl' b key ∧ N < N' ∧ bl' key = bl key ++ [N] ∧ topI t' b (t.1 184 b) (t.1 185 b) (nI N)) ∨
  (∃ s' t' : qS, R = some (none, s') ∧ X = some (none, t') ∧ rdD s' t' ∧ wkX s s' ∧ wkM t t')
section BLO
variable {en : pN} {d d' k b i i' n N N' j x y r m m' u F p nc nl nt D m0 key key' un : Nat} {V cl cl' cl'' th th' th'' K K' K'' : Nat → Nat} {U U' : Nat → Nat → Nat} {s s' s'' s0 t t' t'' t0 t1 : qS} {B : Nat → Nat} {v w dp pa pt lv ow kk kk' la laM : Int32} {lo : Option Nat} {bl bl' bl'' : Nat → List Nat}
theorem grI.rf : grI s t s t cl cl m m N N th th K K bl bl b key := ⟨⟨Nat.le_refl _, Nat.le_refl _, fun _ => Nat.le_refl _, fun p h1 h2 _ => absurd h2 (by omega)⟩, fun _ _ => ⟨rfl, rfl⟩, fun _ _ _ => rfl, fun _ _ => ⟨rfl, rfl, rfl⟩, fun _ _ => rfl, wkX.rf, wkM.rf⟩
theorem grI.tr {m'' N'' : Nat} (h : grI s t s' t' cl cl' m m' N N' th th' K K' bl bl' b key) (g : grI s' t' s'' t'' cl' cl'' m' m'' N' N'' th' th'' K' K'' bl' bl'' b key) (hkey : key < 4 + 2 * N) : grI s t s'' t'' cl cl'' m m'' N N'' th th'' K K'' bl bl'' b key := by
  obtain ⟨⟨a1, a2, a3, x1⟩, b1, c1, d1, e1, f1, g1⟩ := h
  obtain ⟨⟨a4, a5, a6, x2⟩, b2, c2, d2, e2, f2, g2⟩ := g
  have xx : elI bl'' t'' N N'' := fun p h1 h2 h3 => by
    by_cases q : p < N'
    · rw [e2 p q]
      exact x1 p h1 q (by rw [← c2 (5 + 2 * p) (by omega) (by omega)]; exact h3)
    · exact x2 p (by omega) h2 h3
  exact ⟨⟨Nat.le_trans a1 a4, Nat.le_trans a2 a5, fun w => Nat.le_trans (a3 w) (a6 w), xx⟩, fun i hi => ⟨(b2 i (by omega)).1.trans (b1 i hi).1, (b2 i (by omega)).2.trans (b1 i hi).2⟩, fun k h1 h2 => (c2 k h1 (by omega)).trans (c1 k h1 h2), fun j hj => ⟨(d2 j hj).1.trans (d1 j hj).1, (d2 j hj).2.1.trans (d1 j hj).2.1, (d2 j hj).2.2.trans (d1 j hj).2.2⟩, fun j hj => (e2 j (by omega)).trans (e1 j hj), f1.tr f2, g1.tr g2⟩
/-- a block within: from N lines on -/
theorem grI.inn {m'' N'' : Nat} (h : grI s t s' t' cl cl' m m' N N' th th' K K' bl bl' b key) (g : grI s' t' s'' t'' cl' cl'' m' m'' N' N'' th' th'' K' K'' bl' bl'' (b + 1) key') (hk : 4 + 2 * N ≤ key') (hel : ∀ p, key' = 5 + 2 * p → t''.1 164 p = 17) : grI s t s'' t'' cl cl'' m m'' N N'' th th'' K K'' bl bl'' b key := by
  obtain ⟨⟨a1, a2, a3, x1⟩, b1, c1, d1, e1, f1, g1⟩ := h
  obtain ⟨⟨a4, a5, a6, x2⟩, b2, c2, d2, e2, f2, g2⟩ := g
  have xx : elI bl'' t'' N N'' := fun p h1 h2 h3 => by
    by_cases q : p < N'
    · by_cases y : 5 + 2 * p = key'
      · exact hel p y.symm
      · rw [e2 p q]
        exact x1 p h1 q (by rw [← c2 (5 + 2 * p) y (by omega)]; exact h3)
    · exact x2 p (by omega) h2 h3
  exact ⟨⟨Nat.le_trans a1 a4, Nat.le_trans a2 a5, fun w => Nat.le_trans (a3 w) (a6 w), xx⟩, fun i hi => ⟨(b2 i (by omega)).1.trans (b1 i hi).1, (b2 i (by omega)).2.trans (b1 i hi).2⟩, fun k h1 h2 => (c2 k (by omega) (by omega)).trans (c1 k h1 h2), fun j hj => ⟨(d2 j (by omega)).1.trans (d1 j hj).1, (d2 j (by omega)).2.1.trans (d1 j hj).2.1, (d2 j (by omega)).2.2.trans (d1 j hj).2.2⟩, fun j hj => (e2 j (by omega)).trans (e1 j hj), f1.tr f2, g1.tr g2⟩
/-- the model's loop behind a fault -/
theorem m_L0D (h : mtD t F p) : L_X12_readBlocks_0 en (d + 1) t = some (none, t) := by
  refine le_X12_readBlocks_0 en _ _ _ ?_
  rw [m_goodD h, bI_some, if_pos rfl]
theorem m_274D (h : mtD t F p) : qev en (d + 3) 274 [.ref 151, .int v, .int w] t = some (none, t) := by
  refine le_X12_openBlock en _ _ _ _ _ ?_
  rw [m_goodD h, bI_some, if_pos rfl]
  refine le_X12_openBlock_26 en _ _ _ _ _ ?_
  rw [m_goodD h, bI_some, if_pos rfl]
  refine le_X12_openBlock_52 en _ _ _ _ _ ?_
  rw [m_goodD h, bI_some, if_pos rfl]
  refine le_X12_openBlock_100 en _ _ _ ?_
  rw [m_nextD h, bV_some]
/-- the class's loop behind a fault -/
theorem xD_35 (h : dX s F p) {v5 : Int32} (h5 : ¬ (100 : Int32) < v5) : L_X6_readBlock_35 en (d + 3) dp pa pt la v5 s = some (none, bmS s 2) := by
  refine le_X6_readBlock_35 en _ _ _ _ _ _ _ _ ?_
  have e123 : qev en (d + 3) 123 [.ref 65] s = some (some (.int 0), bmS s 2) := by
    refine le_X6_mayBegin en _ _ _ ?_
    rw [if_pos (dX_2 h)]
    refine le_X6_mayBegin_16 en _ _ _ _ ?_
    rw [if_pos rfl]
    refine le_X6_mayBegin_39 en _ _ _ _ _ ?_
    rw [if_neg (not_not_intro rfl), if_pos (by
      rcases dX_kind h with z | z <;> (rw [z]; decide))]
    refine le_X6_mayBegin_70 en _ _ _ ?_
    rw [x_blame, bV_some]
    refine le_X6_mayBegin_117 en _ _ _ ?_
    rw [if_pos bmS_0]
  rw [if_neg h5, if_neg (dX_125 h), e123, bI_some, if_neg (not_not_intro rfl)]
/-- rows of the stack are no lines' -/
theorem lnB_mr (h : lnB s t nc nl nt m cl th i) (e : ∀ a, 161 ≤ a → a < 184 → t'.1 a = t.1 a) (g : t'.2.1 = t.2.1) : lnB s t' nc nl nt m cl th i := by
  obtain ⟨k, ⟨h1, h2, h3⟩, ⟨h4, h5, h6⟩, h7, ⟨h8, h9⟩, ⟨h10, h11⟩, h12, ⟨h13, h14⟩, h15, h16, h17, h18, h19, h20⟩ := h
  have ex : ∀ A E A' E' : Int32, exA s t (th i) m A E A' E' → exA s t' (th i) m A E A' E' := fun A E A' E' h => by
    obtain ⟨a, e', h1, h2, h3 | ⟨h3, h4, h4', h5, h6, h7, h8⟩⟩ := h
    · exact ⟨a, e', h1, h2, Or.inl h3⟩
    · exact ⟨a, e', h1, h2, Or.inr ⟨h3, h4, h4', h5, h6, fun j j1 j2 => nd1_eq (h7 j j1 j2) rfl rfl (by rw [e 161 (by decide) (by decide)]) (by rw [e 162 (by decide) (by decide)]), h8⟩⟩
  exact ⟨k, ⟨h1, h2, by rw [e 164 (by decide) (by decide)]; exact h3⟩, ⟨h4, h5, by rw [e 165 (by decide) (by decide)]; exact h6⟩, by rw [e 166 (by decide) (by decide)]; exact h7, ⟨h8, h9⟩, ⟨by rw [e 167 (by decide) (by decide)]; exact h10, h11⟩, by rw [e 168 (by decide) (by decide)]; exact h12, ⟨h13, by rw [e 175 (by decide) (by decide)]; exact h14⟩, by rw [e 176 (by decide) (by decide), e 177 (by decide) (by decide)]; exact ex _ _ _ _ h15, by rw [e 178 (by decide) (by decide), e 179 (by decide) (by decide)]; exact ex _ _ _ _ h16, h17, h18, by rw [g]; exact h19, by rw [g, e 183 (by decide) (by decide)]; exact h20⟩
theorem lnG_mr (h : lnG s t nt N K th bl) (e : ∀ a, 161 ≤ a → a < 184 → t'.1 a = t.1 a) : lnG s t' nt N K th bl := by
  unfold lnG
  rw [e 171 (by decide) (by decide), e 181 (by decide) (by decide), e 172 (by decide) (by decide), e 173 (by decide) (by decide), e 169 (by decide) (by decide), e 170 (by decide) (by decide)]
  exact h
/-- tokens move on in a program -/
theorem prR_tk (h : prR u B n s t V U cl nc nl nt i m N th K bl b) (f : tnF s s') (g : mvF t t') (hl : rdL s' t' B n i') : prR u B n s' t' V U cl nc nl nt i' m N th K bl b := by
  obtain ⟨hE, ⟨h12, h32, hN⟩, hln, hG, h56, hW⟩ := h
  have hm4 := hE.2.2.2.2.1.2.2
  exact ⟨exS_tk hE f g hl, ⟨by rw [f.1 11 (by decide) (by decide)]; exact h12, by rw [g.2.1 32 (by decide) (by decide) (by decide) (by decide) (by decide) (by decide)]; exact h32, hN⟩, fun i hi => lnB_tk (hln i hi) hm4 f g, lnG_fr hG (m := m) (z := N) (stF.tk f) (Nat.le_refl N) (smF.mv g), by rw [g.2.1 56 (by decide) (by decide) (by decide) (by decide) (by decide) (by decide)]; exact h56, fun j hj => by rw [f.2.2.2.1 66 (by decide)]; exact hW j hj⟩
theorem prR_56 (h : prR u B n s t V U cl nc nl nt i m N th K bl b) : prR u B n s (uI t 151 56 (nI k)) V U cl nc nl nt i m N th K bl k := by
  obtain ⟨hE, ⟨h12, h32, hN⟩, hln, hG, h56, hW⟩ := h
  have e : ∀ a, 161 ≤ a → a < 184 → (uI t 151 56 (nI k)).1 a = t.1 a := fun a h _ => uI_ne (by omega)
  exact ⟨exS_mf hE (Or.inr rfl), ⟨h12, by rw [rdU, if_neg (by decide)]; exact h32, hN⟩, fun i hi => lnB_mr (hln i hi) e rfl, lnG_mr hG e, rdW, hW⟩
theorem prR_stk {a : Nat} (h : prR u B n s t V U cl nc nl nt i m N th K bl b) (ha : a = 184 ∨ a = 185 ∨ a = 186) : prR u B n s (uI t a j v) V U cl nc nl nt i m N th K bl b := by
  obtain ⟨hE, ⟨h12, h32, hN⟩, hln, hG, h56, hW⟩ := h
  have e : ∀ c, 161 ≤ c → c < 184 → (uI t a j v).1 c = t.1 c := fun c _ h => uI_ne (by omega)
  exact ⟨exS_mi hE (by omega), ⟨h12, by rw [uI_ne (by omega)]; exact h32, hN⟩, fun i hi => lnB_mr (hln i hi) e rfl, lnG_mr hG e, by rw [uI_ne (by omega)]; exact h56, hW⟩
/-- a block opens, or a fault -/
theorem open_al (hP : prR u B n s t V U cl nc nl nt i m N th K bl b) (hb : b ≤ 9) : (∃ s' t', (∀ r, L_X6_readBlock_35 en (d + 3) (nI (b + 1)) pa pt (-1) 0 s' = some r → qev en (d + 4) 122 [.ref 65, .int (nI (b + 1)), .int pa, .int pt] s = some r) ∧ qev en (d' + 5) 274 [.ref 151, .int ow, .int pt] t = some (none, t') ∧ b ≤ 8 ∧ prR u B n s' t' V U cl nc nl nt (i + 1) m N th K bl (b + 1) ∧ topI t' b ow pt (-2) ∧ (∀ j, j < b → t'.1 184 j = t.1 184 j ∧ t'.1 185 j = t.1 185 j ∧ t'.1 186 j = t.1 186 j) ∧ (∀ j, t'.1 164 j = t.1 164 j) ∧ wkX s s' ∧ wkM t t') ∨ (∃ s' t', qev en (d + 4) 122 [.ref 65, .int (nI (b + 1)), .int pa, .int pt] s = some (none, s') ∧ qev en (d' + 5) 274 [.ref 151, .int ow, .int pt] t = some (none, t') ∧ rdD s' t' ∧ wkX s s' ∧ wkM t t') := by
  obtain ⟨hE, -, -, -, h56, -⟩ := id hP
  obtain ⟨hi, c1, -, -⟩ := cL_at hE.1.1
  have hx := tkK_lt hi
  have m7 := hE.1.2.2.1
  have m3 := hE.1.2.2.2.2.2.2.1
  obtain ⟨k1, -, -, k4⟩ := kdM_v hx
  by_cases q : tkK B n i = 123
  · have m3' : t.1 151 3 = (123 : Int32) := by rw [m3, q]; rfl
    have preM : ∀ r, (if (8 : Int32) < nI b then L_X12_openBlock_48 en (d' + 4) ow pt 0 t else L_X12_openBlock_48 en (d' + 4) ow pt 1 t) = some r → qev en (d' + 5) 274 [.ref 151, .int ow, .int pt] t = some r := fun r hr => by
      refine le_X12_openBlock en _ _ _ _ _ ?_
      rw [m_goodL m7, bI_some, if_neg (by decide), if_neg (not_not_intro m3')]
      refine le_X12_openBlock_22 en _ _ _ _ _ _ ?_
      rw [m_needT, bV_some]
      refine le_X12_openBlock_26 en _ _ _ _ _ ?_
      rw [m_goodL m7, bI_some, if_neg (by decide), h56]
      exact hr
    by_cases q8 : b ≤ 8
    · have hP1 : prR u B n s (uI (uI (uI (uI t 184 b ow) 185 b pt) 186 b (-2)) 151 56 (nI (b + 1))) V U cl nc nl nt i m N th K bl (b + 1) := prR_56 (prR_stk (prR_stk (prR_stk hP (Or.inl rfl)) (Or.inr (Or.inl rfl))) (Or.inr (Or.inr rfl)))
      obtain ⟨s1, t1, e1, e2, e3, e4, e5⟩ := adv_al (en := en) (d := d + 1) (d' := d' + 1) hP1.1.1 (by omega)
      have e2' : qev en (d' + 4) 249 [.ref 151] (uI (uI (uI (uI t 184 b ow) 185 b pt) 186 b (-2)) 151 56 (nI (b + 1))) = some (none, t1) := e2
      have eM : qev en (d' + 5) 274 [.ref 151, .int ow, .int pt] t = some (none, t1) := preM _ (by
        rw [if_neg (by rw [n_lt (by decide) (by omega)]; omega)]
        refine le_X12_openBlock_48 en _ _ _ _ _ _ ?_
        rw [m_needT, bV_some]
        refine le_X12_openBlock_52 en _ _ _ _ _ ?_
        have a1 : (uI t 184 b ow).1 151 56 = nI b := by rw [uI_ne (by decide)]; exact h56
        have a2 : (uI (uI t 184 b ow) 185 b pt).1 151 56 = nI b := by rw [uI_ne (by decide)]; exact a1
        have a3 : (uI (uI (uI t 184 b ow) 185 b pt) 186 b (-2)).1 151 56 = nI b := by rw [uI_ne (by decide)]; exact a2
        rw [m_goodL m7, bI_some, if_neg (by decide), h56, gd_in (by omega) (by decide), n_cl (by omega), nm_eq, a1, gd_in (by omega) (by decide), n_cl (by omega), nm_eq, a2, gd_in (by omega) (by decide), n_cl (by omega), nm_eq, a3, show nI b + (1 : Int32) = nI (b + 1) from n_ar, nm_eq]
        refine le_X12_openBlock_100 en _ _ _ ?_
        rw [e2', bV_some])
      have preX : ∀ r, L_X6_readBlock_35 en (d + 3) (nI (b + 1)) pa pt (-1) 0 s1 = some r → qev en (d + 4) 122 [.ref 65, .int (nI (b + 1)), .int pa, .int pt] s = some r := fun r hr => by
        refine le_X6_readBlock en _ _ _ _ _ _ ?_
        rw [if_neg (by rw [c1, q]; exact not_not_intro rfl), if_pos (by rw [n_ge (by decide) (by omega)]; omega)]
        refine le_X6_readBlock_23 en _ _ _ _ _ _ ?_
        have e115 : qev en (d + 3) 115 [.ref 65, .int (123 : Int32)] s = some (none, s1) := by
          rcases x_need (en := en) (k := 123) hE.1 ⟨by omega, by omega⟩ with ⟨_, f⟩ | ⟨f, _⟩
          · exact f (d + 1) s1 e1
          · exact absurd q f
        rw [e115, bV_some]
        exact hr
      have wX : wkX s s1 := wkX.st (N := 0) (m := m) (stF.tk (tnF.ad e3))
      have wM : wkM t t1 := (((wkM.ui (by decide)).tr (wkM.ui (by decide))).tr (wkM.ui (by decide))).tr ((wkM.uf rfl).tr (wkM.mv e4))
      have o : ∀ a, a ≠ 151 → t1.1 a = (uI (uI (uI t 184 b ow) 185 b pt) 186 b (-2)).1 a := fun a h => by rw [e4.1 a h, uI_ne h]
      rcases e5 with e5 | e5
      · left
        refine ⟨s1, t1, preX, eM, q8, prR_tk hP1 (tnF.ad e3) e4 e5, ⟨?_, ?_, ?_⟩, fun j hj => ⟨?_, ?_, ?_⟩, fun j => ?_, wX, wM⟩
        · rw [o 184 (by decide), uI_ne (by decide), uI_ne (by decide), rdW]
        · rw [o 185 (by decide), uI_ne (by decide), rdW]
        · rw [o 186 (by decide), rdW]
        · rw [o 184 (by decide), uI_ne (by decide), uI_ne (by decide), rdU, if_neg (by omega)]
        · rw [o 185 (by decide), uI_ne (by decide), rdU, if_neg (by omega), uI_ne (by decide)]
        · rw [o 186 (by decide), rdU, if_neg (by omega), uI_ne (by decide), uI_ne (by decide)]
        · rw [o 164 (by decide), uI_ne (by decide), uI_ne (by decide), uI_ne (by decide)]
      · right
        obtain ⟨F', p', g1, g2⟩ := id e5
        exact ⟨bmS s1 2, t1, preX _ (xD_35 (d := d) g1 (by decide)), eM, rdD_bm e5, wX.tr (wkX.bm bmS_F), wM⟩
    · right
      obtain ⟨t1, w1, w2, w3⟩ := fault_st (en := en) (d' := d' + 2) (k := 4) hE ⟨by decide, by decide⟩
      have w1' : qev en (d' + 4) 245 [.ref 151, .int (0 : Int32), .int (4 : Int32)] t = some (none, t1) := w1
      obtain ⟨F', p', g1, g2⟩ := w3
      have g1' := bmS_dead (k := 2) g1
      refine ⟨bmS (bmS (bmS s 4) 2) 2, t1, le_X6_readBlock en _ _ _ _ _ _ ?_, preM _ ?_, ⟨F', p', bmS_dead g1', g2⟩, ((wkX.bm bmS_F).tr (wkX.bm bmS_F)).tr (wkX.bm bmS_F), wkM.mv w2⟩
      · rw [if_neg (by rw [c1, q]; exact not_not_intro rfl), if_neg (by rw [n_ge (by decide) (by omega)]; omega), x_blame, bV_some]
        refine le_X6_readBlock_23 en _ _ _ _ _ _ ?_
        have g1'' : dX (bmS s 4) F' p' := g1
        rw [show d + 3 = d + 1 + 2 from rfl, xDn123 g1'', bV_some]
        exact xD_35 (d := d) g1' (by decide)
      · rw [if_pos (by rw [n_lt (by decide) (by omega)]; omega)]
        refine le_X12_openBlock_48 en _ _ _ _ _ _ ?_
        rw [w1', bV_some]
        refine le_X12_openBlock_52 en _ _ _ _ _ ?_
        rw [m_goodD g2, bI_some, if_pos rfl]
        refine le_X12_openBlock_100 en _ _ _ ?_
        rw [show d' + 4 = d' + 2 + 2 from rfl, m_nextD g2, bV_some]
  · right
    obtain ⟨t1, w1, w2, w3⟩ := fault_st (en := en) (d' := d' + 2) (k := 2) hE ⟨by decide, by decide⟩
    have w1' : qev en (d' + 4) 245 [.ref 151, .int (0 : Int32), .int (2 : Int32)] t = some (none, t1) := w1
    obtain ⟨F', p', g1, g2⟩ := w3
    have g1'' : dX (bmS s 2) F' p' := g1
    refine ⟨bmS (bmS s 2) 2, t1, le_X6_readBlock en _ _ _ _ _ _ ?_, le_X12_openBlock en _ _ _ _ _ ?_, ⟨F', p', bmS_dead g1'', g2⟩, (wkX.bm bmS_F).tr (wkX.bm bmS_F), wkM.mv w2⟩
    · rw [if_pos (by rw [c1, n_eq (by decide) (by omega)]; exact q)]
      refine le_X6_readBlock_23 en _ _ _ _ _ _ ?_
      have e115 : qev en (d + 3) 115 [.ref 65, .int (123 : Int32)] s = some (none, bmS s 2) := by
        rcases x_need (en := en) (k := 123) hE.1 ⟨by omega, by omega⟩ with ⟨f, _⟩ | ⟨_, f⟩
        · exact absurd f q
        · exact f (d + 1)
      rw [e115, bV_some]
      exact xD_35 (d := d) g1'' (by decide)
    · rw [m_goodL m7, bI_some, if_neg (by decide), if_pos (by rw [m3, n_eq (by decide) (by omega)]; exact fun z => q ((k4 123 (by decide) (by decide)).mp z))]
      refine le_X12_openBlock_22 en _ _ _ _ _ _ ?_
      rw [w1', bV_some]
      refine le_X12_openBlock_26 en _ _ _ _ _ ?_
      rw [m_goodD g2, bI_some, if_pos rfl]
      refine le_X12_openBlock_52 en _ _ _ _ _ ?_
      rw [m_goodD g2, bI_some, if_pos rfl]
      refine le_X12_openBlock_100 en _ _ _ ?_
      rw [show d' + 4 = d' + 2 + 2 from rfl, m_nextD g2, bV_some]
end BLO
