/-! LAWS, the class's side: which states a fact holds in. -/
/-- a law's expression lies well -/
abbrev LV (O Q : fI) (a e : Nat) : Prop := (a ≤ e ∧ e ≤ 400) ∧ dpk O Q 236 (e - a) a 0 ∧ ∀ j, a ≤ j → j < e → (O j = nI 2 → ∃ q, Q j = nI q ∧ q < 236 ∧ (q < 233 ∨ q = 234)) ∧ (O j = nI 3 → ∃ q, Q j = nI q ∧ q / 8 < 233)
/-- a state that is stuck, as its marks tell -/
def stkB (P : Nat → fI) (w nt : Nat) (X : xT) (v : Nat) : Bool := decide (rdl P w (xS X v) nt nt = []) && !decide (soS (xS X v) nt = 0)
/-- the fact holds in a state of X -/
def lawB (P : Nat → fI) (w nt : Nat) (X : xT) (O Q : fI) (a e v : Nat) : Bool := lwT O Q (upd (xS X v) 234 (bt (stkB P w nt X v))) a e
section FLG
variable {en : pN} {d i n top w nc nl nt p k : Nat} {v b : Int32} {τ s s' : qS} {F N N' G O Q : fI} {P : Nat → fI} {X : xT} {fw : Bool}
theorem and_32 {m : Nat} : m &&& 32 = if m.testBit 5 = true then 32 else 0 := by
  refine Nat.eq_of_testBit_eq fun i => ?_
  rw [Nat.testBit_and, show (32 : Nat) = 2 ^ 5 from rfl, Nat.testBit_two_pow]
  by_cases q : 5 = i
  · subst q
    rw [decide_eq_true rfl, Bool.and_true]
    cases h : m.testBit 5
    · rw [if_neg (by decide), Nat.zero_testBit]
    · rw [if_pos rfl, Nat.testBit_two_pow, decide_eq_true rfl]
  · rw [decide_eq_false q, Bool.and_false]
    split
    · rw [Nat.testBit_two_pow, decide_eq_false q]
    · rw [Nat.zero_testBit]
theorem wk_N (h : ∀ j, (j < 233 ∨ j = 234) → N j = N' j) : ∀ (n i top : Nat) (f : fI), dpk O Q 236 n i top → (∀ j, i ≤ j → j < i + n → (O j = nI 2 → ∃ q, Q j = nI q ∧ q < 236 ∧ (q < 233 ∨ q = 234)) ∧ (O j = nI 3 → ∃ q, Q j = nI q ∧ q / 8 < 233)) → wk O Q N n i f top = wk O Q N' n i f top := by
  intro n
  induction n with
  | zero => intro _ _ _ _ _; rfl
  | succ n ih =>
    intro i top f hd hq
    obtain ⟨⟨k, hk, hOi, ha, h2, h3⟩, hd2⟩ := hd
    have hk' := op_lt k hk
    have hck : (O i).toNatClampNeg = k := by rw [hOi]; exact n_cl (by omega)
    obtain ⟨q2, q3⟩ := hq i (Nat.le_refl _) (by omega)
    have hap : ∀ a b, ap k (Q i) a b N = ap k (Q i) a b N' := fun a b => by
      unfold ap
      by_cases k1 : k = 1
      · rw [if_pos k1, if_pos k1]
      rw [if_neg k1, if_neg k1]
      by_cases k2 : k = 2
      · rw [if_pos k2, if_pos k2]
        obtain ⟨q, e1, e2, e3⟩ := q2 (by rw [hOi, k2])
        rw [e1, n_cl (by omega)]
        exact h q e3
      rw [if_neg k2, if_neg k2]
      by_cases k3 : k = 3
      · rw [if_pos k3, if_pos k3]
        obtain ⟨q, e1, e2⟩ := q3 (by rw [hOi, k3])
        rw [e1, n_d8 (by omega), n_cl (by omega), h _ (Or.inl e2)]
      rw [if_neg k3, if_neg k3]
    unfold wk
    dsimp only
    rw [hck, hap]
    rw [hck] at hd2
    rw [ih (i + 1) _ _ hd2 (fun j h1 h2 => hq j (by omega) (by omega))]
theorem lwT_N (hL : LV O Q k n) (h : ∀ j, (j < 233 ∨ j = 234) → N j = N' j) : lwT O Q N k n = lwT O Q N' k n := by
  unfold lwT lwE
  rw [wk_N h (n - k) k 0 _ hL.2.1 (fun j h1 h2 => hL.2.2 j h1 (by have := hL.1.1; omega))]
theorem mS_N {m : Nat} : mS τ m (τ.1 m) N (τ.1 7 4) (τ.1 10) = uIr τ (m + 1) N := by
  refine Prod.ext (funext fun a => funext fun k => ?_) rfl
  show (if a = m then τ.1 m k else if a = m + 1 then N k else if a = 10 then τ.1 10 k else if a = 7 ∧ k = 4 then τ.1 7 4 else τ.1 a k) = (uIr τ (m + 1) N).1 a k
  by_cases q0 : a = m + 1
  · rw [q0, uIr_row, if_neg (by omega), if_pos rfl]
  · rw [uIr_ne q0, if_neg q0]
    by_cases q1 : a = m
    · rw [if_pos q1, q1]
    · rw [if_neg q1]
      by_cases q2 : a = 10
      · rw [if_pos q2, q2]
      · rw [if_neg q2]
        by_cases q3 : a = 7 ∧ k = 4
        · rw [if_pos q3, q3.1, q3.2]
        · rw [if_neg q3]
/-- a state of X comes into the machine -/
theorem x_stateJ (hP : PV P nc nl nt n) (hX : XV P w nc nl nt n X) (hx : EXx P w nc nl nt n p fw X τ) (hk : k < xN X) : ∃ N1 : fI, qev en (d + 1) 39 [.ref 71, .ref 84, .int (nI k * τ.1 83 4)] τ = some (none, uIr τ 72 N1) ∧ eqS N1 (xS X k) ∧ N1 235 = 0 ∧ SV P w nc nl nt n N1 := by
  obtain ⟨hf, hN, hN5⟩ := hx.flat
  obtain ⟨⟨⟨x1, x2, x3, x4, x5, x6, x7, x8, x9⟩, ⟨y1, y2, y3, y4, y5, y6, y7, y8⟩, -, y10⟩, z1, z2⟩ := hf
  obtain ⟨⟨h0, h1⟩, hS, -⟩ := hX
  have hSk := hS _ hk
  have hrow := x5.2.2.2.2.1 _ hk
  have hroom : k * ((slA P w nc nl nt).length / 2) + (slA P w nc nl nt).length / 2 ≤ 740000 := hrow.2.1
  have e0 : mS τ 71 (τ.1 71) (τ.1 72) (τ.1 7 4) (τ.1 10) = τ := mS_id
  obtain ⟨N1, e1, n1, n2⟩ := x_unpack (en := en) (d := d) (a := 84) (f := k * ((slA P w nc nl nt).length / 2)) (M := cnS nt (xS X k)) (N := τ.1 72) (b := τ.1 7 4) (G := τ.1 10) (F := τ.1 71) (Or.inl rfl) (xb_lm x1) x2 rfl hroom (by decide) (fun j hj => hrow.2.2 j hj)
  have hN1 : eqS N1 (xS X k) := fun j hj => by
    by_cases q : j ∈ slA P w nc nl nt
    · rw [n1 j q]; exact if_pos hj
    · have q' : ¬ slP P w nc nl nt j := fun z => q (slA_of z)
      rw [n2 j q, SV_cst hP hN hj q', SV_cst hP hSk hj q']
  have hN15 : N1 235 = 0 := by
    by_cases q : 235 ∈ slA P w nc nl nt
    · rw [n1 235 q]; rfl
    · rw [n2 235 q]; exact hN5
  rw [e0, mS_N] at e1
  refine ⟨N1, ?_, hN1, hN15, SV_eqS hP hN1 hSk⟩
  rw [x5.2.1, n_mul]
  exact e1
/-- what the flags' loop changes -/
abbrev flF (τ s : qS) : Prop := (∀ c, c ≠ 61 → c ≠ 64 → c ≠ 72 → c ≠ 104 → s.1 c = τ.1 c) ∧ (∀ j, j ≠ 4 → s.1 61 j = τ.1 61 j) ∧ s.2 = τ.2
/-- the law's places -/
abbrev lwP (s : qS) (r1 : Nat) (two : Bool) (a e a2 e2 : Nat) : Prop := (lc r1 = 20 ∧ ln r1 = 4 ∧ r1 ≠ 61 ∧ r1 ≠ 64 ∧ r1 ≠ 72 ∧ r1 ≠ 104) ∧ (s.1 r1 0 = nI a ∧ s.1 r1 1 = nI e) ∧ (two = true → s.1 r1 2 = nI a2 ∧ s.1 r1 3 = nI e2)
theorem x_flagLoop {r1 a e a2 e2 : Nat} {two : Bool} (hP : PV P nc nl nt n) (hw2 : w ≤ 2) (hX : XV P w nc nl nt n X) (hO : τ.1 62 = O) (hQ : τ.1 63 = Q) (hl : lwP τ r1 two a e a2 e2) (hL : LV O Q a e) (hL2 : two = true → LV O Q a2 e2) (hp : p = 11 ∨ p = 36) : ∀ (m v : Nat) (s : qS), v + m = xN X → flF τ s → EXx P w nc nl nt n p fw X s → (∀ u, u < v → s.1 104 u = fgV (if two = true then lawB P w nt X O Q a2 e2 u else lawB P w nt X O Q a e u) (if two = true then lawB P w nt X O Q a e u else decide (u = 0)) false false) → ∃ s', L_X2_flag_14 en (d + 3) r1 (bt two) (nI v) s = some (none, s') ∧ flF τ s' ∧ EXx P w nc nl nt n p fw X s' ∧ ∀ u, u < xN X → s'.1 104 u = fgV (if two = true then lawB P w nt X O Q a2 e2 u else lawB P w nt X O Q a e u) (if two = true then lawB P w nt X O Q a e u else decide (u = 0)) false false := by
  have hlim := @lim_le w
  have hxN := hX.1.2
  obtain ⟨⟨l1, l2, l3, l4, l5, l6⟩, ⟨l7, l8⟩, l9⟩ := hl
  intro m
  induction m with
  | zero =>
    intro v s hv hF hE h4
    refine ⟨s, le_X2_flag_14 en _ _ _ _ _ _ ?_, hF, hE, fun u hu => h4 u (by omega)⟩
    have h83 : s.1 83 3 = nI (xN X) := hE.flat.1.1.1.2.2.2.2.1.1
    rw [gd_true l1, h83, if_pos (by rw [n_LE (by omega) (by omega)]; omega)]
  | succ m ih =>
    intro v s hv hF hE h4
    have hvN : v < xN X := by omega
    have h83 : s.1 83 3 = nI (xN X) := hE.flat.1.1.1.2.2.2.2.1.1
    obtain ⟨N1, e1, e2', e3, e4⟩ := x_stateJ (en := en) (d := d + 2) hP hX hE hvN
    let B : Bool := stkB P w nt X v
    let s2 : qS := uIr s 72 (upd N1 234 (bt B))
    have hmk : s.1 93 v = nI (mrkN (xWh X v) (rdl P w (xS X v) nt nt) (soS (xS X v) nt) (outN P w nt (xS X) v)) := hE.flat.1.1.2.1.2.1 v hvN
    have hlt : ∀ a ∈ rdl P w (xS X v) nt nt, a < 40 := fun a ha => rdl_lt hP (hX.2.1 v hvN) ha
    have hout : outN P w nt (xS X) v < 2 ^ 20 := by
      have hl := outL_len (P := P) (w := w) (nt := nt) (S := xS X) v
      unfold outN
      cases hf : fndO nt (xS X) (xS X v) (outL P w nt (xS X) v) 0 with
      | none => show (outL P w nt (xS X) v).length < _; omega
      | some i => show i < _; have := (fndO_some _ _ _ hf).2.1; omega
    have hm30 := mrkN_lt (b := xWh X v) (so := soS (xS X v) nt) hlt hout
    have hagree : ∀ a e, LV O Q a e → lwT O Q (upd N1 234 (bt B)) a e = lawB P w nt X O Q a e v := fun a e hL => lwT_N hL (fun j hj => by
      by_cases q : j = 234
      · rw [q, pk_us, pk_us]
      · rw [pk_un q, pk_un q]; exact e2' j (by omega))
    have hs2 : (lS s2 (s2.1 61 4) (s2.1 64)) = s2 := lS_id
    have s2r : ∀ c, c ≠ 72 → s2.1 c = s.1 c := fun c hc => uIr_ne hc
    have fin : ∀ s3 : qS, (∃ b' G', s3 = lS s2 b' G') → ∀ (W Bg : Bool), W = (if two = true then lawB P w nt X O Q a2 e2 v else lawB P w nt X O Q a e v) → Bg = (if two = true then lawB P w nt X O Q a e v else decide (v = 0)) → ∃ s', L_X2_flag_14 en (d + 3) r1 (bt two) (nI (v + 1)) (uI s3 104 v (fgV W Bg false false)) = some (none, s') ∧ flF τ s' ∧ EXx P w nc nl nt n p fw X s' ∧ ∀ u, u < xN X → s'.1 104 u = fgV (if two = true then lawB P w nt X O Q a2 e2 u else lawB P w nt X O Q a e u) (if two = true then lawB P w nt X O Q a e u else decide (u = 0)) false false := by
      rintro s3 ⟨b', G', rfl⟩ W Bg hW hB
      refine ih (v + 1) _ (by omega) ⟨fun c h1 h2 h3 h4' => ?_, fun j hj => ?_, hF.2.2⟩ ?_ (fun u hu => ?_)
      · rw [uI_ne h4', lS_o h1 h2, s2r c h3]; exact hF.1 c h1 h2 h3 h4'
      · rw [uI_ne (by decide), lS_61, if_neg hj, s2r 61 (by decide)]; exact hF.2.1 j hj
      · refine hE.fln (N := upd N1 234 (bt B)) (fun c hc => ?_) (fun j _ => ?_) rfl rfl ?_ ?_ ?_
        · rw [uI_ne (by omega), lS_o (by omega) (by omega), s2r c (by omega)]
        · rw [uI_ne (by decide), lS_o (by decide) (by decide), s2r 70 (by decide)]
        · rw [uI_ne (by decide), lS_o (by decide) (by decide)]
          show (uIr s 72 (upd N1 234 (bt B))).1 72 = _
          exact uIr_row
        · exact SV_eqS hP (fun j hj => pk_un (by omega)) e4
        · rw [pk_un (by decide)]; exact e3
      · rw [rdU]
        by_cases q : u = v
        · rw [if_pos ⟨rfl, q⟩, hW, hB, q]
        · rw [if_neg (fun z => q z.2), lS_o (by decide) (by decide), s2r 104 (by decide)]; exact h4 u (by omega)
    have h62 : s2.1 62 = O := by rw [s2r 62 (by decide), hF.1 62 (by decide) (by decide) (by decide) (by decide)]; exact hO
    have h63 : s2.1 63 = Q := by rw [s2r 63 (by decide), hF.1 63 (by decide) (by decide) (by decide) (by decide)]; exact hQ
    have h72 : s2.1 72 = upd N1 234 (bt B) := uIr_row
    obtain ⟨b1, G1, t1⟩ := x_isTrue (en := en) (d := d) (b := s2.1 61 4) (G := s2.1 64) h72 h62 h63 hL.1.1 hL.1.2 hL.2.1
    rw [hs2, hagree a e hL] at t1
    have r1o : ∀ (b : Int32) (G : fI), (lS s2 b G).1 r1 = τ.1 r1 := fun b G => by rw [lS_o l3 l4, s2r r1 l5]; exact hF.1 r1 l3 l4 l5 l6
    have r1s : s2.1 r1 = τ.1 r1 := by rw [s2r r1 l5]; exact hF.1 r1 l3 l4 l5 l6
    -- the flags set
    have f170 : ∀ (s3 : qS) (W Bg : Bool) (r : qR), L_X2_flag_14 en (d + 3) r1 (bt two) (nI (v + 1)) (uI s3 104 v (fgV W Bg false false)) = some r → L_X2_flag_142 en (d + 3) r1 (bt two) (nI v) (bt W) (bt Bg) s3 = some r := fun s3 W Bg r hr => by
      refine le_X2_flag_142 en _ _ _ _ _ _ _ _ ?_
      rw [gd_true l1]
      have g : ∀ x : Int32, ∀ y : Int32, x ||| y = fgV W Bg false false → L_X2_flag_170 en (d + 3) r1 (bt two) (nI v) (nI v) x y s3 = some r := fun x y hxy => by
        refine le_X2_flag_170 en _ _ _ _ _ _ _ _ _ ?_
        rw [gd_true l1, gd_in (by omega) (by decide), n_cl (by omega), hxy, nm_eq, show nI v + (1 : Int32) = nI (v + 1) from n_ar]
        exact hr
      have g2 : ∀ x : Int32, x ||| (if Bg = true then 2 else 0) = fgV W Bg false false → L_X2_flag_160 en (d + 3) r1 (bt two) (nI v) (bt Bg) (nI v) x s3 = some r := fun x hx => by
        refine le_X2_flag_160 en _ _ _ _ _ _ _ _ _ ?_
        rw [gd_true l1]
        cases hb : Bg
        · rw [if_pos (show bt false = (0 : Int32) from rfl)]
          rw [hb] at hx
          exact g x 0 (by rw [hb]; exact hx)
        · rw [if_neg (show ¬ bt true = (0 : Int32) by decide)]
          rw [hb] at hx
          exact g x 2 (by rw [hb]; exact hx)
      cases hw : W
      · rw [if_pos (show bt false = (0 : Int32) from rfl)]
        exact g2 0 (by rw [hw]; cases Bg <;> decide)
      · rw [if_neg (show ¬ bt true = (0 : Int32) by decide)]
        exact g2 1 (by rw [hw]; cases Bg <;> decide)
    have pre : ∀ r, bI (qev en (d + 3) 21 [.ref 103, .int (nI a), .int (nI e), .ref 72] s2) (fun w5 s6 => if bt two = (0 : Int32) then L_X2_flag_121 en (d + 3) r1 (bt two) (nI v) w5 w5 s6 else gd (p_inB (2 : Int32) (ln r1) = true) (gd (p_inB (3 : Int32) (ln r1) = true) (bI (qev en (d + 3) 21 [.ref 103, .int (s6.1 r1 2), .int (s6.1 r1 3), .ref 72] s6) (fun w11 s12 => L_X2_flag_121 en (d + 3) r1 (bt two) (nI v) w5 w11 s12)))) = some r → L_X2_flag_14 en (d + 3) r1 (bt two) (nI v) s = some r := by
      intro r hr
      refine le_X2_flag_14 en _ _ _ _ _ _ ?_
      rw [gd_true l1, h83, if_neg (by rw [n_LE (by omega) (by omega)]; omega), e1, bV_some, gd_in (by omega) (by decide), n_cl (by omega), uIr_ne (by decide), hmk]
      have g87 : L_X2_flag_87 en (d + 3) r1 (bt two) (nI v) (234 : Int32) (bt B) (uIr s 72 N1) = some r := by
        refine le_X2_flag_87 en _ _ _ _ _ _ _ _ ?_
        have z0 : p_inB (0 : Int32) (ln r1) = true := by rw [l2]; decide
        have z1 : p_inB (1 : Int32) (ln r1) = true := by rw [l2]; decide
        rw [gd_true l1, gd_true (show p_inB (234 : Int32) 236 = true by decide), show uI (uIr s 72 N1) 72 ((234 : Int32).toNatClampNeg) (bt B) = s2 from uIr_u, nm_eq, gd_true z0, gd_true z1, r1s, l7, l8]
        exact hr
      have hbit : (nI (mrkN (xWh X v) (rdl P w (xS X v) nt nt) (soS (xS X v) nt) (outN P w nt (xS X) v)) &&& (32 : Int32) = 0) = (B = false) := by
        rw [show (32 : Int32) = nI 32 from rfl, an_nI (by omega) (by decide), and_32, mrkN_5 hlt]
        show (nI (if B = true then 32 else 0) = 0) = (B = false)
        cases B <;> decide
      cases hB : B
      · rw [if_pos (by rw [hbit]; exact hB)]
        rw [hB] at g87; exact g87
      · rw [if_neg (by rw [hbit, hB]; decide)]
        rw [hB] at g87; exact g87
    cases ht : two
    · rw [ht] at fin
      obtain ⟨s', y1, y2⟩ := fin (lS s2 b1 G1) ⟨b1, G1, rfl⟩ (lawB P w nt X O Q a e v) (decide (v = 0)) rfl rfl
      rw [ht] at pre f170
      refine ⟨s', pre _ ?_, y2⟩
      rw [t1, bI_some, if_pos (show bt false = (0 : Int32) from rfl)]
      refine le_X2_flag_121 en _ _ _ _ _ _ _ _ ?_
      rw [gd_true l1, if_pos (show bt false = (0 : Int32) from rfl)]
      by_cases q : v = 0
      · rw [if_neg (by rw [q]; exact not_not_intro rfl)]
        rw [decide_eq_true q] at y1
        exact f170 _ _ true _ y1
      · rw [if_pos (by rw [n_eq (by decide) (by omega)]; exact q)]
        rw [decide_eq_false q] at y1
        exact f170 _ _ false _ y1
    · rw [ht] at fin
      obtain ⟨l10, l11⟩ := l9 ht
      have hL2' := hL2 ht
      have q62 : (lS s2 b1 G1).1 62 = O := (lS_o (by decide) (by decide)).trans h62
      obtain ⟨b2, G2, t2⟩ := x_isTrue (en := en) (d := d) (b := b1) (G := G1) h72 h62 h63 hL2'.1.1 hL2'.1.2 hL2'.2.1
      rw [hagree a2 e2 hL2'] at t2
      obtain ⟨s', y1, y2⟩ := fin (lS s2 b2 G2) ⟨b2, G2, rfl⟩ (lawB P w nt X O Q a2 e2 v) (lawB P w nt X O Q a e v) rfl rfl
      rw [ht] at pre f170
      refine ⟨s', pre _ ?_, y2⟩
      have z2 : p_inB (2 : Int32) (ln r1) = true := by rw [l2]; decide
      have z3 : p_inB (3 : Int32) (ln r1) = true := by rw [l2]; decide
      rw [t1, bI_some, if_neg (show ¬ bt true = (0 : Int32) by decide), gd_true z2, gd_true z3, r1o, l10, l11, t2, bI_some]
      refine le_X2_flag_121 en _ _ _ _ _ _ _ _ ?_
      rw [gd_true l1, if_neg (show ¬ bt true = (0 : Int32) by decide)]
      exact f170 _ _ _ _ y1
end FLG
