/-! LAWS: what a judged law shows; the class's side. -/
abbrev xaE (X : xT) : Nat → Nat := fun e => (xE X e).1
abbrev xaT (X : xT) : Nat → Nat := fun e => (xE X e).2
noncomputable abbrev mJ (P : Nat → fI) (w nt : Nat) (X : xT) (v : Nat) : Nat := mrkN (xWh X v) (rdl P w (xS X v) nt nt) (soS (xS X v) nt) (outN P w nt (xS X) v)
/-- the state that a law of kind k shows (1 always, 2 never, 3 may, 4 must, 5 leads), or -2 -/
abbrev jdP (P : Nat → fI) (w nt : Nat) (X : xT) (O Q : fI) (a e a2 e2 : Nat) (fr : Bool) (k : Nat) (sh : Int32) : Prop :=
  (k = 1 → sh = lsV (fun v => lawB P w nt X O Q a e v == false) (xN X) 0) ∧ (k = 2 ∨ k = 3 → sh = lsV (fun v => lawB P w nt X O Q a e v == true) (xN X) 0) ∧
  (k = 4 → ∃ p : Nat → Bool, (∀ v, v < xN X → (p v = true ↔ isRJ (xA X) (xaE X) (lawB P w nt X O Q a e) (fun v => decide (v = 0)) (xN X) v ∧ goJ (xA X) (xaE X) (xaT X) (lawB P w nt X O Q a e) (mJ P w nt X) fr v)) ∧ sh = lsV p (xN X) 0) ∧
  (k = 5 → ∃ p : Nat → Bool, (∀ v, v < xN X → (p v = true ↔ isRJ (xA X) (xaE X) (lawB P w nt X O Q a2 e2) (lawB P w nt X O Q a e) (xN X) v ∧ goJ (xA X) (xaE X) (xaT X) (lawB P w nt X O Q a2 e2) (mJ P w nt X) fr v)) ∧ sh = lsV p (xN X) 0)
/-- and whether it holds -/
abbrev jdH (k : Nat) (sh : Int32) : Bool := if k = 3 then !decide (sh = -2) else decide (sh = -2)
section HLD
variable {en : pN} {d w nc nl nt n p k : Nat} {τ s s' : qS} {O Q : fI} {P : Nat → fI} {X : xT} {fw fr : Bool} {a e a2 e2 r1 : Nat} {sh sh' : Int32}
theorem jdP_eq (hk : 1 ≤ k ∧ k ≤ 5) (h : jdP P w nt X O Q a e a2 e2 fr k sh) (h' : jdP P w nt X O Q a e a2 e2 fr k sh') : sh = sh' := by
  obtain ⟨h1, h2, h4, h5⟩ := h
  obtain ⟨g1, g2, g4, g5⟩ := h'
  rcases (show k = 1 ∨ (k = 2 ∨ k = 3) ∨ k = 4 ∨ k = 5 by omega) with q | q | q | q
  · rw [h1 q, g1 q]
  · rw [h2 q, g2 q]
  · obtain ⟨p, p1, p2⟩ := h4 q
    obtain ⟨p', p1', p2'⟩ := g4 q
    rw [p2, p2']
    exact lsV_iff p1 p1'
  · obtain ⟨p, p1, p2⟩ := h5 q
    obtain ⟨p', p1', p2'⟩ := g5 q
    rw [p2, p2']
    exact lsV_iff p1 p1'
theorem x_cjH (hP : PV P nc nl nt n) (hX : XV P w nc nl nt n X) (hJ : XJ X (xN X + 1)) (hx : EXx P w nc nl nt n p fw X τ) : cjH (xA X) (xaE X) (xaT X) (mJ P w nt X) (xN X) τ := by
  have hlim := @lim_le w
  have hxN := hX.1.2
  obtain ⟨hf, hN, hN5⟩ := hx.flat
  obtain ⟨⟨⟨x1, x2, x3, x4, x5, x6, x7, x8, x9⟩, ⟨y1, y2, y3⟩, -, y10⟩, z1, z2⟩ := hf
  have hM := hJ.2.1 (xN X) (by omega)
  have hM2 := hX.2.2.2.1
  refine ⟨⟨by omega, by omega⟩, fun i j h1 h2 => hJ.1 i j h1 (by omega), ⟨z1, fun e he => ⟨x7 e (by omega), hX.2.2.2.2.1 e (by omega)⟩, x5.1⟩, y2, fun v hv => mrkN_lt (fun a ha => rdl_lt hP (hX.2.1 v hv) ha) ?_⟩
  have hl := outL_len (P := P) (w := w) (nt := nt) (S := xS X) v
  unfold outN
  cases hf : fndO nt (xS X) (xS X v) (outL P w nt (xS X) v) 0 with
  | none => show (outL P w nt (xS X) v).length < _; omega
  | some i => show i < _; have := (fndO_some _ _ _ hf).2.1; omega
/-- what judging changes of the class -/
abbrev hdF (τ s : qS) : Prop := (∀ c, c ≠ 61 → c ≠ 64 → c ≠ 72 → c < 103 ∨ 110 < c → s.1 c = τ.1 c) ∧ (∀ j, j ≠ 4 → s.1 61 j = τ.1 61 j) ∧ s.2 = τ.2
theorem x_holds (hP : PV P nc nl nt n) (hw2 : w ≤ 2) (hX : XV P w nc nl nt n X) (hJ : XJ X (xN X + 1)) (hx : EXx P w nc nl nt n p fw X τ) (hp : p = 11 ∨ p = 36) (h11 : τ.1 103 11 = 0) (hO : τ.1 62 = O) (hQ : τ.1 63 = Q) (hk : 1 ≤ k ∧ k ≤ 5) (hl : lwP τ r1 (decide (k = 5)) a e a2 e2) (hL : LV O Q a e) (hL2 : k = 5 → LV O Q a2 e2) :
    ∃ (s' : qS) (sh : Int32), qev en (d + 5) 19 [.ref 103, .int (nI (321 + k)), .int (bt fr), .ref r1] τ = some (some (.int (bt (jdH k sh))), s') ∧ jdP P w nt X O Q a e a2 e2 fr k sh ∧ s'.1 103 13 = sh ∧ s'.1 103 11 = 0 ∧ EXx P w nc nl nt n p fw X s' ∧ hdF τ s' := by
  have hlim := @lim_le w
  have hxN := hX.1.2
  obtain ⟨s1, e1, f1, x1, g1⟩ := x_flagLoop (en := en) (d := d) hP hw2 hX hO hQ hl hL (fun h => hL2 (of_decide_eq_true h)) hp (xN X) 0 τ (by omega) ⟨fun _ _ _ _ _ => rfl, fun _ _ => rfl, rfl⟩ hx (fun u hu => absurd hu (by omega))
  have e20 : qev en (d + 4) 20 [.ref 103, .ref r1, .int (bt (decide (k = 5)))] τ = some (none, s1) := by
    refine le_X2_flag en _ _ _ _ _ ?_
    rw [gd_true hl.1.1]
    exact e1
  have hF1 : hdF τ s1 := ⟨fun c h1 h2 h3 h4 => f1.1 c h1 h2 h3 (by omega), f1.2.1, f1.2.2⟩
  have pre : ∀ r, L_X2_holds_14 en (d + 4) (nI (321 + k)) (bt fr) r1 (bt (decide (k = 5))) τ = some r → qev en (d + 5) 19 [.ref 103, .int (nI (321 + k)), .int (bt fr), .ref r1] τ = some r := by
    intro r hr
    refine le_X2_holds en _ _ _ _ _ _ ?_
    rw [gd_true hl.1.1]
    by_cases q : k = 5
    · rw [if_neg (by rw [q]; exact not_not_intro rfl)]
      rw [decide_eq_true q] at hr; exact hr
    · rw [if_pos (by rw [n_eq (by decide) (by omega)]; omega)]
      rw [decide_eq_false q] at hr; exact hr
  have h83 : s1.1 83 3 = nI (xN X) := x1.flat.1.1.1.2.2.2.2.1.1
  have h103 : s1.1 103 = τ.1 103 := f1.1 103 (by decide) (by decide) (by decide) (by decide)
  -- the shown state is written
  have wr : ∀ (s : qS) (sh : Int32), cjF s1 s → s.1 103 11 = 0 → EXx P w nc nl nt n p fw X (uI s 103 13 sh) ∧ hdF τ (uI s 103 13 sh) ∧ (uI s 103 13 sh).1 103 13 = sh ∧ (uI s 103 13 sh).1 103 11 = 0 := fun s sh hc h11 => by
    have hc' : cjF s1 (uI s 103 13 sh) := hc.tr' ⟨fun c hc => uI_ne (by omega), rfl⟩
    refine ⟨x1.fl ⟨fun c hc => hc'.1 c (by omega), fun j _ => by rw [hc'.1 70 (by omega)], by rw [hc'.2], by rw [hc'.2]⟩, ⟨fun c h1 h2 h3 h4 => (hc'.1 c h4).trans (hF1.1 c h1 h2 h3 h4), fun j hj => by rw [hc'.1 61 (by omega)]; exact hF1.2.1 j hj, hc'.2.trans hF1.2.2⟩, ?_, ?_⟩
    · rw [rdU, if_pos ⟨rfl, rfl⟩]
    · rw [rdU, if_neg (by omega)]; exact h11
  have h11' : s1.1 103 11 = 0 := by rw [h103]; exact h11
  have gN : k ≠ 5 → ∀ u, u < xN X → s1.1 104 u = fgV (lawB P w nt X O Q a e u) (decide (u = 0)) false false := fun q u hu => by
    have := g1 u hu
    rw [if_neg (by rw [decide_eq_false q]; decide), if_neg (by rw [decide_eq_false q]; decide)] at this
    exact this
  have g5 : k = 5 → ∀ u, u < xN X → s1.1 104 u = fgV (lawB P w nt X O Q a2 e2 u) (lawB P w nt X O Q a e u) false false := fun q u hu => by
    have := g1 u hu
    rw [if_pos (decide_eq_true q), if_pos (decide_eq_true q)] at this
    exact this
  have tl1 : ∀ (s : qS) (x : Int32), (bI (some (some (.int x), s)) (fun w4 s5 => nm (uI s5 103 13 w4) (fun s7 => if ¬ (s7.1 103 13) = (-2 : Int32) then some (some (.int (0 : Int32)), s7) else some (some (.int (1 : Int32)), s7))) : Option qR) = some (some (.int (bt (decide (x = -2)))), uI s 103 13 x) := fun s x => by
    rw [bI_some, nm_eq, rdU, if_pos (⟨rfl, rfl⟩ : 103 = 103 ∧ 13 = 13)]
    by_cases q : x = -2
    · rw [if_neg (not_not_intro q), decide_eq_true q]; rfl
    · rw [if_pos q, decide_eq_false q]; rfl
  have tl2 : ∀ (s : qS) (x : Int32), (bI (some (some (.int x), s)) (fun w4 s5 => nm (uI s5 103 13 w4) (fun s7 => if (s7.1 103 13) = (-2 : Int32) then some (some (.int (0 : Int32)), s7) else some (some (.int (1 : Int32)), s7))) : Option qR) = some (some (.int (bt (!decide (x = -2)))), uI s 103 13 x) := fun s x => by
    rw [bI_some, nm_eq, rdU, if_pos (⟨rfl, rfl⟩ : 103 = 103 ∧ 13 = 13)]
    by_cases q : x = -2
    · rw [if_pos q, decide_eq_true q]; rfl
    · rw [if_neg q, decide_eq_false q]; rfl
  -- must and leads
  have far : ∀ (W B : Nat → Bool), (∀ u, u < xN X → s1.1 104 u = fgV (W u) (B u) false false) → ∃ (s3 : qS) (p' : Nat → Bool), (bV (qev en (d + 4) 26 [.ref 103, .int (bt fr)] s1) (fun s20 => bV (qev en (d + 4) 24 [.ref 103] s20) (fun s23 => bI (qev en (d + 4) 22 [.ref 103, .int (12 : Int32), .int (12 : Int32)] s23) (fun w25 s26 => nm (uI s26 103 13 w25) (fun s28 => if ¬ (s28.1 103 13) = (-2 : Int32) then some (some (.int (0 : Int32)), s28) else some (some (.int (1 : Int32)), s28))))) : Option qR) = some (some (.int (bt (decide (lsV p' (xN X) 0 = -2)))), uI s3 103 13 (lsV p' (xN X) 0)) ∧ (EXx P w nc nl nt n p fw X (uI s3 103 13 (lsV p' (xN X) 0)) ∧ hdF τ (uI s3 103 13 (lsV p' (xN X) 0)) ∧ (uI s3 103 13 (lsV p' (xN X) 0)).1 103 13 = lsV p' (xN X) 0 ∧ (uI s3 103 13 (lsV p' (xN X) 0)).1 103 11 = 0) ∧ ∀ v, v < xN X → (p' v = true ↔ isRJ (xA X) (xaE X) W B (xN X) v ∧ goJ (xA X) (xaE X) (xaT X) W (mJ P w nt X) fr v) := fun W B hWB => by
    obtain ⟨s2, s3, _, p', y1, y2, y3, _, y5, y6, y7⟩ := x_lookWays (en := en) (d := d) (fr := fr) (x_cjH hP hX hJ x1) h11' hWB
    exact ⟨s3, p', by rw [y1, bV_some, y2, bV_some, y3]; exact tl1 _ _, wr s3 _ y5 y6, y7⟩
  have go : ∀ r, swI ((321 + k : Nat) : Int) 322 [bI (qev en (d + 4) 22 [.ref 103, .int (1 : Int32), .int (0 : Int32)] s1) (fun w4 s5 => nm (uI s5 103 13 w4) (fun s7 => if ¬ (s7.1 103 13) = (-2 : Int32) then some (some (.int (0 : Int32)), s7) else some (some (.int (1 : Int32)), s7))), bI (qev en (d + 4) 22 [.ref 103, .int (1 : Int32), .int (1 : Int32)] s1) (fun w4 s5 => nm (uI s5 103 13 w4) (fun s7 => if ¬ (s7.1 103 13) = (-2 : Int32) then some (some (.int (0 : Int32)), s7) else some (some (.int (1 : Int32)), s7))), bI (qev en (d + 4) 22 [.ref 103, .int (1 : Int32), .int (1 : Int32)] s1) (fun w4 s5 => nm (uI s5 103 13 w4) (fun s7 => if (s7.1 103 13) = (-2 : Int32) then some (some (.int (0 : Int32)), s7) else some (some (.int (1 : Int32)), s7)))] (bV (qev en (d + 4) 26 [.ref 103, .int (bt fr)] s1) (fun s20 => bV (qev en (d + 4) 24 [.ref 103] s20) (fun s23 => bI (qev en (d + 4) 22 [.ref 103, .int (12 : Int32), .int (12 : Int32)] s23) (fun w25 s26 => nm (uI s26 103 13 w25) (fun s28 => if ¬ (s28.1 103 13) = (-2 : Int32) then some (some (.int (0 : Int32)), s28) else some (some (.int (1 : Int32)), s28)))))) = some r → qev en (d + 5) 19 [.ref 103, .int (nI (321 + k)), .int (bt fr), .ref r1] τ = some r := by
    intro r hr
    refine pre r (le_X2_holds_14 en _ _ _ _ _ _ _ ?_)
    rw [gd_true hl.1.1, e20, bV_some, n_to (by omega)]
    exact hr
  rcases (show k = 1 ∨ k = 2 ∨ k = 3 ∨ k = 4 ∨ k = 5 by omega) with q | q | q | q | q <;> subst q
  · have l1 := x_least1 (en := en) (d := d + 3) (s := s1) (c := false) (by omega) h83 (gN (by decide))
    obtain ⟨w1, w2, w3, w4⟩ := wr s1 (lsV (fun v => lawB P w nt X O Q a e v == false) (xN X) 0) cjF.rf h11'
    refine ⟨_, _, go _ (Eq.trans swI_hit ?_), ⟨fun _ => rfl, fun h => absurd h (by omega), fun h => absurd h (by omega), fun h => absurd h (by omega)⟩, w3, w4, w1, w2⟩
    rw [show (0 : Int32) = bt false from rfl, l1]
    exact tl1 _ _
  · have l1 := x_least1 (en := en) (d := d + 3) (s := s1) (c := true) (by omega) h83 (gN (by decide))
    obtain ⟨w1, w2, w3, w4⟩ := wr s1 (lsV (fun v => lawB P w nt X O Q a e v == true) (xN X) 0) cjF.rf h11'
    refine ⟨_, _, go _ (Eq.trans (swI_next (by decide)) (Eq.trans swI_hit ?_)), ⟨fun h => absurd h (by omega), fun _ => rfl, fun h => absurd h (by omega), fun h => absurd h (by omega)⟩, w3, w4, w1, w2⟩
    have l1' : qev en (d + 4) 22 [.ref 103, .int (1 : Int32), .int (1 : Int32)] s1 = some (some (.int (lsV (fun u => lawB P w nt X O Q a e u == true) (xN X) 0)), s1) := l1
    rw [l1']
    exact tl1 _ _
  · have l1 := x_least1 (en := en) (d := d + 3) (s := s1) (c := true) (by omega) h83 (gN (by decide))
    obtain ⟨w1, w2, w3, w4⟩ := wr s1 (lsV (fun v => lawB P w nt X O Q a e v == true) (xN X) 0) cjF.rf h11'
    refine ⟨_, _, go _ (Eq.trans (swI_next (by decide)) (Eq.trans (swI_next (by decide)) (Eq.trans swI_hit ?_))), ⟨fun h => absurd h (by omega), fun _ => rfl, fun h => absurd h (by omega), fun h => absurd h (by omega)⟩, w3, w4, w1, w2⟩
    have l1' : qev en (d + 4) 22 [.ref 103, .int (1 : Int32), .int (1 : Int32)] s1 = some (some (.int (lsV (fun u => lawB P w nt X O Q a e u == true) (xN X) 0)), s1) := l1
    rw [l1']
    exact tl2 _ _
  · obtain ⟨s3, p', y1, ⟨w1, w2, w3, w4⟩, y3⟩ := far _ _ (gN (by decide))
    exact ⟨_, _, go _ (Eq.trans (swI_next (by decide)) (Eq.trans (swI_next (by decide)) (Eq.trans (swI_next (by decide)) y1))), ⟨fun h => absurd h (by omega), fun h => absurd h (by omega), fun _ => ⟨p', y3, rfl⟩, fun h => absurd h (by omega)⟩, w3, w4, w1, w2⟩
  · obtain ⟨s3, p', y1, ⟨w1, w2, w3, w4⟩, y3⟩ := far _ _ (g5 rfl)
    exact ⟨_, _, go _ (Eq.trans (swI_next (by decide)) (Eq.trans (swI_next (by decide)) (Eq.trans (swI_next (by decide)) y1))), ⟨fun h => absurd h (by omega), fun h => absurd h (by omega), fun h => absurd h (by omega), fun _ => ⟨p', y3, rfl⟩⟩, w3, w4, w1, w2⟩
end HLD
