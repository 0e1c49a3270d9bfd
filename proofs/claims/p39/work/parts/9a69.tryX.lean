/-! ALL TURNS, the class's side: a step tried. -/
section TY
variable {en : pN} {d p w nc nl nt n t u k a : Nat} {σ : qS} {P : Nat → fI} {F N M G g K : fI} {b sv lv : Int32} {x y : xT}
/-- behind the row put: the edge -/
theorem l_153 {s : qS} {m to : Nat} (hm : s.1 70 13 = nI m) (hm2 : m < 200000) (ha : a < 40) (hto : to < 20000) : L_X10_tryStep_153 en d (nI to) (nI (stN a)) s = some (some (.int 1), uI (uI s 90 m (nI (to * 64 + stN a))) 70 13 (nI (m + 1))) := by
  refine le_X10_tryStep_153 en _ _ _ _ _ ?_
  rw [hm, gd_true (n_in hm2 (by decide)), nm_eq, n_cl (by omega), ed_pack ha (by omega), uI_ne (by decide), hm, nm_eq, n_ar]
theorem ordO_9 {O : Nat → Nat → Bool} (h : a % 10 = 9) : ordO P nl N a O = O := by
  funext p q
  unfold ordO
  rw [decide_eq_false (show ¬ a % 10 ≠ 9 from fun z => z h), Bool.false_and, Bool.false_and, Bool.false_and, Bool.false_and, Bool.false_and, Bool.or_false]
theorem laS_cg (h : eqS N M) (ht : t < 4) : laS P N t = laS P M t := by
  unfold laS
  rw [h t (by omega), h (4 + t) (by omega)]
theorem orX_cg {O : Nat → Nat → Bool} (h : eqS N M) (ht : a / 10 < 4) (hg : orX g (ordO P nl N a O)) : orX g (ordO P nl M a O) := by
  intro z hz q hq
  rw [hg z hz q hq]
  unfold ordO
  rw [laS_cg h ht, h (40 + z) (by omega), h (40 + q) (by omega)]
theorem x_tryStep (hBx : MBx P nc nl nt n) (hP : PV P nc nl nt n) (hw2 : w ≤ 2) (hX : XV P w nc nl nt n x) (hI : xcI P w nc nl nt p x σ F) (hk : k < xN x) (ha : a ∈ rdl P w (xS x k) nt nt) (hK : eqS (σ.1 73) (xS x k)) (hK5 : σ.1 73 235 = 0) :
    (tryS P w nl nt (limS w) k x a = none ∧ ∃ (σ' : qS) (F' N' G' : fI) (b' : Int32) (m : Nat), qev en (d + 8) 180 [.ref 70, .int (nI k), .int (nI a)] (mS σ 71 F N b G) = some (some (.int 0), mS σ' 71 F' N' b' G') ∧ frTs (xN x) ((slA P w nc nl nt).length / 2) σ σ' ∧ σ'.1 83 3 = nI m ∧ m ≤ 20000) ∨
    (∃ y, tryS P w nl nt (limS w) k x a = some y ∧ ∃ (σ' : qS) (F' N' G' : fI) (b' : Int32), qev en (d + 8) 180 [.ref 70, .int (nI k), .int (nI a)] (mS σ 71 F N b G) = some (some (.int 1), mS σ' 71 F' N' b' G') ∧ xcI P w nc nl nt p y σ' F' ∧ frTs (xN x) ((slA P w nc nl nt).length / 2) σ σ' ∧ (∀ i, xN x ≤ i → i < xN y → σ'.1 93 i = nI (mrk0 (xWh y i))) ∧ (N' 235 = 0 ∧ SV P w nc nl nt n N')) := by
  obtain ⟨hB, hsl, hF6, hF8, hRW, h13, hE, hFd, hO⟩ := hI
  have hXk := hX
  obtain ⟨⟨x0, x1⟩, x2, x3, x4, x5, x6⟩ := hX
  have hSk := x2 k hk
  obtain ⟨hr, h10⟩ := rdl_rdS hP hSk ha
  have a40 := rdl_lt hP hSk ha
  have ht4 := hP.2.2.1.2
  have hn100 := hP.2.2.2.1.2
  have hlim := @lim_le w
  have hp2 := hB.2.1
  have hKs := SV_eqS hP hK hSk
  -- the state come back
  let N1 : fI := fun j => if j < 236 then σ.1 73 j else N j
  have hN1 : eqS N1 (xS x k) := fun j hj => by
    show (if j < 236 then σ.1 73 j else N j) = _
    rw [if_pos (by omega)]; exact hK j hj
  have hN1s : SV P w nc nl nt n N1 := SV_eqS hP hN1 hSk
  have hN15 : N1 235 = 0 := by show (if 235 < 236 then σ.1 73 235 else N 235) = 0; rw [if_pos (by decide)]; exact hK5
  have hr1 : rdS P w N1 (a / 10) (a % 10) nt := cg_rdS en hBx hP hSk hN1s hw2 hN1.sy hr
  have htn := hr1.1
  have e1 := x_comeBack (en := en) (d := d + 6) (σ := σ) (m := 71) (F := F) (N := N) (b := b) (G := G) (Or.inl rfl) (xb_lm hB)
  -- orders
  refine (fun (key : ∃ g', orX g' (ordO P nl (xS x k) a (xO x)) ∧ ∀ r, L_X10_tryStep_37 en (d + 7) (nI k) (nI (a / 10)) (nI (a % 10)) (mS (uIr σ 79 g') 71 F N1 b G) = some r → qev en (d + 8) 180 [.ref 70, .int (nI k), .int (nI a)] (mS σ 71 F N b G) = some r) => ?_) ?_
  rotate_left
  · have start : ∀ r, (if nI (a % 10) = (9 : Int32) then L_X10_tryStep_37 en (d + 7) (nI k) (nI (a / 10)) (nI (a % 10)) (mS σ 71 F N1 b G) else bV (qev en (d + 7) 5 [.ref 76, .ref 71, .int (nI (a / 10))] (mS σ 71 F N1 b G)) (fun s7 => L_X10_tryStep_37 en (d + 7) (nI k) (nI (a / 10)) (nI (a % 10)) s7)) = some r → qev en (d + 8) 180 [.ref 70, .int (nI k), .int (nI a)] (mS σ 71 F N b G) = some r := by
      intro r hh
      refine le_X10_tryStep en (d + 7) _ _ _ _ ?_
      rw [nm_eq, e1, bV_some, n_m10 (by omega), n_d10 (by omega)]
      exact hh
    by_cases q9 : a % 10 = 9
    · refine ⟨σ.1 79, by rw [ordO_9 q9]; exact hO, fun r hh => start r ?_⟩
      rw [q9, if_pos (by decide)]
      rw [q9, uIr_i] at hh
      exact hh
    · obtain ⟨g', n1, n2⟩ := x_noteTaking (en := en) (d := d + 5) (b := b) (G := G) (F := F) (a := a) hB hP hN1s htn rfl hO rfl q9
      refine ⟨g', orX_cg hN1 (by omega) n2, fun r hh => start r ?_⟩
      rw [if_neg (by rw [n_eq (by decide) (by omega)]; exact q9), n1, bV_some]
      exact hh
  obtain ⟨g', hO', key⟩ := key
  -- the step itself
  have HB2 : XB (uIr σ 79 g') 71 p P := xb_fr hB (fun z hz => uIr_ne (by omega)) rfl
  obtain ⟨F2, G2, b2, e2, f1, f2, -⟩ := x_take (en := en) (d := d + 1) (b := b) (G := G) HB2 hP hN1s hF8 hw2 hr1 h10
  have hN2s := SV_stp hP hN1s hw2 hr1 h10
  have hN25 : stp P w N1 (a / 10) (a % 10) nt 235 = 0 := (fh_stp hP hN1s hw2 hr1 h10 (by decide)).trans hN15
  have hN2 : eqS (stp P w N1 (a / 10) (a % 10) nt) (stp P w (xS x k) (a / 10) (a % 10) nt) := cg_stp en hBx hP hN1s hSk hw2 hN1 hr1 h10
  have hnew := SV_stp hP hSk hw2 hr h10
  obtain ⟨sl1, sl2, sl3, sl4, sl5⟩ := hsl
  have hsl2 : slI (uIr σ 79 g') 71 F2 (slA P w nc nl nt) := ⟨by rw [f1 5 (by decide) (by decide) (by decide) (by decide)]; exact sl1, sl2, sl3, fun i hi => by rw [uIr_ne (by decide)]; exact sl4 i hi, sl5⟩
  obtain ⟨σ3, e3, p1, p2, p3, p4⟩ := x_pack (en := en) (d := d + 5) (a := 94) (b := b2) (G := G2) (N := stp P w N1 (a / 10) (a % 10) nt) HB2 hsl2 hP.2.2.1.1 ht4 rfl (by decide)
  let N3 : fI := upd (stp P w N1 (a / 10) (a % 10) nt) 233 (nI (soS (stp P w N1 (a / 10) (a % 10) nt) nt))
  let wd : Nat := (slA P w nc nl nt).length / 2
  have hwd : wd ≤ 110 := by show (slA P w nc nl nt).length / 2 ≤ 110; omega
  -- the row put
  have hcn : ∀ j, j < wd → pkR (slA P w nc nl nt) N3 j = pkR (slA P w nc nl nt) (cnS nt (stp P w (xS x k) (a / 10) (a % 10) nt)) j := fun j hj => by
    refine (pkR_cg sl3 (cn_of hP hN25) j hj).trans ?_
    exact (cn_sm hP hN2s hnew).mpr hN2 j hj
  have hRW3 : RW (mS σ3 71 F2 N3 b2 G2) 83 84 85 86 15 (xN x) wd (limS w) (fun i => i * wd) (fun i => pkR (slA P w nc nl nt) (cnS nt (xS x i))) := by
    refine RW_m (hRW.fr (fun j _ => by rw [p1, uIr_ne (by decide)]) (fun i _ => by rw [p1, uIr_ne (by decide)]) (fun i _ => by rw [p1, uIr_ne (by decide)]) (fun i _ j _ => by rw [p3 84 (by decide)]; rfl)) (by decide) (by decide) (by decide)
  have hlm : limS w * wd ≤ 740000 := by
    have hA := (slA_len (w := w) hP).1
    show limS w * ((slA P w nc nl nt).length / 2) ≤ 740000
    unfold limS
    by_cases w2 : w = 2
    · rw [if_pos w2] at hA ⊢; omega
    · rw [if_neg w2] at hA ⊢; omega
  have hsm : ∀ i, i < xN x → (smR wd (fun i => pkR (slA P w nc nl nt) (cnS nt (xS x i))) (pkR (slA P w nc nl nt) (cnS nt (stp P w (xS x k) (a / 10) (a % 10) nt))) i ↔ eqS (stp P w (xS x k) (a / 10) (a % 10) nt) (xS x i)) := fun i hi => cn_sm hP hnew (x2 i hi)
  have start : ∀ r, bI (qev en (d + 7) 150 [.ref 83, .ref 94, .int (0 : Int32)] (mS σ3 71 F2 N3 b2 G2)) (fun w7 s8 => if w7 < (0 : Int32) then some (some (.int (0 : Int32)), s8) else if (s8.1 70 13) < (200000 : Int32) then nm ((nI (a / 10) <<< ((4 : Int32) &&& 31)) ||| nI (a % 10)) (fun z12 => if ¬ w7 = nI (xN x) then L_X10_tryStep_153 en (d + 7) w7 z12 s8 else gd (p_inB w7 20000 = true) (nm (uI s8 91 (w7.toNatClampNeg) ((nI k <<< ((6 : Int32) &&& 31)) ||| z12)) (fun s15 => bI (qev en (d + 7) 181 [.ref 70, .int (s15.1 71 9)] s15) (fun w16 s17 => if w16 = (0 : Int32) then L_X10_tryStep_152 en (d + 7) w7 z12 w7 (0 : Int32) s17 else L_X10_tryStep_152 en (d + 7) w7 z12 w7 (16 : Int32) s17)))) else some (some (.int (0 : Int32)), s8)) = some r → qev en (d + 8) 180 [.ref 70, .int (nI k), .int (nI a)] (mS σ 71 F N b G) = some r := by
    intro r hh
    refine key r (le_X10_tryStep_37 en (d + 7) _ _ _ _ _ ?_)
    rw [e2, bV_some, e3, bV_some, hRW3.1]
    exact hh
  have fr3 : ∀ c, c ≠ 79 → σ3.1 c = σ.1 c := fun c hc => by rw [p1, uIr_ne hc]
  have tS : tryS P w nl nt (limS w) k x a = if 200000 ≤ xM x then none else match fndS (xS x) (stp P w (xS x k) (a / 10) (a % 10) nt) (xN x) 0 with
    | some i => some (xN x, xS x, xF x, xWh x, xM x + 1, at1 (xE x) (xM x) (i, a), xA x, ordO P nl (xS x k) a (xO x))
    | none => if limS w ≤ xN x then none else some (xN x + 1, at1 (xS x) (xN x) (stp P w (xS x k) (a / 10) (a % 10) nt), at1 (xF x) (xN x) (k, a), at1 (xWh x) (xN x) (isW P (xS x k) a), xM x + 1, at1 (xE x) (xM x) (xN x, a), xA x, ordO P nl (xS x k) a (xO x)) := rfl
  have h13' : ∀ s8 : qS, s8.1 70 13 = nI (xM x) → (s8.1 70 13 < (200000 : Int32) ↔ xM x < 200000) := fun s8 h => by rw [h, n_gt (by decide) (by omega)]
  have frA3 : frTs (xN x) wd σ σ3 := ⟨fun c h1 h2 _ _ _ _ _ _ _ _ _ _ => fr3 c h2, fun j _ => by rw [fr3 70 (by decide)], fun i _ => by rw [fr3 93 (by decide)], fun c _ h2 => (p3 c h2).trans rfl, fun i _ => by rw [p3 84 (by decide)]; rfl, by rw [p2]; rfl⟩
  have hE3 : ∀ (z : Nat × Nat) (σ' : qS), (∀ e, e ≠ xM x → σ'.1 90 e = σ.1 90 e) → σ'.1 90 (xM x) = nI (z.1 * 64 + stN z.2) → ∀ e, e < xM x + 1 → σ'.1 90 e = nI ((at1 (xE x) (xM x) z e).1 * 64 + stN (at1 (xE x) (xM x) z e).2) := fun z σ' h1 h2 e he => by
    by_cases q : e = xM x
    · rw [q, at1_s]; exact h2
    · rw [at1_n q, h1 e q]; exact hE e (by omega)
  rcases x_put (en := en) (d := d + 4) (a := 94) (f := 0) (g := pkR (slA P w nc nl nt) (cnS nt (stp P w (xS x k) (a / 10) (a % 10) nt))) rw83 hRW3 (fun i _ => rfl) (by decide) ⟨by show limS w * wd ≤ 740000; exact hlm, by show limS w ≤ 20000; exact hlim, by show limS w < 32768; omega⟩ (by omega) rfl (by decide) (by show 0 + wd ≤ 110; omega) (by decide) (fun j hj => by
      show σ3.2.1 94 (0 + j) = _
      rw [Nat.zero_add, p4 j hj]
      exact hcn j hj) with ⟨i, hi, hs, e5⟩ | ⟨hno, ⟨hl, s', e5, f5, r5⟩ | ⟨hl, e5⟩⟩
  · -- a state that was found
    have hfi : fndS (xS x) (stp P w (xS x k) (a / 10) (a % 10) nt) (xN x) 0 = some i := fnd_of x3 hi ((hsm i hi).mp hs).sy
    have e5' : qev en (d + 7) 150 [.ref 83, .ref 94, .int (0 : Int32)] (mS σ3 71 F2 N3 b2 G2) = some (some (.int (nI i)), mS σ3 71 F2 N3 b2 G2) := e5
    rw [e5', bI_some, if_neg (nI_pos (by omega))] at start
    have h13m : (mS σ3 71 F2 N3 b2 G2).1 70 13 = nI (xM x) := by rw [mS_o (by decide) (by decide) (by decide) (by decide), fr3 70 (by decide)]; exact h13
    by_cases hM : xM x < 200000
    · right
      refine ⟨_, by rw [tS, if_neg (by omega), hfi], uI (uI σ3 90 (xM x) (nI (i * 64 + stN a))) 70 13 (nI (xM x + 1)), F2, N3, G2, b2, start _ ?_, ?_, ?_, fun j h1 h2 => absurd h2 (by show ¬ j < xN x; omega), ?_⟩
      · rw [if_pos ((h13' _ h13m).mpr hM), nm_eq, st_pack a40, if_pos (show ¬ nI i = nI (xN x) by rw [n_EQ (by omega) (by omega)]; omega), l_153 h13m hM a40 (by omega), mS_wo (by decide) (by decide) (by decide) (by decide), mS_wo (by decide) (by decide) (by decide) (by decide)]
      · refine ⟨xb_fr hB (fun z hz => by rw [uI_ne (by omega), uI_ne (by omega), fr3 z (by omega)]) (by show σ3.2.2 = _; rw [p2]; rfl), ⟨hsl2.1, sl2, sl3, fun i hi => by rw [uI_ne (by decide), uI_ne (by decide), fr3 75 (by decide)]; exact sl4 i hi, sl5⟩, by rw [f1 6 (by decide) (by decide) (by decide) (by decide)]; exact hF6, by rw [f1 8 (by decide) (by decide) (by decide) (by decide)]; exact hF8, ?_, by rw [g_I, if_pos ⟨rfl, rfl⟩], ?_, ?_, ?_⟩
        · exact hRW.fr (fun j _ => by rw [uI_ne (by decide), uI_ne (by decide), fr3 83 (by decide)]) (fun i _ => by rw [uI_ne (by decide), uI_ne (by decide), fr3 85 (by decide)]) (fun i _ => by rw [uI_ne (by decide), uI_ne (by decide), fr3 86 (by decide)]) (fun i _ j _ => by show σ3.2.1 84 _ = _; rw [p3 84 (by decide)]; rfl)
        · refine hE3 (i, a) _ (fun e he => ?_) ?_
          · rw [uI_ne (by decide), g_I, if_neg (fun z => he z.2), fr3 90 (by decide)]
          · rw [uI_ne (by decide), g_I, if_pos ⟨rfl, rfl⟩]
        · intro i h1 h2
          rw [uI_ne (by decide), uI_ne (by decide), fr3 91 (by decide)]
          exact hFd i h1 h2
        · rw [uI_ne (by decide), uI_ne (by decide), p1, uIr_row]; exact hO'
      · exact ⟨fun c h1 h2 h3 h4 h5 h6 h7 h8 h9 h10 h11 h12 => by rw [uI_ne h1, uI_ne h6]; exact frA3.1 c h1 h2 h3 h4 h5 h6 h7 h8 h9 h10 h11 h12, fun j hj => by rw [g_I, if_neg (fun z => hj z.2), uI_ne (by decide)]; exact frA3.2.1 j hj, fun j hj => by rw [uI_ne (by decide), uI_ne (by decide)]; exact frA3.2.2.1 j hj, frA3.2.2.2.1, frA3.2.2.2.2.1, frA3.2.2.2.2.2⟩
      · exact ⟨(pk_un (by decide)).trans hN25, SV_eqS hP (fun j hj => pk_un (by omega)) hN2s⟩
    · left
      refine ⟨by rw [tS, if_pos (by omega)], σ3, F2, N3, G2, b2, xN x, start _ ?_, frA3, by rw [fr3 83 (by decide)]; exact hRW.1, by omega⟩
      rw [if_neg (fun z => hM ((h13' _ h13m).mp z))]
  · -- a new one
    have hfn : fndS (xS x) (stp P w (xS x k) (a / 10) (a % 10) nt) (xN x) 0 = none := fnd_no fun i hi z => hno i hi ((hsm i hi).mpr z.sy)
    have e5' : qev en (d + 7) 150 [.ref 83, .ref 94, .int (0 : Int32)] (mS σ3 71 F2 N3 b2 G2) = some (some (.int (nI (xN x))), s') := e5
    obtain ⟨q1, q2, q3, q4, q5⟩ := f5
    have pic := mS_pic (σ := σ3) (F := F2) (N := N3) (b := b2) (G := G2) (s' := s') (fun c hc => q1 c (by omega) (by omega) (by omega)) (by rw [q1 7 (by decide) (by decide) (by decide)])
    generalize hσ4 : ((fun a k => if a = 71 ∨ a = 72 ∨ a = 10 ∨ (a = 7 ∧ k = 4) then σ3.1 a k else s'.1 a k, s'.2) : qS) = σ4 at pic
    have s4 : ∀ c, c ≠ 71 → c ≠ 72 → c ≠ 10 → c ≠ 7 → σ4.1 c = s'.1 c := fun c h1 h2 h3 h4 => by
      rw [← hσ4]
      funext j
      exact if_neg (by omega)
    have s4' : σ4.2 = s'.2 := by rw [← hσ4]
    have s47 : σ4.1 7 = σ3.1 7 := by
      rw [← hσ4]
      funext j
      show (if 7 = 71 ∨ 7 = 72 ∨ 7 = 10 ∨ (7 = 7 ∧ j = 4) then σ3.1 7 j else s'.1 7 j) = _
      by_cases z : j = 4
      · rw [if_pos (by omega)]
      · rw [if_neg (by omega), q1 7 (by decide) (by decide) (by decide), mS_7 (Or.inl rfl) z]
    have m3 : ∀ c, c ≠ 71 → c ≠ 72 → c ≠ 10 → c ≠ 7 → c ≠ 83 → c ≠ 85 → c ≠ 86 → σ4.1 c = σ3.1 c := fun c h1 h2 h3 h4 h5 h6 h7 => by
      rw [s4 c h1 h2 h3 h4, q1 c h5 h6 h7, mS_o h1 h2 h3 h4]
    rw [e5', bI_some, if_neg (nI_pos (by omega)), pic] at start
    have h13m : (mS σ4 71 F2 N3 b2 G2).1 70 13 = nI (xM x) := by rw [mS_o (by decide) (by decide) (by decide) (by decide), m3 70 (by decide) (by decide) (by decide) (by decide) (by decide) (by decide) (by decide), fr3 70 (by decide)]; exact h13
    have r5' : RW σ4 83 84 85 86 15 (xN x + 1) wd (limS w) (fun i => i * wd) (fun i => pkR (slA P w nc nl nt) (cnS nt (at1 (xS x) (xN x) (stp P w (xS x k) (a / 10) (a % 10) nt) i))) := by
      have e1 : (fun i => if i = xN x then xN x * wd else i * wd) = fun i => i * wd := funext fun i => by
        by_cases z : i = xN x
        · rw [if_pos z, z]
        · rw [if_neg z]
      have e2 : (fun i => if i = xN x then pkR (slA P w nc nl nt) (cnS nt (stp P w (xS x k) (a / 10) (a % 10) nt)) else pkR (slA P w nc nl nt) (cnS nt (xS x i))) = fun i => pkR (slA P w nc nl nt) (cnS nt (at1 (xS x) (xN x) (stp P w (xS x k) (a / 10) (a % 10) nt) i)) := funext fun i => by
        by_cases z : i = xN x
        · rw [if_pos z, z, at1_s]
        · rw [if_neg z, at1_n z]
      rw [e1, e2] at r5
      exact r5.fr (fun j _ => by rw [s4 83 (by decide) (by decide) (by decide) (by decide)]) (fun i _ => by rw [s4 85 (by decide) (by decide) (by decide) (by decide)]) (fun i _ => by rw [s4 86 (by decide) (by decide) (by decide) (by decide)]) (fun i _ j _ => by rw [s4'])
    have frA4 : frTs (xN x) wd σ σ4 := ⟨fun c h1 h2 h3 h4 h5 h6 h7 h8 h9 h10 h11 h12 => (m3 c h9 h10 h11 h12 h3 h4 h5).trans (frA3.1 c h1 h2 h3 h4 h5 h6 h7 h8 h9 h10 h11 h12), fun j hj => by rw [m3 70 (by decide) (by decide) (by decide) (by decide) (by decide) (by decide) (by decide)]; exact frA3.2.1 j hj, fun j hj => by rw [m3 93 (by decide) (by decide) (by decide) (by decide) (by decide) (by decide) (by decide)]; exact frA3.2.2.1 j hj, fun c h1 h2 => by rw [s4', q3 c h1]; exact frA3.2.2.2.1 c h1 h2, fun i hi => by rw [s4', q4 i hi]; exact frA3.2.2.2.2.1 i hi, by rw [s4', q5]; exact frA3.2.2.2.2.2⟩
    have hlt : ¬ limS w ≤ xN x := by omega
    by_cases hM : xM x < 200000
    · right
      rw [if_pos ((h13' _ h13m).mpr hM), nm_eq, st_pack a40, if_neg (fun z => z rfl), gd_true (n_in (by omega) (by decide)), ed_pack a40 (by omega), n_cl (by omega), nm_eq, mS_wo (by decide) (by decide) (by decide) (by decide), mS_m, f2] at start
      let σ5 : qS := uI σ4 91 (xN x) (nI (k * 64 + stN a))
      have HB5 : XB σ5 71 p P := xb_fr hB (fun z hz => by rw [show σ5.1 z = σ4.1 z from uI_ne (by omega), m3 z (by omega) (by omega) (by omega) (by omega) (by omega) (by omega) (by omega), fr3 z (by omega)]) (by show σ4.2.2 = _; rw [s4', q5]; show σ3.2.2 = _; rw [p2]; rfl)
      -- whether it was a while
      have hln : lnA P N1 (a / 10) (a % 10) = -2 ∨ ∃ i, i < n ∧ lnA P N1 (a / 10) (a % 10) = nI i := by
        unfold lnA
        by_cases q9 : a % 10 = 9
        · rw [if_pos q9]; exact Or.inl rfl
        · rw [if_neg q9]
          obtain ⟨i, hi, e, -⟩ := ln_rd hP hN1s hr1 q9
          exact Or.inr ⟨i, hi, e⟩
      have hwh : (decide (¬ lnA P N1 (a / 10) (a % 10) = -2) && decide (kd P (clp (lnA P N1 (a / 10) (a % 10))) = 18)) = isW P (xS x k) a := by
        unfold isW
        by_cases q9 : a % 10 = 9
        · rw [decide_eq_false (show ¬ a % 10 ≠ 9 from fun z => z q9), Bool.false_and]
          unfold lnA
          rw [if_pos q9, decide_eq_false (fun z => z rfl), Bool.false_and]
        · obtain ⟨i, hi, e, -⟩ := ln_rd hP hN1s hr1 q9
          have e' : xS x k (4 + a / 10) = nI i := (hN1 (4 + a / 10) (by omega)).symm.trans e
          unfold lnA
          rw [if_neg q9, e, e', decide_eq_true (show a % 10 ≠ 9 from q9), decide_eq_true (by rw [n_m2 (by omega)]; exact id)]
      have e6 := x_isWhile (en := en) (d := d + 6) (F := F2) (N := N3) (b := b2) (G := G2) HB5 hP hln
      rw [hwh] at e6
      have s152 : ∀ v : Int32, L_X10_tryStep_152 en (d + 7) (nI (xN x)) (nI (stN a)) (nI (xN x)) v (mS σ5 71 F2 N3 b2 G2) = some (some (.int 1), mS (uI (uI (uI σ5 93 (xN x) v) 90 (xM x) (nI (xN x * 64 + stN a))) 70 13 (nI (xM x + 1))) 71 F2 N3 b2 G2) := by
        intro v
        refine le_X10_tryStep_152 en _ _ _ _ _ _ _ ?_
        rw [gd_true (n_in (by omega) (by decide)), nm_eq, n_cl (by omega), mS_wo (by decide) (by decide) (by decide) (by decide), l_153 (m := xM x) (by rw [mS_o (by decide) (by decide) (by decide) (by decide), uI_ne (by decide), uI_ne (by decide)]; rw [mS_o (by decide) (by decide) (by decide) (by decide)] at h13m; exact h13m) hM a40 (by omega), mS_wo (by decide) (by decide) (by decide) (by decide), mS_wo (by decide) (by decide) (by decide) (by decide)]
      refine ⟨_, by rw [tS, if_neg (by omega), hfn]; dsimp only; rw [if_neg hlt], uI (uI (uI σ5 93 (xN x) (nI (mrk0 (isW P (xS x k) a)))) 90 (xM x) (nI (xN x * 64 + stN a))) 70 13 (nI (xM x + 1)), F2, N3, G2, b2, start _ ?_, ?_, ?_, fun j h1 h2 => ?_, ⟨(pk_un (by decide)).trans hN25, SV_eqS hP (fun j hj => pk_un (by omega)) hN2s⟩⟩
      · rw [e6, bI_some]
        cases isW P (xS x k) a with
        | true => rw [if_neg (by decide)]; exact s152 16
        | false => rw [if_pos (by decide)]; exact s152 0
      · refine ⟨xb_fr HB5 (fun z hz => by rw [uI_ne (by omega), uI_ne (by omega), uI_ne (by omega)]) rfl, ⟨hsl2.1, sl2, sl3, fun i hi => by rw [uI_ne (by decide), uI_ne (by decide), uI_ne (by decide), show σ5.1 75 = σ4.1 75 from uI_ne (by decide), m3 75 (by decide) (by decide) (by decide) (by decide) (by decide) (by decide) (by decide), fr3 75 (by decide)]; exact sl4 i hi, sl5⟩, by rw [f1 6 (by decide) (by decide) (by decide) (by decide)]; exact hF6, by rw [f1 8 (by decide) (by decide) (by decide) (by decide)]; exact hF8, ?_, by rw [g_I, if_pos ⟨rfl, rfl⟩], ?_, ?_, ?_⟩
        · exact r5'.fr (fun j _ => by rw [uI_ne (by decide), uI_ne (by decide), uI_ne (by decide), show σ5.1 83 = σ4.1 83 from uI_ne (by decide)]) (fun i _ => by rw [uI_ne (by decide), uI_ne (by decide), uI_ne (by decide), show σ5.1 85 = σ4.1 85 from uI_ne (by decide)]) (fun i _ => by rw [uI_ne (by decide), uI_ne (by decide), uI_ne (by decide), show σ5.1 86 = σ4.1 86 from uI_ne (by decide)]) (fun i _ j _ => rfl)
        · refine hE3 (xN x, a) _ (fun e he => ?_) ?_
          · rw [uI_ne (by decide), g_I, if_neg (fun z => he z.2), uI_ne (by decide), show σ5.1 90 = σ4.1 90 from uI_ne (by decide), m3 90 (by decide) (by decide) (by decide) (by decide) (by decide) (by decide) (by decide), fr3 90 (by decide)]
          · rw [uI_ne (by decide), g_I, if_pos ⟨rfl, rfl⟩]
        · intro i h1 h2
          have h2 : i < xN x + 1 := h2
          rw [uI_ne (by decide), uI_ne (by decide), uI_ne (by decide)]
          show (uI σ4 91 (xN x) (nI (k * 64 + stN a))).1 91 i = nI ((at1 (xF x) (xN x) (k, a) i).1 * 64 + stN (at1 (xF x) (xN x) (k, a) i).2)
          rw [g_I]
          by_cases z : i = xN x
          · rw [if_pos ⟨rfl, z⟩, z, at1_s]
          · rw [if_neg (fun y => z y.2), at1_n z, m3 91 (by decide) (by decide) (by decide) (by decide) (by decide) (by decide) (by decide), fr3 91 (by decide)]
            exact hFd i h1 (by omega)
        · rw [uI_ne (by decide), uI_ne (by decide), uI_ne (by decide), show σ5.1 79 = σ4.1 79 from uI_ne (by decide), m3 79 (by decide) (by decide) (by decide) (by decide) (by decide) (by decide) (by decide), p1, uIr_row]; exact hO'
      · exact ⟨fun c h1 h2 h3 h4 h5 h6 h7 h8 h9 h10 h11 h12 => by rw [uI_ne h1, uI_ne h6, uI_ne h8, show σ5.1 c = σ4.1 c from uI_ne h7]; exact frA4.1 c h1 h2 h3 h4 h5 h6 h7 h8 h9 h10 h11 h12, fun j hj => by rw [g_I, if_neg (fun z => hj z.2), uI_ne (by decide), uI_ne (by decide), show σ5.1 70 = σ4.1 70 from uI_ne (by decide)]; exact frA4.2.1 j hj, fun j hj => by rw [uI_ne (by decide), uI_ne (by decide), g_I, if_neg (by omega), show σ5.1 93 = σ4.1 93 from uI_ne (by decide)]; exact frA4.2.2.1 j hj, frA4.2.2.2.1, frA4.2.2.2.2.1, frA4.2.2.2.2.2⟩
      · have h2 : j < xN x + 1 := h2
        obtain rfl : j = xN x := by omega
        rw [uI_ne (by decide), uI_ne (by decide), g_I, if_pos ⟨rfl, rfl⟩]
        show _ = nI (mrk0 (at1 (xWh x) (xN x) (isW P (xS x k) a) (xN x)))
        rw [at1_s]
    · left
      refine ⟨by rw [tS, if_pos (by omega)], σ4, F2, N3, G2, b2, xN x + 1, start _ ?_, frA4, r5'.1, by omega⟩
      rw [if_neg (fun z => hM ((h13' _ h13m).mp z))]
  · -- no room
    have hfn : fndS (xS x) (stp P w (xS x k) (a / 10) (a % 10) nt) (xN x) 0 = none := fnd_no fun i hi z => hno i hi ((hsm i hi).mpr z.sy)
    left
    have e5' : qev en (d + 7) 150 [.ref 83, .ref 94, .int (0 : Int32)] (mS σ3 71 F2 N3 b2 G2) = some (some (.int (-1)), mS σ3 71 F2 N3 b2 G2) := e5
    rw [e5', bI_some, if_pos (by decide)] at start
    refine ⟨?_, σ3, F2, N3, G2, b2, xN x, start _ rfl, frA3, by rw [fr3 83 (by decide)]; exact hRW.1, by omega⟩
    rw [tS]
    by_cases z : 200000 ≤ xM x
    · rw [if_pos z]
    · rw [if_neg z, hfn]
      dsimp only
      rw [if_pos hl]
end TY

