/-! ALL TURNS, the class's side: tryAll. -/
section TC
variable {en : pN} {d p w nc nl nt n t u k a m0 e0 : Nat} {σ σ' : qS} {P : Nat → fI} {F F' N M G g : fI} {b : Int32} {x : xT} {fw : Bool}
theorem RW.cg {s : qS} {r0 D S T k n w lim : Nat} {st st' : Nat → Nat} {R R' : Nat → fJ} (h : RW s r0 D S T k n w lim st R) (h1 : ∀ i, i < n → st' i = st i) (h2 : ∀ i, i < n → R' i = R i) : RW s r0 D S T k n w lim st' R' := by
  obtain ⟨a1, a2, a3, a4, a5, a6⟩ := h
  refine ⟨a1, a2, a3, a4, fun i hi => ?_, tb_hcg (fun i hi => congrArg (hsJ k w) (h2 i hi)) a6⟩
  rw [h1 i hi, h2 i hi]
  exact a5 i hi
theorem cntP_0 {T : fI} : ∀ k, (∀ z, z < k → T z = -1) → cntP T k = 0 := by
  intro k
  induction k with
  | zero => intro _; rfl
  | succ k ih =>
    intro h
    unfold cntP
    rw [ih (fun z hz => h z (by omega)), h k (by omega), if_pos (by decide)]
theorem f0_eqS (hc8 : nc ≤ 8) {M M' : fI} : eqS (fst0 P w nc nt M) (fst0 P w nc nt M') := fun j hj => by
  rw [f0_at hc8, f0_at hc8, if_pos (show j < 236 by omega), if_pos (show j < 236 by omega)]
/-- all turns tried -/
abbrev xcF (P : Nat → fI) (w nc nl nt p : Nat) (fw : Bool) (X : xT) (σ : qS) (F : fI) : Prop := xcB P w nc nl nt p fw (xN X) X σ F ∧ (∀ i, i < xN X + 1 → σ.1 92 i = nI (xA X i)) ∧ σ.1 70 17 = 1
/-- what holds before the loop -/
abbrev frTB (p : Nat) (σ τ : qS) : Prop := (∀ c, c < 70 ∨ 99 ≤ c → c ≠ 7 → c ≠ 10 → τ.1 c = σ.1 c) ∧ (∀ a, a ≠ 84 → a ≠ 94 → τ.2.1 a = σ.2.1 a) ∧ τ.2.2 = (uR σ 71 7 (p + 1)).2.2 ∧ τ.1 70 19 = 0
theorem x_begAll (hP : PV P nc nl nt n) (hw2 : w ≤ 2) (h2 : p = 11 ∨ p = 36) (hPr : ∀ a, a < 25 → σ.1 (p + a) = P a) (h8 : lmN P ≤ 500 ∧ ∀ j, j < lmN P → σ.1 8 j = P 25 j) (h9 : ∀ j, j < lmN P → σ.1 9 j = P 26 j) (hc0 : P 0 9 = nI nc) (hl0 : P 0 10 = nI nl) (ht0 : P 0 11 = nI nt) (hin : ∀ c, c < nc → inR (P 4 c)) :
    ∃ (τ : qS) (F N G : fI) (b : Int32), (∀ r, L_X10_tryAll_142 en (d + 10) 1 (nI 0) (mS τ 71 F N b G) = some r → qev en (d + 11) 177 [.ref 70, .ref p, .int (nI w), .int (bt fw)] σ = some r) ∧ frTB p σ τ ∧ xcB P w nc nl nt p fw 0 (beg0 (fst0 P w nc nt (fun _ => 0))) τ F ∧ SV P w nc nl nt n N ∧ N 235 = 0 := by
  have hc8 := hP.1.2
  have ht4 := hP.2.2.1.2
  have hl4 := hP.2.1.2
  have hlim := @lim_le w
  have hA := slA_len (w := w) hP
  have hA220 : (slA P w nc nl nt).length ≤ 220 := by
    have := hA.1
    split at this <;> omega
  have hO34 := (slO_len hP).1
  let σa : qS := uI (uI (uI (uI (uI σ 70 17 0) 70 18 (bt fw)) 70 19 0) 70 13 0) 70 14 0
  have ha : ∀ c, c ≠ 70 → σa.1 c = σ.1 c := fun c hc => by
    show (uI (uI (uI (uI (uI σ 70 17 0) 70 18 (bt fw)) 70 19 0) 70 13 0) 70 14 0).1 c = _
    rw [uI_ne hc, uI_ne hc, uI_ne hc, uI_ne hc, uI_ne hc]
  have lp : lc p = 5 := by rcases h2 with rfl | rfl <;> rfl
  have e0 : mS σa 71 (σa.1 71) (σa.1 72) (σa.1 7 4) (σa.1 10) = σa := mS_id
  have e1 := x_first (en := en) (d := d + 8) (σ := σa) (m := 71) (p := p) (F := σa.1 71) (N := σa.1 72) (b := σa.1 7 4) (G := σa.1 10) (Or.inl rfl) h2 (fun a h => by rw [ha _ (by omega)]; exact hPr a h) (by rw [ha 8 (by decide)]; exact h8) (by rw [ha 9 (by decide)]; exact h9) hw2 hc0 hc8 ht0 ht4
  rw [e0] at e1
  let σb : qS := uR σa 71 7 (p + 1)
  let N0 : fI := fst0 P w nc nt (σa.1 72)
  have HBb : XB σb 71 p P := ⟨Or.inl rfl, h2, by show (if 71 = 71 ∧ 7 = 7 then p + 1 else σa.2.2 71 7) = p + 1; rw [if_pos ⟨rfl, rfl⟩], fun a h => by show σa.1 (p + a) = P a; rw [ha _ (by omega)]; exact hPr a h, by show lmN P ≤ 500 ∧ ∀ j, j < lmN P → σa.1 8 j = P 25 j; rw [ha 8 (by decide)]; exact h8, by show ∀ j, j < lmN P → σa.1 9 j = P 26 j; rw [ha 9 (by decide)]; exact h9⟩
  have hN0s : SV P w nc nl nt n N0 := f0_SV hP hw2 hin
  have hN05 : N0 235 = 0 := f0_z hc8 235 (by decide) (by omega) (by omega) (by omega) (by omega) (by omega) (by omega)
  obtain ⟨R', e2, r2⟩ := x_pickSlots (en := en) (d := d + 6) (m := 71) (p := p) (R := σb.1 (71 + 4)) (F := upd (σa.1 71) 8 (nI w)) (N := N0) (b := σa.1 7 4) (G := σa.1 10) HBb hP pk_us hw2
  rw [uIr_i] at e2
  let F2 : fI := upd (upd (upd (σa.1 71) 8 (nI w)) 5 (nI (slA P w nc nl nt).length)) 6 (nI (slO P nc nt).length)
  let σc : qS := uIr σb (71 + 4) R'
  have hc : ∀ c, c ≠ 70 → c ≠ 75 → σc.1 c = σ.1 c := fun c h1 h2 => by
    show (uIr σb (71 + 4) R').1 c = _
    rw [uIr_ne h2]; exact ha c h1
  have HBc : XB σc 71 p P := xb_fr HBb (fun z hz => uIr_ne (by omega)) rfl
  -- findings gone
  obtain ⟨s1, e3, c1, c2, c3, c4, c5, c6, c7⟩ := x_clearF (en := en) (d := d + 8) (p := p) (nl := nl) (s := mS σc 71 F2 N0 (σa.1 7 4) (σa.1 10)) lp (by
    rw [mS_o (by omega) (by omega) (by omega) (by omega), hc p (by omega) (by omega), ← Nat.add_zero p, hPr 0 (by decide)]; exact hl0)
  have s1m : ∀ c, c = 71 ∨ c = 72 ∨ c = 10 ∨ c = 7 → s1.1 c = (mS σc 71 F2 N0 (σa.1 7 4) (σa.1 10)).1 c := fun c hc => c1 c (by omega) (by omega) (by omega) (by omega) (by omega)
  have s171 : s1.1 71 = F2 := by rw [s1m 71 (Or.inl rfl), mS_m]
  -- the rows' tables
  obtain ⟨s2, e4, d1, d2, d3, d4⟩ := x_clear (en := en) (d := d + 8) (s := s1) (w' := (slA P w nc nl nt).length / 2) (lim' := limS w) rw83 (by decide)
  obtain ⟨s3, e5, g1, g2, g3, g4⟩ := x_clear (en := en) (d := d + 8) (s := s2) (w' := (slO P nc nt).length / 2) (lim' := 20000) rw87 (by decide)
  have start : ∀ r, bV (qev en (d + 10) 38 [.ref 71, .ref 94] s3) (fun s8 => bI (qev en (d + 10) 150 [.ref 83, .ref 94, .int (0 : Int32)] s8) (fun w10 s11 => nm (uI s11 93 0 (0 : Int32)) (fun s13 => nm (uI s13 91 0 (-1 : Int32)) (fun s14 => L_X10_tryAll_142 en (d + 10) (1 : Int32) (0 : Int32) s14)))) = some r → qev en (d + 11) 177 [.ref 70, .ref p, .int (nI w), .int (bt fw)] σ = some r := by
    intro r hh
    refine le_X10_tryAll en (d + 10) _ _ _ _ _ ?_
    rw [gd_true lp, nm_eq, gd_true (by cases fw <;> decide), nm_eq, nm_eq, nm_eq, nm_eq, e1, bV_some, e2, bV_some, e3, bV_some, s171]
    have l76 : L_X10_tryAll_76 en (d + 10) (F2 5 / (2 : Int32)) (nI (limS w)) s1 = some r := by
      refine le_X10_tryAll_76 en _ _ _ _ _ ?_
      rw [show F2 5 = nI (slA P w nc nl nt).length from (pk_un (by decide)).trans pk_us, n_d2 (by omega), e4, bV_some, d1 71 (by decide) (by decide), s171, show F2 6 = nI (slO P nc nt).length from pk_us, n_d2 (by omega), show (20000 : Int32) = nI 20000 from rfl, e5, bV_some]
      exact hh
    unfold limS at l76
    by_cases z : w = 2
    · rw [if_pos z] at l76
      rw [if_neg (fun y => y (by rw [z]; rfl))]
      exact l76
    · rw [if_neg z] at l76
      rw [if_pos (show ¬ nI w = (2 : Int32) by rw [show (2 : Int32) = nI 2 from rfl, n_EQ (by omega) (by omega)]; exact z)]
      exact l76
  have s3r : ∀ c, c ≠ 83 → c ≠ 86 → c ≠ 87 → c ≠ 89 → s3.1 c = s1.1 c := fun c h1 h2 h3 h4 => (g1 c h3 h4).trans (d1 c h1 h2)
  have s32 : s3.2 = σc.2 := g3.trans (d3.trans c2)
  have pic := mS_pic (σ := σc) (F := F2) (N := N0) (b := σa.1 7 4) (G := σa.1 10) (s' := s3) (fun c hc => (s3r c (by omega) (by omega) (by omega) (by omega)).trans (s1m c (by omega))) (by rw [s3r 7 (by decide) (by decide) (by decide) (by decide), s1m 7 (by decide)])
  generalize hσ4 : ((fun a k => if a = 71 ∨ a = 72 ∨ a = 10 ∨ (a = 7 ∧ k = 4) then σc.1 a k else s3.1 a k, s3.2) : qS) = σ4 at pic
  have s4 : ∀ c, c ≠ 71 → c ≠ 72 → c ≠ 10 → c ≠ 7 → σ4.1 c = s3.1 c := fun c h1 h2 h3 h4 => by
    rw [← hσ4]
    funext j
    exact if_neg (by omega)
  have s4' : σ4.2 = s3.2 := by rw [← hσ4]
  have s4c : ∀ c, c ≠ 71 → c ≠ 72 → c ≠ 10 → c ≠ 7 → c ≠ 83 → c ≠ 86 → c ≠ 87 → c ≠ 89 → c ≠ 76 → c ≠ 77 → c ≠ 78 → c ≠ 79 → c ≠ 80 → σ4.1 c = σc.1 c := fun c h1 h2 h3 h4 h5 h6 h7 h8 h9 h10 h11 h12 h13 => by
    rw [s4 c h1 h2 h3 h4, s3r c h5 h6 h7 h8, c1 c h9 h10 h11 h12 h13, mS_o h1 h2 h3 h4]
  have HB4 : XB σ4 71 p P := xb_fr HBc (fun z hz => s4c z (by omega) (by omega) (by omega) (by omega) (by omega) (by omega) (by omega) (by omega) (by omega) (by omega) (by omega) (by omega) (by omega)) (by rw [s4', s32])
  have hsl4 : slI σ4 71 F2 (slA P w nc nl nt) := by
    refine ⟨(pk_un (by decide)).trans pk_us, ?_, hA.2.1, fun i hi => ?_, fun z hz => slA_lt hP hz⟩
    · have := hA.1
      split at this <;> omega
    · rw [s4c (71 + 4) (by decide) (by decide) (by decide) (by decide) (by decide) (by decide) (by decide) (by decide) (by decide) (by decide) (by decide) (by decide) (by decide)]
      show (uIr σb (71 + 4) R').1 (71 + 4) i = _
      rw [uIr_row]
      exact r2 i hi
  obtain ⟨σ5, e6, p1, p2, p3, p4⟩ := x_pack (en := en) (d := d + 8) (a := 94) (b := σa.1 7 4) (G := σa.1 10) (N := N0) HB4 hsl4 ht0 ht4 rfl (by decide)
  let N3 : fI := upd N0 233 (nI (soS N0 nt))
  let wd : Nat := (slA P w nc nl nt).length / 2
  let S0 : fI := fst0 P w nc nt (fun _ => 0)
  have hS0 : SV P w nc nl nt n S0 := f0_SV hP hw2 hin
  have hNS : eqS N0 S0 := f0_eqS hc8
  have hwd : wd ≤ 110 := by show (slA P w nc nl nt).length / 2 ≤ 110; omega
  have hcn : ∀ j, j < wd → pkR (slA P w nc nl nt) N3 j = pkR (slA P w nc nl nt) (cnS nt S0) j := fun j hj => by
    refine (pkR_cg hA.2.1 (cn_of hP hN05) j hj).trans ?_
    exact (cn_sm hP hN0s hS0).mpr hNS j hj
  have hRW4 : RW (mS σ5 71 F2 N3 (σa.1 7 4) (σa.1 10)) 83 84 85 86 15 0 wd (limS w) (fun _ => 0) (fun _ => fun _ => 0) := by
    refine RW_m (d4.fr (fun j _ => ?_) (fun i hi => absurd hi (Nat.not_lt_zero i)) (fun i _ => ?_) (fun i hi => absurd hi (Nat.not_lt_zero i))) (by decide) (by decide) (by decide)
    · rw [p1, s4 83 (by decide) (by decide) (by decide) (by decide), g1 83 (by decide) (by decide)]
    · rw [p1, s4 86 (by decide) (by decide) (by decide) (by decide), g1 86 (by decide) (by decide)]
  have hlm : limS w * wd ≤ 740000 := by
    have hA := hA.1
    show limS w * ((slA P w nc nl nt).length / 2) ≤ 740000
    unfold limS
    by_cases w2 : w = 2
    · rw [if_pos w2] at hA ⊢; omega
    · rw [if_neg w2] at hA ⊢; omega
  have hl1 : 1 ≤ limS w := by unfold limS; split <;> omega
  rcases x_put (en := en) (d := d + 7) (a := 94) (f := 0) (g := pkR (slA P w nc nl nt) (cnS nt S0)) rw83 hRW4 (fun i hi => absurd hi (Nat.not_lt_zero i)) (by decide) ⟨by show limS w * wd ≤ 740000; exact hlm, by show limS w ≤ 20000; exact hlim, by show limS w < 32768; omega⟩ (by omega) rfl (by decide) (by show 0 + wd ≤ 110; omega) (by decide) (fun j hj => by
      show σ5.2.1 94 (0 + j) = _
      rw [Nat.zero_add, p4 j hj]
      exact hcn j hj) with ⟨i, hi, -⟩ | ⟨-, ⟨-, s6, e7, f5, r5⟩ | ⟨hl, -⟩⟩
  · exact absurd hi (Nat.not_lt_zero i)
  rotate_left
  · omega
  obtain ⟨q1, q2, q3, q4, q5⟩ := f5
  have pic2 := mS_pic (σ := σ5) (F := F2) (N := N3) (b := σa.1 7 4) (G := σa.1 10) (s' := s6) (fun c hc => q1 c (by omega) (by omega) (by omega)) (by rw [q1 7 (by decide) (by decide) (by decide)])
  generalize hσ7 : ((fun a k => if a = 71 ∨ a = 72 ∨ a = 10 ∨ (a = 7 ∧ k = 4) then σ5.1 a k else s6.1 a k, s6.2) : qS) = σ7 at pic2
  have s7 : ∀ c, c ≠ 71 → c ≠ 72 → c ≠ 10 → c ≠ 7 → σ7.1 c = s6.1 c := fun c h1 h2 h3 h4 => by
    rw [← hσ7]
    funext j
    exact if_neg (by omega)
  have s7' : σ7.2 = s6.2 := by rw [← hσ7]
  have s7m : ∀ c, c ≠ 71 → c ≠ 72 → c ≠ 10 → c ≠ 7 → c ≠ 83 → c ≠ 85 → c ≠ 86 → σ7.1 c = σ4.1 c := fun c h1 h2 h3 h4 h5 h6 h7 => by
    rw [s7 c h1 h2 h3 h4, q1 c h5 h6 h7, mS_o h1 h2 h3 h4, p1]
  let σ8 : qS := uI (uI σ7 93 0 0) 91 0 (-1)
  have s8m : ∀ c, c ≠ 71 → c ≠ 72 → c ≠ 10 → c ≠ 7 → c ≠ 83 → c ≠ 85 → c ≠ 86 → c ≠ 91 → c ≠ 93 → σ8.1 c = σ4.1 c := fun c h1 h2 h3 h4 h5 h6 h7 h8 h9 => by
    rw [show σ8.1 c = (uI σ7 93 0 0).1 c from uI_ne h8, uI_ne h9]; exact s7m c h1 h2 h3 h4 h5 h6 h7
  have s870 : ∀ j, σ8.1 70 j = σa.1 70 j := fun j => by
    rw [s8m 70 (by decide) (by decide) (by decide) (by decide) (by decide) (by decide) (by decide) (by decide) (by decide), s4c 70 (by decide) (by decide) (by decide) (by decide) (by decide) (by decide) (by decide) (by decide) (by decide) (by decide) (by decide) (by decide) (by decide)]
    show (uIr σb (71 + 4) R').1 70 j = _
    rw [uIr_ne (by decide)]; rfl
  have s82 : σ8.2.2 = σc.2.2 := by
    show σ7.2.2 = _
    rw [s7', q5]
    show σ5.2.2 = _
    rw [p2, s4', s32]
  have s87 : ∀ c, c = 76 ∨ c = 77 ∨ c = 78 ∨ c = 79 ∨ c = 80 → σ8.1 c = s1.1 c := fun c hc => by
    rw [s8m c (by omega) (by omega) (by omega) (by omega) (by omega) (by omega) (by omega) (by omega) (by omega), s4 c (by omega) (by omega) (by omega) (by omega), s3r c (by omega) (by omega) (by omega) (by omega)]
  have f70 : ∀ j, σa.1 70 j = if j = 14 then 0 else if j = 13 then 0 else if j = 19 then 0 else if j = 18 then bt fw else if j = 17 then 0 else σ.1 70 j := fun j => by
    show (uI (uI (uI (uI (uI σ 70 17 0) 70 18 (bt fw)) 70 19 0) 70 13 0) 70 14 0).1 70 j = _
    rw [uI_row, uI_row, uI_row, uI_row, uI_row]; rfl
  refine ⟨σ8, F2, N3, σa.1 10, σa.1 7 4, fun r hh => start r ?_, ⟨fun c h1 h7 h10 => ?_, fun c h1 h2 => ?_, s82, by rw [s870, f70]; rfl⟩, ⟨⟨?_, ?_, pk_us, (pk_un (by decide)).trans ((pk_un (by decide)).trans pk_us), ?_, by rw [s870, f70]; rfl, fun e he => absurd he (Nat.not_lt_zero e), fun i h1 h2 => absurd h2 (by show ¬ i < 1; omega), ?_⟩, ⟨fun i hi => absurd hi (Nat.not_lt_zero i), fun i hi => absurd hi (Nat.not_lt_zero i), ?_, by rw [s870, f70]; rfl, fun z hz => Or.inl ⟨rfl, ?_⟩, ?_, fun c hc => ?_, fun c hc => ?_⟩, fun i _ h2 => ?_, by rw [s870, f70]; rfl⟩, SV_eqS hP (fun j hj => pk_un (by omega)) hN0s, (pk_un (by decide)).trans hN05⟩
  · have e7' : qev en (d + 10) 150 [.ref 83, .ref 94, .int (0 : Int32)] (mS σ5 71 F2 N3 (σa.1 7 4) (σa.1 10)) = some (some (.int (nI 0)), s6) := e7
    rw [pic, e6, bV_some, e7', bI_some, nm_eq, nm_eq, pic2, mS_wo (by decide) (by decide) (by decide) (by decide), mS_wo (by decide) (by decide) (by decide) (by decide)]
    exact hh
  · rw [s8m c (by omega) (by omega) h10 h7 (by omega) (by omega) (by omega) (by omega) (by omega), s4c c (by omega) (by omega) h10 h7 (by omega) (by omega) (by omega) (by omega) (by omega) (by omega) (by omega) (by omega) (by omega)]
    exact hc c (by omega) (by omega)
  · show σ7.2.1 c = _
    rw [s7', q3 c h1]
    show σ5.2.1 c = _
    rw [p3 c h2, s4', s32]
    rfl
  · exact xb_fr HB4 (fun z hz => s8m z (by omega) (by omega) (by omega) (by omega) (by omega) (by omega) (by omega) (by omega) (by omega)) (by rw [s82, s4', s32])
  · refine ⟨hsl4.1, hsl4.2.1, hsl4.2.2.1, fun i hi => ?_, hsl4.2.2.2.2⟩
    rw [s8m (71 + 4) (by decide) (by decide) (by decide) (by decide) (by decide) (by decide) (by decide) (by decide) (by decide)]
    exact hsl4.2.2.2.1 i hi
  · have r6 := r5.fr (s' := σ8) (fun j _ => by rw [show σ8.1 83 = (uI σ7 93 0 0).1 83 from uI_ne (by decide), uI_ne (by decide), s7 83 (by decide) (by decide) (by decide) (by decide)]) (fun i _ => by rw [show σ8.1 85 = (uI σ7 93 0 0).1 85 from uI_ne (by decide), uI_ne (by decide), s7 85 (by decide) (by decide) (by decide) (by decide)]) (fun i _ => by rw [show σ8.1 86 = (uI σ7 93 0 0).1 86 from uI_ne (by decide), uI_ne (by decide), s7 86 (by decide) (by decide) (by decide) (by decide)]) (fun i _ j _ => by show σ7.2.1 84 _ = _; rw [s7'])
    refine RW.cg r6 (fun i hi => ?_) (fun i hi => ?_)
    · have hi : i < 0 + 1 := hi
      rw [if_pos (by omega), show i = 0 by omega]
    · have hi : i < 0 + 1 := hi
      rw [if_pos (by omega)]
      rfl
  · intro a ha q hq
    rw [s87 79 (by omega), c6 a ha]
    show (0#32).getLsbD q = false
    simp
  · refine RW.cg (g4.fr (s' := σ8) (fun j _ => ?_) (fun i hi => absurd hi (Nat.not_lt_zero i)) (fun i _ => ?_) (fun i hi => absurd hi (Nat.not_lt_zero i))) (fun i hi => absurd hi (Nat.not_lt_zero i)) (fun i hi => absurd hi (Nat.not_lt_zero i))
    · rw [s8m 87 (by decide) (by decide) (by decide) (by decide) (by decide) (by decide) (by decide) (by decide) (by decide), s4 87 (by decide) (by decide) (by decide) (by decide)]
    · rw [s8m 89 (by decide) (by decide) (by decide) (by decide) (by decide) (by decide) (by decide) (by decide) (by decide), s4 89 (by decide) (by decide) (by decide) (by decide)]
  · rw [s87 77 (by omega)]; exact c3 z hz
  · rw [s87 76 (by omega), s87 77 (by omega), c4, cntP_0 10000 (fun z hz => c3 z hz)]; rfl
  · rw [s87 78 (by omega), c5 c hc]; rfl
  · rw [s87 80 (by omega), c7 c hc]; rfl
  · have h2 : i < 1 := h2
    obtain rfl : i = 0 := by omega
    show (uI (uI σ7 93 0 0) 91 0 (-1)).1 93 0 = nI 0
    rw [uI_ne (by decide), g_I, if_pos ⟨rfl, rfl⟩]; rfl
end TC

