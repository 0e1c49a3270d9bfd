/-! ALL TURNS, the class's side: what holds when the states up to k are through; a state looked at. -/
abbrev rcE (v : Int32) (o : Option Nat) : Prop := (o = none ∧ v = -1) ∨ ∃ i, i < 20000 ∧ o = some i ∧ v = nI i
/-- findings, marks and outcomes of the first k states -/
abbrev xcD (P : Nat → fI) (w nc nl nt : Nat) (k : Nat) (x : xT) (σ : qS) : Prop := (∀ i, i < k → σ.1 92 i = nI (xA x i)) ∧ (∀ i, i < k → σ.1 93 i = nI (mrkN (xWh x i) (rdl P w (xS x i) nt nt) (soS (xS x i) nt) (outN P w nt (xS x) i))) ∧
  RW σ 87 84 88 89 15 (outL P w nt (xS x) k).length ((slO P nc nt).length / 2) 20000 (fun i => (outL P w nt (xS x) k).getD i 0 * ((slA P w nc nl nt).length / 2)) (fun i => pkR (slO P nc nt) (cnS nt (xS x ((outL P w nt (xS x) k).getD i 0)))) ∧
  σ.1 70 14 = nI (endN P w nt (xS x) k) ∧ (∀ z, z < 10000 → rcE (σ.1 77 z) (fsR (fun i => hasR P w (xS x i) nt z) k)) ∧ σ.1 76 6 = nI (cntP (σ.1 77) 10000) ∧ (∀ c, c < 8 → σ.1 78 c = guS P w (xS x) nl nt k c) ∧ (∀ c, c < 5 → σ.1 80 c = rngK P w nt (xS x) k c)
abbrev xcB (P : Nat → fI) (w nc nl nt p : Nat) (fw : Bool) (k : Nat) (x : xT) (σ : qS) (F : fI) : Prop := xcI P w nc nl nt p x σ F ∧ xcD P w nc nl nt k x σ ∧ (∀ i, k ≤ i → i < xN x → σ.1 93 i = nI (mrk0 (xWh x i))) ∧ σ.1 70 18 = bt fw
section LA
variable {en : pN} {d p w nc nl nt n t u k a m0 e0 : Nat} {σ σ' : qS} {P : Nat → fI} {F F' N M G g : fI} {b : Int32} {x : xT} {fw : Bool}
theorem endN_le {S : Nat → fI} : ∀ k, endN P w nt S k ≤ k := by
  intro k
  induction k with
  | zero => exact Nat.le_refl 0
  | succ k ih => unfold endN; split <;> omega
/-- what is told of the first k states stays, where rows stay -/
theorem xcD.fr {y : xT} (h : xcD P w nc nl nt k x σ) (hS : ∀ i, i < k → xS y i = xS x i ∧ xWh y i = xWh x i ∧ xA y i = xA x i) (h1 : ∀ c, c = 92 ∨ c = 87 ∨ c = 88 ∨ c = 89 ∨ c = 77 ∨ c = 76 ∨ c = 78 ∨ c = 80 → σ'.1 c = σ.1 c) (h2 : ∀ i, i < k → σ'.1 93 i = σ.1 93 i) (h3 : σ'.1 70 14 = σ.1 70 14) (h4 : ∀ i, i < k * ((slA P w nc nl nt).length / 2) → σ'.2.1 84 i = σ.2.1 84 i) (h5 : (slO P nc nt).length ≤ (slA P w nc nl nt).length) : xcD P w nc nl nt k y σ' := by
  obtain ⟨a1, a2, a3, a4, a5, a6, a7, a8⟩ := h
  have eS : ∀ i, i < k → xS y i = xS x i := fun i hi => (hS i hi).1
  have eL : outL P w nt (xS y) k = outL P w nt (xS x) k := outL_cg k eS
  refine ⟨fun i hi => by rw [h1 92 (by omega), (hS i hi).2.2]; exact a1 i hi, fun i hi => by rw [h2 i hi, eS i hi, (hS i hi).2.1, outN_cg (fun j hj => eS j (by omega))]; exact a2 i hi, ?_, by rw [h3, endN_cg k eS]; exact a4, fun z hz => by rw [h1 77 (by omega), fsR_cg (f' := fun i => hasR P w (xS x i) nt z) k (fun i hi => by rw [eS i hi])]; exact a5 z hz, by rw [h1 76 (by omega), h1 77 (by omega)]; exact a6, fun c hc => by rw [h1 78 (by omega), guS_cg k eS]; exact a7 c hc, fun c hc => by rw [h1 80 (by omega), rngK_cg k eS]; exact a8 c hc⟩
  rw [eL]
  have e2 : (fun i => pkR (slO P nc nt) (cnS nt (xS x ((outL P w nt (xS x) k).getD i 0)))) = (fun i => pkR (slO P nc nt) (cnS nt (if i < (outL P w nt (xS x) k).length then xS x ((outL P w nt (xS x) k).getD i 0) else xS x ((outL P w nt (xS x) k).getD i 0)))) := funext fun i => by split <;> rfl
  have r := a3.fr (s' := σ') (fun j _ => by rw [h1 87 (by omega)]) (fun i _ => by rw [h1 88 (by omega)]) (fun i _ => by rw [h1 89 (by omega)]) (fun i hi j hj => by
    have := outL_lt (P := P) (w := w) (nt := nt) (S := xS x) k _ (getD_mem hi)
    refine h4 _ ?_
    have h7 : ((outL P w nt (xS x) k).getD i 0 + 1) * ((slA P w nc nl nt).length / 2) ≤ k * ((slA P w nc nl nt).length / 2) := Nat.mul_le_mul_right _ this
    rw [Nat.succ_mul] at h7
    omega)
  obtain ⟨r1, r2, r3, r4, r5, r6⟩ := r
  refine ⟨r1, r2, r3, r4, fun i hi => ?_, tb_hcg (fun i hi => ?_) r6⟩
  · have := outL_lt (P := P) (w := w) (nt := nt) (S := xS x) k _ (getD_mem hi)
    obtain ⟨q1, q2, q3⟩ := r5 i hi
    refine ⟨q1, q2, fun j hj => ?_⟩
    have q4 := q3 j hj
    dsimp only at q4 ⊢
    rw [eS _ this]; exact q4
  · have := outL_lt (P := P) (w := w) (nt := nt) (S := xS x) k _ (getD_mem hi)
    dsimp only
    rw [eS _ this]
/-- the threads of ready steps marked -/
theorem x_marks {s : qS} {L : List Nat} {T : fI} (hT : s.1 74 = T) (hL : ∀ (j : Nat) (h : j < L.length), T j = nI L[j]) (hl : L.length ≤ 40) (hlt : ∀ a ∈ L, a < 40) (hk : k < 20000) (hm : s.1 93 k = nI m0) (hm0 : m0 < 32) {r : qR} (hr : ∀ s', s' = uI s 93 k (nI (rbN L m0)) → L_X10_lookAround_40 en d (nI k) (nI L.length) (nI L.length) s' = some r) : L_X10_lookAround_40 en d (nI k) (nI L.length) (nI 0) s = some r := by
  have loop : ∀ (m j x : Nat), j + m = L.length → x < 32 → rbN (L.drop j) x = rbN L m0 → L_X10_lookAround_40 en d (nI k) (nI L.length) (nI j) (uI s 93 k (nI x)) = some r := by
    intro m
    induction m with
    | zero =>
      intro j x hj hx e
      obtain rfl : j = L.length := by omega
      rw [List.drop_length] at e
      have e : x = rbN L m0 := e
      rw [e]
      exact hr _ rfl
    | succ m ih =>
      intro j x hj hx e
      have hjl : j < L.length := by omega
      rw [List.drop_eq_getElem_cons hjl] at e
      have e : rbN (L.drop (j + 1)) (x ||| 2 ^ (L[j] / 10)) = rbN L m0 := e
      have a40 := hlt _ (List.getElem_mem hjl)
      have p5 : 2 ^ (L[j] / 10) < 2 ^ 5 := Nat.pow_lt_pow_right (by decide) (by omega)
      have xo : x ||| 2 ^ (L[j] / 10) < 32 := Nat.or_lt_two_pow (n := 5) hx p5
      refine le_X10_lookAround_40 en d _ _ _ _ _ ?_
      rw [if_neg (by rw [n_LE (by omega) (by omega)]; omega), gd_true (n_in hk (by decide)), gd_true (n_in (by omega) (by decide)), nm_eq, n_cl (by omega), n_cl (by omega), show (uI s 93 k (nI x)).1 74 = s.1 74 from uI_ne (by decide), hT, hL j hjl, n_d10 (by omega), show (uI s 93 k (nI x)).1 93 k = nI x from by rw [g_I, if_pos ⟨rfl, rfl⟩], show (1 : Int32) = nI 1 from rfl, shl_nI (by omega) (by rw [Nat.one_mul]; omega), Nat.one_mul, or_nI (by omega) (by omega)]
      have eu : uI (uI s 93 k (nI x)) 93 k (nI (x ||| 2 ^ (L[j] / 10))) = uI s 93 k (nI (x ||| 2 ^ (L[j] / 10))) := by
        refine Prod.ext (funext fun c => funext fun i => ?_) rfl
        rw [g_I, g_I, g_I]
        by_cases q : c = 93 ∧ i = k
        · rw [if_pos q, if_pos q]
        · rw [if_neg q, if_neg q, if_neg q]
      rw [eu, ← show (1 : Int32) = nI 1 from rfl, n_ar]
      exact ih (j + 1) _ (by omega) xo e
  have e0 : uI s 93 k (nI m0) = s := by
    refine Prod.ext (funext fun c => funext fun i => ?_) rfl
    rw [g_I]
    by_cases q : c = 93 ∧ i = k
    · rw [if_pos q, q.1, q.2, hm]
    · rw [if_neg q]
  have := loop L.length 0 m0 (by omega) hm0 rfl
  rw [e0] at this
  exact this
theorem x_lookAround (hBx : MBx P nc nl nt n) (hP : PV P nc nl nt n) (hw2 : w ≤ 2) (hX : XV P w nc nl nt n x) (hI : xcB P w nc nl nt p fw k x σ F) (hk : k < xN x) (hN : SV P w nc nl nt n N) (hN5 : N 235 = 0) :
    ∃ (σ' : qS) (F' N' G' : fI) (b' : Int32), qev en (d + 9) 178 [.ref 70, .int (nI k)] (mS σ 71 F N b G) = some (some (.int (match onlS P nt fw x k with
      | some a => nI a
      | none => -1)), mS σ' 71 F' N' b' G') ∧ xcB P w nc nl nt p fw (k + 1) (begK x k) σ' F' ∧ F' 3 = nI (rdl P w (xS x k) nt nt).length ∧ (∀ (j : Nat) (h : j < (rdl P w (xS x k) nt nt).length), σ'.1 74 j = nI (rdl P w (xS x k) nt nt)[j]) ∧ eqS (σ'.1 73) (xS x k) ∧ σ'.1 73 235 = 0 ∧ (∀ c, c < 70 ∨ 99 ≤ c → c ≠ 7 → c ≠ 10 → σ'.1 c = σ.1 c) ∧ σ'.2 = σ.2 ∧ (∀ j, j ≠ 14 → σ'.1 70 j = σ.1 70 j) ∧ SV P w nc nl nt n N' ∧ N' 235 = 0 := by
  obtain ⟨⟨hB, hsl, hF6, hF8, hRW, h13, hE, hFd, hO⟩, ⟨d1, d2, d3, d4, d5, d6, d7, d8⟩, hm, h18⟩ := hI
  obtain ⟨⟨x0, x1⟩, x2, x3, x4, x5, x6⟩ := hX
  have hlim := @lim_le w
  have ht4 := hP.2.2.1.2
  have hSk := x2 k hk
  have hp2 := hB.2.1
  obtain ⟨sl1, sl2, sl3, sl4, sl5⟩ := id hsl
  have hRW' := hRW
  obtain ⟨w3, w4, w5, w6, w7, w8⟩ := hRW
  have hrow := w7 k hk
  have hroom : k * ((slA P w nc nl nt).length / 2) + (slA P w nc nl nt).length / 2 ≤ 740000 := hrow.2.1
  -- the state unpacked
  obtain ⟨N1, e1, n1, n2⟩ := x_unpack (en := en) (d := d + 7) (a := 84) (f := k * ((slA P w nc nl nt).length / 2)) (M := cnS nt (xS x k)) (N := N) (b := b) (G := G) (Or.inl rfl) (xb_lm hB) hsl rfl hroom (by decide) (fun j hj => hrow.2.2 j hj)
  have hN1 : eqS N1 (xS x k) := fun j hj => by
    by_cases q : j ∈ slA P w nc nl nt
    · rw [n1 j q]; exact if_pos hj
    · have q' : ¬ slP P w nc nl nt j := fun z => q (slA_of z)
      rw [n2 j q, SV_cst hP hN hj q', SV_cst hP hSk hj q']
  have hN1s := SV_eqS hP hN1 hSk
  have hN15 : N1 235 = 0 := by
    by_cases q : 235 ∈ slA P w nc nl nt
    · rw [n1 235 q]; rfl
    · rw [n2 235 q]; exact hN5
  have hN13 : N1 233 = nI (soS (xS x k) nt) := by
    rw [n1 233 (slA_of (Or.inl (slO_of (Or.inl rfl))))]; rfl
  have e83 : (mS σ 71 F N b G).1 83 4 = nI ((slA P w nc nl nt).length / 2) := by rw [mS_o (by decide) (by decide) (by decide) (by decide)]; exact w4
  -- kept
  let K1 : fI := fun j => if j < 236 then N1 j else (mS σ 71 F N1 b G).1 73 j
  have e2 : qev en (d + 8) 40 [.ref 71] (mS σ 71 F N1 b G) = some (none, mS (uIr σ 73 K1) 71 F N1 b G) := by
    rw [x_keep (d := d + 7) (xb_lm hB), mS_Ir (by decide) (by decide) (by decide) (by decide)]
  have HB2 : XB (uIr σ 73 K1) 71 p P := xb_fr hB (fun z hz => uIr_ne (by omega)) rfl
  -- its ready steps
  obtain ⟨F3, G3, R3, b3, e3, f1, f2, f3, f4⟩ := x_list (en := en) (d := d + 2) (b := b) (G := G) HB2 hP hN1s hF8 hw2
  have hrd : rdl P w N1 nt nt = rdl P w (xS x k) nt nt := cg_rdl en hBx hP hN1s hSk hw2 hN1 nt (Nat.le_refl _)
  rw [hrd] at e3 f2 f3 f4
  have hlt : ∀ a ∈ rdl P w (xS x k) nt nt, a < 40 := fun a ha => rdl_lt hP hSk ha
  let σ3 : qS := uIr (uIr σ 73 K1) 74 R3
  have s3 : ∀ c, c ≠ 73 → c ≠ 74 → σ3.1 c = σ.1 c := fun c h1 h2 => by rw [show σ3.1 c = (uIr σ 73 K1).1 c from uIr_ne h2, uIr_ne h1]
  have e3 : qev en (d + 8) 42 [.ref 71] (mS (uIr σ 73 K1) 71 F N1 b G) = some (some (.int (nI (rdl P w (xS x k) nt nt).length)), mS σ3 71 F3 N1 b3 G3) := e3
  have start : ∀ r, L_X10_lookAround_40 en (d + 8) (nI k) (nI (rdl P w (xS x k) nt nt).length) (nI 0) (mS σ3 71 F3 N1 b3 G3) = some r → qev en (d + 9) 178 [.ref 70, .int (nI k)] (mS σ 71 F N b G) = some r := by
    intro r hh
    refine le_X10_lookAround en (d + 8) _ _ _ ?_
    rw [e83, n_mul, e1, bV_some, e2, bV_some, e3, bI_some]
    exact hh
  have h93 : σ.1 93 k = nI (mrk0 (xWh x k)) := hm k (Nat.le_refl _) hk
  let σ4 : qS := uI (uI σ3 93 k (nI (rbN (rdl P w (xS x k) nt nt) (mrk0 (xWh x k))))) 92 k (nI (xM x))
  have s4 : ∀ c, c ≠ 73 → c ≠ 74 → c ≠ 93 → c ≠ 92 → σ4.1 c = σ.1 c := fun c h1 h2 h3 h4 => by rw [show σ4.1 c = (uI σ3 93 k (nI (rbN (rdl P w (xS x k) nt nt) (mrk0 (xWh x k))))).1 c from uI_ne h4, uI_ne h3]; exact s3 c h1 h2
  have HB4 : XB σ4 71 p P := xb_fr hB (fun z hz => s4 z (by omega) (by omega) (by omega) (by omega)) rfl
  -- seen
  obtain ⟨σ5, G5, b5, e5, g1, g2, g3, g4⟩ := x_see (en := en) (d := d + 1) (F := F3) (b := b3) (G := G3) (T0 := σ.1 77) (g0 := guS P w (xS x) nl nt k) HB4 hP hN1s (by rw [f1 8 (by decide)]; exact hF8) hw2 (show k < 20000 by omega) (s4 77 (by decide) (by decide) (by decide) (by decide)) (by rw [s4 76 (by decide) (by decide) (by decide) (by decide)]; exact d6) (fun c hc => by rw [s4 78 (by decide) (by decide) (by decide) (by decide)]; exact d7 c hc)
  have s5 : ∀ c, c ≠ 73 → c ≠ 74 → c ≠ 93 → c ≠ 92 → c ≠ 76 → c ≠ 77 → c ≠ 78 → c ≠ 81 → σ5.1 c = σ.1 c := fun c h1 h2 h3 h4 h5 h6 h7 h8 => (g1.1 c h5 h6 h7 h8).trans (s4 c h1 h2 h3 h4)
  have s52 : σ5.2 = σ.2 := g1.2.2
  have HB5 := g1.XB HB4
  have e40 : ∀ r, (if ¬ nI (rdl P w (xS x k) nt nt).length = (0 : Int32) then L_X10_lookAround_105 en (d + 8) (nI k) (mS σ5 71 F3 N1 b5 G5) else bV (qev en (d + 8) 182 [.ref 70, .int (nI k)] (mS σ5 71 F3 N1 b5 G5)) (fun s9 => L_X10_lookAround_105 en (d + 8) (nI k) s9)) = some r → qev en (d + 9) 178 [.ref 70, .int (nI k)] (mS σ 71 F N b G) = some r := by
    intro r hh
    refine start r (x_marks (T := R3) (m0 := mrk0 (xWh x k)) (by rw [mS_o (by decide) (by decide) (by decide) (by decide)]; exact uIr_row) f3 f4 hlt (by omega) (by rw [mS_o (by decide) (by decide) (by decide) (by decide), s3 93 (by decide) (by decide)]; exact h93) mrk0_lt fun s' hs' => ?_)
    subst hs'
    rw [mS_wo (by decide) (by decide) (by decide) (by decide)]
    refine le_X10_lookAround_40 en _ _ _ _ _ _ ?_
    have e13 : (mS (uI σ3 93 k (nI (rbN (rdl P w (xS x k) nt nt) (mrk0 (xWh x k))))) 71 F3 N1 b3 G3).1 70 13 = nI (xM x) := by rw [mS_o (by decide) (by decide) (by decide) (by decide), uI_ne (by decide), s3 70 (by decide) (by decide)]; exact h13
    rw [if_pos (Int32.le_refl _), gd_true (n_in (by omega) (by decide)), nm_eq, n_cl (by omega), e13, mS_wo (by decide) (by decide) (by decide) (by decide), e5, bV_some]
    exact hh
  have m5 : ∀ i, i ≠ k → σ5.1 93 i = σ.1 93 i := fun i hi => by
    rw [g1.1 93 (by decide) (by decide) (by decide) (by decide), show σ4.1 93 = (uI σ3 93 k (nI (rbN (rdl P w (xS x k) nt nt) (mrk0 (xWh x k))))).1 93 from uI_ne (by decide), g_I, if_neg (fun z => hi z.2), s3 93 (by decide) (by decide)]
  have m5k : σ5.1 93 k = nI (rbN (rdl P w (xS x k) nt nt) (mrk0 (xWh x k))) := by
    rw [g1.1 93 (by decide) (by decide) (by decide) (by decide), show σ4.1 93 = (uI σ3 93 k (nI (rbN (rdl P w (xS x k) nt nt) (mrk0 (xWh x k))))).1 93 from uI_ne (by decide), g_I, if_pos ⟨rfl, rfl⟩]
  have r92 : ∀ i, i < k + 1 → σ5.1 92 i = nI (at1 (xA x) k (xM x) i) := fun i hi => by
    rw [g1.1 92 (by decide) (by decide) (by decide) (by decide), show σ4.1 92 i = if 92 = 92 ∧ i = k then nI (xM x) else (uI σ3 93 k (nI (rbN (rdl P w (xS x k) nt nt) (mrk0 (xWh x k))))).1 92 i from rfl]
    by_cases q : i = k
    · rw [if_pos ⟨rfl, q⟩, q, at1_s]
    · rw [if_neg (fun z => q z.2), at1_n q, uI_ne (by decide), s3 92 (by decide) (by decide)]
      exact d1 i (by omega)
  -- behind, whether an end or not: the state σ6
  refine (fun (key : ∃ σ6 : qS, (∀ r, L_X10_lookAround_105 en (d + 8) (nI k) (mS σ6 71 F3 N1 b5 G5) = some r → qev en (d + 9) 178 [.ref 70, .int (nI k)] (mS σ 71 F N b G) = some r) ∧ (∀ c, c ≠ 70 → c ≠ 80 → c ≠ 93 → c ≠ 87 → c ≠ 88 → c ≠ 89 → c ≠ 71 → c ≠ 72 → c ≠ 10 → c ≠ 7 → σ6.1 c = σ5.1 c) ∧ (∀ j, j ≠ 14 → σ6.1 70 j = σ5.1 70 j) ∧ (∀ i, i ≠ k → σ6.1 93 i = σ5.1 93 i) ∧ σ6.2 = σ5.2 ∧ σ6.1 70 14 = nI (endN P w nt (xS x) (k + 1)) ∧ σ6.1 93 k = nI (mrkN (xWh x k) (rdl P w (xS x k) nt nt) (soS (xS x k) nt) (outN P w nt (xS x) k)) ∧ (∀ c, c < 5 → σ6.1 80 c = rngK P w nt (xS x) (k + 1) c) ∧ RW σ6 87 84 88 89 15 (outL P w nt (xS x) (k + 1)).length ((slO P nc nt).length / 2) 20000 (fun i => (outL P w nt (xS x) (k + 1)).getD i 0 * ((slA P w nc nl nt).length / 2)) (fun i => pkR (slO P nc nt) (cnS nt (xS x ((outL P w nt (xS x) (k + 1)).getD i 0))))) => ?_) ?_
  · obtain ⟨σ6, k0, k1, k2, k3, k4, k5, k6, k7, k8⟩ := key
    have s6 : ∀ c, c ≠ 73 → c ≠ 74 → c ≠ 93 → c ≠ 92 → c ≠ 76 → c ≠ 77 → c ≠ 78 → c ≠ 81 → c ≠ 70 → c ≠ 80 → c ≠ 87 → c ≠ 88 → c ≠ 89 → c ≠ 71 → c ≠ 72 → c ≠ 10 → c ≠ 7 → σ6.1 c = σ.1 c := fun c h1 h2 h3 h4 h5 h6 h7 h8 h9 h10 h11 h12 h13 h14 h15 h16 h17 => (k1 c h9 h10 h3 h11 h12 h13 h14 h15 h16 h17).trans (s5 c h1 h2 h3 h4 h5 h6 h7 h8)
    have s62 : σ6.2 = σ.2 := k4.trans s52
    have s670 : ∀ j, j ≠ 14 → σ6.1 70 j = σ.1 70 j := fun j hj => by rw [k2 j hj, s5 70 (by decide) (by decide) (by decide) (by decide) (by decide) (by decide) (by decide) (by decide)]
    have r73 : σ6.1 73 = K1 := by rw [k1 73 (by decide) (by decide) (by decide) (by decide) (by decide) (by decide) (by decide) (by decide) (by decide) (by decide), g1.1 73 (by decide) (by decide) (by decide) (by decide), show σ4.1 73 = σ3.1 73 from (uI_ne (by decide)).trans (uI_ne (by decide)), show σ3.1 73 = (uIr σ 73 K1).1 73 from uIr_ne (by decide), uIr_row]
    have r74 : σ6.1 74 = R3 := by rw [k1 74 (by decide) (by decide) (by decide) (by decide) (by decide) (by decide) (by decide) (by decide) (by decide) (by decide), g1.1 74 (by decide) (by decide) (by decide) (by decide), show σ4.1 74 = σ3.1 74 from (uI_ne (by decide)).trans (uI_ne (by decide)), show σ3.1 74 = _ from uIr_row]
    have hK6 : eqS (σ6.1 73) (xS x k) := fun j hj => by
      rw [r73]
      show (if j < 236 then N1 j else (mS σ 71 F N1 b G).1 73 j) = xS x k j
      rw [if_pos (by omega)]
      exact hN1 j hj
    have HB6 : XB σ6 71 p P := xb_fr hB (fun z hz => s6 z (by omega) (by omega) (by omega) (by omega) (by omega) (by omega) (by omega) (by omega) (by omega) (by omega) (by omega) (by omega) (by omega) (by omega) (by omega) (by omega) (by omega)) (by rw [s62])
    refine ⟨σ6, F3, N1, G5, b5, k0 _ ?_, ⟨⟨HB6, ⟨by rw [f1 5 (by decide)]; exact sl1, sl2, sl3, fun i hi => by rw [s6 75 (by decide) (by decide) (by decide) (by decide) (by decide) (by decide) (by decide) (by decide) (by decide) (by decide) (by decide) (by decide) (by decide) (by decide) (by decide) (by decide) (by decide)]; exact sl4 i hi, sl5⟩, by rw [f1 6 (by decide)]; exact hF6, by rw [f1 8 (by decide)]; exact hF8, ?_, by rw [s670 13 (by decide)]; exact h13, fun e he => by rw [s6 90 (by decide) (by decide) (by decide) (by decide) (by decide) (by decide) (by decide) (by decide) (by decide) (by decide) (by decide) (by decide) (by decide) (by decide) (by decide) (by decide) (by decide)]; exact hE e he, fun i h1 h2 => by rw [s6 91 (by decide) (by decide) (by decide) (by decide) (by decide) (by decide) (by decide) (by decide) (by decide) (by decide) (by decide) (by decide) (by decide) (by decide) (by decide) (by decide) (by decide)]; exact hFd i h1 h2, by rw [s6 79 (by decide) (by decide) (by decide) (by decide) (by decide) (by decide) (by decide) (by decide) (by decide) (by decide) (by decide) (by decide) (by decide) (by decide) (by decide) (by decide) (by decide)]; exact hO⟩, ⟨fun i hi => ?_, fun i hi => ?_, k8, k5, fun z hz => ?_, ?_, fun c hc => ?_, k7⟩, fun i h1 h2 => ?_, by rw [s670 18 (by decide)]; exact h18⟩, f2, fun j h => by rw [r74]; exact f3 j h, hK6, by rw [r73]; exact hN15, fun c hc h7 h10 => s6 c (by omega) (by omega) (by omega) (by omega) (by omega) (by omega) (by omega) (by omega) (by omega) (by omega) (by omega) (by omega) (by omega) (by omega) (by omega) h10 h7, s62, s670, hN1s, hN15⟩
    · -- the only step
      refine le_X10_lookAround_105 en _ _ _ _ ?_
      have e18 : (mS σ6 71 F3 N1 b5 G5).1 70 18 = bt fw := by rw [mS_o (by decide) (by decide) (by decide) (by decide), s670 18 (by decide)]; exact h18
      have e93 : (mS σ6 71 F3 N1 b5 G5).1 93 k = nI (mrkN (xWh x k) (rdl P w (xS x k) nt nt) (soS (xS x k) nt) (outN P w nt (xS x) k)) := by rw [mS_o (by decide) (by decide) (by decide) (by decide)]; exact k6
      have eo : onlS P nt fw x k = if fw = true ∧ xWh x k = false then qtF P (xS x k) nt 0 else none := rfl
      rw [e18, eo]
      have on : outN P w nt (xS x) k ≤ k := by
        have := outL_len (P := P) (w := w) (nt := nt) (S := xS x) k
        unfold outN
        cases h : fndO nt (xS x) (xS x k) (outL P w nt (xS x) k) 0 with
        | some i => obtain ⟨-, a2, -⟩ := fndO_some _ 0 i h; dsimp only; omega
        | none => exact this
      have b4 : (nI (mrkN (xWh x k) (rdl P w (xS x k) nt nt) (soS (xS x k) nt) (outN P w nt (xS x) k)) &&& (16 : Int32) = 0) ↔ xWh x k = false := by
        have mlt := mrkN_lt (b := xWh x k) (so := soS (xS x k) nt) (o := outN P w nt (xS x) k) hlt (by omega)
        rw [show (16 : Int32) = nI (2 ^ 4) from rfl, and_bit (by omega) (by decide), mrkN_bit (by decide), decide_eq_true rfl, Bool.and_true]
        have : (rdl P w (xS x k) nt nt).any (fun a => decide (a / 10 = 4)) = false := by
          rw [List.any_eq_false]
          intro a ha
          have := hlt a ha
          rw [decide_eq_false (by omega)]; decide
        rw [this, Bool.or_false]
      cases fw with
      | false => rw [if_pos (by decide), if_neg (fun z => absurd z.1 (by decide))]
      | true =>
        rw [if_neg (by decide), gd_true (n_in (by omega) (by decide)), n_cl (by omega), e93]
        cases hb : xWh x k with
        | true => rw [if_pos (fun z => by rw [hb] at b4; exact absurd (b4.mp z) (by decide)), if_neg (fun z => absurd z.2 (by decide))]
        | false =>
          rw [hb] at b4
          rw [if_neg (fun z => z (b4.mpr rfl)), x_quiet (d := d + 7) HB6 hP hN1s, bI_some, if_pos ⟨rfl, rfl⟩, qtF_cg hN1 nt 0 (by omega)]; cases qtF P (xS x k) nt 0 <;> rfl
    · exact hRW'.fr (fun j _ => by rw [s6 83 (by decide) (by decide) (by decide) (by decide) (by decide) (by decide) (by decide) (by decide) (by decide) (by decide) (by decide) (by decide) (by decide) (by decide) (by decide) (by decide) (by decide)]) (fun i _ => by rw [s6 85 (by decide) (by decide) (by decide) (by decide) (by decide) (by decide) (by decide) (by decide) (by decide) (by decide) (by decide) (by decide) (by decide) (by decide) (by decide) (by decide) (by decide)]) (fun i _ => by rw [s6 86 (by decide) (by decide) (by decide) (by decide) (by decide) (by decide) (by decide) (by decide) (by decide) (by decide) (by decide) (by decide) (by decide) (by decide) (by decide) (by decide) (by decide)]) (fun i _ j _ => by rw [s62])
    · rw [k1 92 (by decide) (by decide) (by decide) (by decide) (by decide) (by decide) (by decide) (by decide) (by decide) (by decide)]
      exact r92 i hi
    · by_cases q : i = k
      · rw [q]; exact k6
      · rw [k3 i q, m5 i q]; exact d2 i (by omega)
    · -- races
      rw [k1 77 (by decide) (by decide) (by decide) (by decide) (by decide) (by decide) (by decide) (by decide) (by decide) (by decide)]
      obtain ⟨q1, q2⟩ := g2 z
      rw [hasR_cg en hBx hP hN1s hSk hw2 hN1] at q1 q2
      have ef : fsR (fun i => hasR P w (xS x i) nt z) (k + 1) = match fsR (fun i => hasR P w (xS x i) nt z) k with
        | some i => some i
        | none => @ite _ (hasR P w (xS x k) nt z) (Classical.propDecidable _) (some k) none := by
        show (match fsR (fun i => hasR P w (xS x i) nt z) k with
          | some i => some i
          | none => @ite _ (hasR P w (xS x k) nt z) (Classical.propDecidable _) (some k) none) = _
        cases fsR (fun i => hasR P w (xS x i) nt z) k <;> rfl
      have exx : fsR (fun i => hasR P w (xS (begK x k) i) nt z) (k + 1) = fsR (fun i => hasR P w (xS x i) nt z) (k + 1) := rfl
      rw [exx, ef]
      rcases d5 z hz with ⟨o1, o2⟩ | ⟨i, hi, o1, o2⟩
      · rw [o1]
        have n0 : ¬ 0 ≤ σ.1 77 z := by rw [o2]; decide
        by_cases hr : hasR P w (xS x k) nt z
        · right
          refine ⟨k, by omega, ?_, q2 n0 hr⟩
          dsimp only
          rw [if_pos hr]
        · left
          refine ⟨?_, (q1 (Or.inr hr)).trans o2⟩
          dsimp only
          rw [if_neg hr]
      · rw [o1]
        right
        exact ⟨i, hi, rfl, (q1 (Or.inl (by rw [o2]; exact Int32.not_lt.mp (nI_pos (by omega))))).trans o2⟩
    · rw [k1 76 (by decide) (by decide) (by decide) (by decide) (by decide) (by decide) (by decide) (by decide) (by decide) (by decide), k1 77 (by decide) (by decide) (by decide) (by decide) (by decide) (by decide) (by decide) (by decide) (by decide) (by decide)]
      exact g3
    · rw [k1 78 (by decide) (by decide) (by decide) (by decide) (by decide) (by decide) (by decide) (by decide) (by decide) (by decide), g4 c hc]
      exact guT_cg en hBx hP hN1s hSk hw2 hN1 (fun _ _ => rfl) nt (Nat.le_refl _) c hc
    · have q : i ≠ k := by omega
      rw [k3 i q, m5 i q]
      exact hm i (by omega) h2
  · -- an end, or not
    have hcount : endN P w nt (xS x) (k + 1) = endN P w nt (xS x) k + if endC P w (xS x k) nt = true then 1 else 0 := rfl
    have hrk : rngK P w nt (xS x) (k + 1) = if endC P w (xS x k) nt = true ∧ ¬ soS (xS x k) nt = 0 then stkS P (xS x k) nt (nI k) (rngK P w nt (xS x) k) else rngK P w nt (xS x) k := rfl
    by_cases hl : rdl P w (xS x k) nt nt = []
    · have hend : endC P w (xS x k) nt = true := by unfold endC; exact decide_eq_true hl
      have hel := endN_le (P := P) (w := w) (nt := nt) (S := xS x) k
      obtain ⟨σ6, a0, a1, a2, a3, a4, a5, a6, a7, a8⟩ := x_noteEnd (en := en) (d := d + 3) (F := F3) (N := N1) (b := b5) (G := G5) (S := xS x) (g := σ5.1 80) (m0 := mrk0 (xWh x k)) (e0 := endN P w nt (xS x) k) hP HB5 hw2 (fun i hi => x2 i (by omega)) (by omega) hN1 hN13 hend (by rw [s5 83 (by decide) (by decide) (by decide) (by decide) (by decide) (by decide) (by decide) (by decide)]; exact w4) (fun j hj => by rw [s52]; exact hrow.2.2 j hj) hroom (rw87m d3 (fun c hc => s5 c (by omega) (by omega) (by omega) (by omega) (by omega) (by omega) (by omega) (by omega)) (by rw [s52])) (by rw [s5 70 (by decide) (by decide) (by decide) (by decide) (by decide) (by decide) (by decide) (by decide)]; exact d4) (by omega) (by rw [m5k, hl]; rfl) mrk0_lt rfl
      refine ⟨σ6, fun r hh => e40 r ?_, a1, a2, a3, a4, by rw [hcount, if_pos hend]; exact a5, ?_, fun c hc => ?_, a8⟩
      · have n0 : ¬ ¬ nI (rdl P w (xS x k) nt nt).length = (0 : Int32) := by rw [hl]; exact fun z => z rfl
        rw [if_neg n0, a0, bV_some]
        exact hh
      · rw [a6]
        unfold mrkN
        rw [if_pos hl]
      · rw [a7 c hc, hrk]
        have e80 : ∀ c, c < 5 → σ5.1 80 c = rngK P w nt (xS x) k c := fun c hc => by rw [s5 80 (by decide) (by decide) (by decide) (by decide) (by decide) (by decide) (by decide) (by decide)]; exact d8 c hc
        by_cases so : soS (xS x k) nt = 0
        · rw [if_pos so, if_neg (fun z => z.2 so)]; exact e80 c hc
        · rw [if_neg so, if_pos ⟨hend, so⟩]; exact stkS_g e80 c hc
    · have hend : ¬ endC P w (xS x k) nt = true := by unfold endC; rw [decide_eq_true_eq]; exact hl
      have hlen : (rdl P w (xS x k) nt nt).length ≠ 0 := fun z => hl (List.length_eq_zero_iff.mp z)
      have eL : outL P w nt (xS x) (k + 1) = outL P w nt (xS x) k := by
        show (if endC P w (xS x k) nt = true then _ else _) = _
        rw [if_neg hend]
      refine ⟨σ5, fun r hh => e40 r ?_, fun _ _ _ _ _ _ _ _ _ _ _ => rfl, fun _ _ => rfl, fun _ _ => rfl, rfl, ?_, ?_, fun c hc => ?_, ?_⟩
      · rw [if_pos (show ¬ nI (rdl P w (xS x k) nt nt).length = (0 : Int32) by rw [n_eq (by decide) (by omega)]; exact hlen)]
        exact hh
      · rw [hcount, if_neg hend, s5 70 (by decide) (by decide) (by decide) (by decide) (by decide) (by decide) (by decide) (by decide)]; exact d4
      · rw [m5k]
        unfold mrkN
        rw [if_neg hl]
      · rw [hrk, if_neg (fun z => hend z.1), s5 80 (by decide) (by decide) (by decide) (by decide) (by decide) (by decide) (by decide) (by decide)]; exact d8 c hc
      · rw [eL]
        exact rw87m d3 (fun c hc => s5 c (by omega) (by omega) (by omega) (by omega) (by omega) (by omega) (by omega) (by omega)) (by rw [s52])
end LA

