/-! REWRITINGS: the calls, on both sides. -/
/-- the class's rewritten program as P -/
abbrev rpX (s : qS) (P : Nat → fI) : Prop := (∀ a, a < 25 → s.1 (36 + a) = P a) ∧ lmN P = 500 ∧ s.1 8 = P 25 ∧ s.1 9 = P 26
/-- what a rewriting may change -/
abbrev wrX (s s' : qS) : Prop := (∀ c, c ≠ 0 → c ≠ 70 → c ≠ 111 → (c < 36 ∨ 60 < c) → c ≠ 8 → c ≠ 9 → s'.1 c = s.1 c) ∧ (∀ j, j < 400 → s'.1 8 j = s.1 8 j ∧ s'.1 9 j = s.1 9 j) ∧ (∀ j, j ≠ 10 → j ≠ 11 → j ≠ 12 → s'.1 0 j = s.1 0 j) ∧ (∀ j, j ≠ 17 → s'.1 70 j = s.1 70 j) ∧ (∀ j, j ≠ 4 → s'.1 111 j = s.1 111 j) ∧ (∀ a, a ≠ 37 → a ≠ 38 → s'.2.1 a = s.2.1 a) ∧ s'.2.2 = s.2.2
abbrev wrM (t t' : qS) : Prop := (∀ c, c ≠ 151 → (c < 164 ∨ 181 < c) → t'.1 c = t.1 c) ∧ (∀ c, 164 ≤ c → c ≤ 180 → ∀ j, j < 100 ∨ 200 ≤ j → t'.1 c j = t.1 c j) ∧ (∀ j, j < 4 ∨ 8 ≤ j → t'.1 181 j = t.1 181 j) ∧ (∀ j, j ≠ 74 → j ≠ 98 → j ≠ 147 → t'.1 151 j = t.1 151 j) ∧ (∀ a, a ≠ 180 → t'.2.1 a = t.2.1 a) ∧ (∀ j, j < 100 ∨ 200 ≤ j → t'.2.1 180 j = t.2.1 180 j) ∧ t'.2.2 = t.2.2
section RWC
variable {en : pN} {d d' k i n N j r v u m nc nl nt key a w : Nat} {V cl th K : Nat → Nat} {U : Nat → Nat → Nat} {bl : Nat → List Nat} {go : Nat → Bool} {s s' s'' s1 t t' t'' t1 : qS} {e x g y b o : Bool} {z a1 a2 : Int32} {P : Nat → fI}
theorem wrX.rf : wrX s s := ⟨fun _ _ _ _ _ _ _ => rfl, fun _ _ => ⟨rfl, rfl⟩, fun _ _ _ _ => rfl, fun _ _ => rfl, fun _ _ => rfl, fun _ _ _ => rfl, rfl⟩
theorem wrM.rf : wrM t t := ⟨fun _ _ _ => rfl, fun _ _ _ _ _ => rfl, fun _ _ => rfl, fun _ _ _ _ => rfl, fun _ _ => rfl, fun _ _ => rfl, rfl⟩
theorem wrX.tr (h : wrX s s') (f : wrX s' s'') : wrX s s'' := ⟨fun c c1 c2 c3 c4 c5 c6 => (f.1 c c1 c2 c3 c4 c5 c6).trans (h.1 c c1 c2 c3 c4 c5 c6), fun j hj => ⟨(f.2.1 j hj).1.trans (h.2.1 j hj).1, (f.2.1 j hj).2.trans (h.2.1 j hj).2⟩, fun j j1 j2 j3 => (f.2.2.1 j j1 j2 j3).trans (h.2.2.1 j j1 j2 j3), fun j hj => (f.2.2.2.1 j hj).trans (h.2.2.2.1 j hj), fun j hj => (f.2.2.2.2.1 j hj).trans (h.2.2.2.2.1 j hj), fun c c1 c2 => (f.2.2.2.2.2.1 c c1 c2).trans (h.2.2.2.2.2.1 c c1 c2), f.2.2.2.2.2.2.trans h.2.2.2.2.2.2⟩
theorem wrM.tr (h : wrM t t') (f : wrM t' t'') : wrM t t'' := ⟨fun c c1 c2 => (f.1 c c1 c2).trans (h.1 c c1 c2), fun c c1 c2 j hj => (f.2.1 c c1 c2 j hj).trans (h.2.1 c c1 c2 j hj), fun j hj => (f.2.2.1 j hj).trans (h.2.2.1 j hj), fun j j1 j2 j3 => (f.2.2.2.1 j j1 j2 j3).trans (h.2.2.2.1 j j1 j2 j3), fun c c1 => (f.2.2.2.2.1 c c1).trans (h.2.2.2.2.1 c c1), fun j hj => (f.2.2.2.2.2.1 j hj).trans (h.2.2.2.2.2.1 j hj), f.2.2.2.2.2.2.trans h.2.2.2.2.2.2⟩
theorem wrX.ch (h : chX s s') : wrX s s' := ⟨fun c _ _ _ c4 c5 c6 => h.1 c (by omega) c5 c6, h.2.1, fun j _ _ _ => by rw [h.1 0 (by decide) (by decide) (by decide)], fun j _ => by rw [h.1 70 (by decide) (by decide) (by decide)], fun j _ => by rw [h.1 111 (by decide) (by decide) (by decide)], fun _ _ _ => by rw [h.2.2.2], by rw [h.2.2.2]⟩
theorem wrM.ch (h : chM t t') : wrM t t' := ⟨fun c _ c2 => h.1 c c2, h.2.1, h.2.2.1, fun j _ _ _ => by rw [h.1 151 (by decide)], fun _ _ => by rw [h.2.2.2], fun _ _ => by rw [h.2.2.2], by rw [h.2.2.2]⟩
theorem wrX.cp (h : cpXf s s') : wrX s s' := ⟨fun c _ _ _ c4 _ _ => h.1 c c4, fun j _ => by rw [h.1 8 (by decide), h.1 9 (by decide)]; exact ⟨rfl, rfl⟩, fun j _ _ _ => by rw [h.1 0 (by decide)], fun j _ => by rw [h.1 70 (by decide)], fun j _ => by rw [h.1 111 (by decide)], h.2.1, h.2.2⟩
theorem wrM.cp (hN : N ≤ 100) (hnt : nt ≤ 4) : wrM t (cpT (cpS t 0 1 N) 0 1 nt) := by
  refine ⟨fun c _ c2 => by rw [cpT_o (by omega), cpS_o (by omega)], fun c c1 c2 j hj => ?_, fun j hj => ?_, fun j _ _ _ => by rw [cpT_o (by decide), cpS_o (by decide)], fun c c1 => ?_, fun j hj => ?_, rfl⟩
  · rw [cpT_o (by omega)]
    exact if_neg (by omega)
  · show (if 181 = 181 ∧ 4 * 1 ≤ j ∧ j < 4 * 1 + nt then _ else (cpS t 0 1 N).1 181 j) = _
    rw [if_neg (by omega), cpS_o (by decide)]
  · funext j
    exact if_neg (fun q => c1 q.1)
  · exact if_neg (by omega)
theorem wrM.fl (j : Nat) (hj : j = 74 ∨ j = 98 ∨ j = 147) : wrM t (uI t 151 j z) := ⟨fun c c1 _ => uI_ne c1, fun c _ c2 k _ => by rw [uI_ne (by omega)], fun k _ => by rw [uI_ne (by decide)], fun k k1 k2 k3 => by rw [rdU, if_neg (by omega)], fun _ _ => rfl, fun _ _ => rfl, rfl⟩
/-- one call, on what is rewritten already -/
theorem rw_core (hR : rwF s t nc nl nt N cl th K bl go) (hi : i < N) (hw : w ≤ 2) (h10 : s.1 0 10 = bt o ∧ t.1 151 147 = bt o) (hf : flE s t e x g y) (hg : go i = false) : (∃ s' t', L_X11_rewrite_51 en (d + 4) (nI w) (nI i) s = some (some (.int 0), s') ∧ L_X12_rewrite_78 en (d' + 2) (nI w) (nI i) t = some (some (.int 0), t') ∧ s' = s ∧ t' = t) ∨ ∃ s' t' bl' go', L_X11_rewrite_51 en (d + 4) (nI w) (nI i) s = some (some (.int 1), s') ∧ L_X12_rewrite_78 en (d' + 2) (nI w) (nI i) t = some (some (.int 1), t') ∧ wrX s s' ∧ wrM t t' ∧ (s'.1 0 10 = 1 ∧ t'.1 151 147 = 1) ∧ flE s' t' (e && !x) false (g && !y) false ∧ rwF s' t' nc nl nt N cl th K bl' go' ∧ ∃ P2 : Nat → fI, rpX s' P2 ∧ PV P2 nc nl nt N ∧ MB t' 1 P2 nc nl nt N := by
  have hN : N ≤ 100 := hR.1.1.2.2.2.2
  have h60 : s.1 60 i = 0 := by
    have := (hR.2.2.1.2.2.2.2.2.1 i hi).1
    rw [this, hg]; rfl
  have x51 : ∀ r, bI (qev en (d + 4) 105 [.ref 36, .int (nI w), .int (nI i)] s) (fun w3 s4 => if ¬ w3 = (0 : Int32) then bV (qev en (d + 4) 239 [.ref 0] s4) (fun s8 => nm (uI s8 0 10 (1 : Int32)) (fun s10 => some (some (.int (1 : Int32)), s10))) else some (some (.int (0 : Int32)), s4)) = some r → L_X11_rewrite_51 en (d + 4) (nI w) (nI i) s = some r := fun r hr => by
    refine le_X11_rewrite_51 en _ _ _ _ _ ?_
    rw [gd_in (by omega) (by decide), n_cl (by omega), if_pos h60]
    exact hr
  rcases change_al (en := en) (d := d) (d' := d') hR hi hg hw with ⟨h1, h2⟩ | ⟨s1, t1, bl', go', h1, h2, h3, h4, h5, h6, h7⟩
  · refine Or.inl ⟨s, t, x51 _ ?_, h2, rfl, rfl⟩
    rw [h1, bI_some, if_neg (not_not_intro rfl)]
  · have hf1 : flE s1 t1 e x g y := by
      have e0 := h3.1 0 (by decide) (by decide) (by decide)
      have e70 := h3.1 70 (by decide) (by decide) (by decide)
      have e111 := h3.1 111 (by decide) (by decide) (by decide)
      have m : ∀ j, j ≠ 147 → t1.1 151 j = t.1 151 j := fun j hj => by rw [h4.1 151 (by decide), rdU, if_neg (fun q => hj q.2)]
      unfold flE
      rw [e0, e70, e111, m 98 (by decide), m 148 (by decide), m 74 (by decide), m 149 (by decide)]
      exact hf
    obtain ⟨s2, t2, f1, f2, f3, f4, f5, f6, f7, f8, f9, f10, f11⟩ := forget_al (en := en) (d := d + 3) (d' := d' + 1) hf1
    let s3 : qS := uI s2 0 10 1
    have o3 : ∀ c, c ≠ 0 → c ≠ 70 → c ≠ 111 → s3.1 c = s1.1 c := fun c c1 c2 c3 => (uI_ne c1).trans (f4 c c1 c2 c3)
    have rx : rfX s1 s3 := fun c hc => o3 c (by omega) (by omega) (by omega)
    have rm : rfM t1 t2 := ⟨fun c hc => f9 c (by omega), fun j _ => by rw [f9 161 (by decide), f9 162 (by decide)]; exact ⟨rfl, rfl⟩, fun c c1 c2 j _ _ => by rw [f9 c (by omega)], fun j _ _ => by rw [f9 181 (by decide)], f10 32 (by decide) (by decide), fun _ _ _ => by rw [f11]⟩
    refine Or.inr ⟨s3, t2, bl', go', x51 _ ?_, h2 _ ?_, (wrX.ch h3).tr ⟨fun c c1 c2 c3 _ _ _ => o3 c c1 c2 c3, fun j _ => by rw [o3 8 (by decide) (by decide) (by decide), o3 9 (by decide) (by decide) (by decide)]; exact ⟨rfl, rfl⟩, fun j j1 j2 j3 => ?_, fun j hj => ?_, fun j hj => ?_, fun c _ _ => ?_, ?_⟩, ((wrM.fl 147 (by omega)).tr (wrM.ch h4)).tr ⟨fun c c1 _ => f9 c c1, fun c _ c2 j _ => by rw [f9 c (by omega)], fun j _ => by rw [f9 181 (by decide)], fun j j1 j2 _ => f10 j j1 j2, fun _ _ => by rw [f11], fun _ _ => by rw [f11], by rw [f11]⟩, ⟨?_, ?_⟩, ?_, rwF_fr h5 rx rm, rdP s1 36, ⟨fun c hc => ?_, lm_rd, o3 8 (by decide) (by decide) (by decide), o3 9 (by decide) (by decide) (by decide)⟩, h6, ?_⟩
    · rw [h1, bI_some, if_pos (show ¬ (1 : Int32) = 0 by decide), f1, bV_some, nm_eq]
    · rw [f2, bV_some]
    · show (uI s2 0 10 1).1 0 j = _
      rw [rdU, if_neg (fun q => j1 q.2)]
      exact f5 j j2 j3
    · show (uI s2 0 10 1).1 70 j = _
      rw [uI_ne (by decide)]
      exact f6 j hj
    · show (uI s2 0 10 1).1 111 j = _
      rw [uI_ne (by decide)]
      exact f7 j hj
    · show s2.2.1 c = _
      rw [f8]
    · show s2.2.2 = _
      rw [f8]
    · show (uI s2 0 10 1).1 0 10 = 1
      rw [rdU, if_pos ⟨rfl, rfl⟩]
    · rw [f10 147 (by decide) (by decide), h4.1 151 (by decide), rdU, if_pos ⟨rfl, rfl⟩]
    · obtain ⟨⟨y1, y2⟩, y3, y4, ⟨y5, y6⟩, y7, y8⟩ := f3
      have e0 : ∀ j, j ≠ 10 → s3.1 0 j = s2.1 0 j := fun j hj => by show (uI s2 0 10 1).1 0 j = _; rw [rdU, if_neg (fun q => hj q.2)]
      have e1 : ∀ c, c ≠ 0 → s3.1 c = s2.1 c := fun c hc => uI_ne hc
      unfold flE
      rw [e1 70 (by decide), e1 111 (by decide), e0 11 (by decide), e0 12 (by decide)]
      exact ⟨⟨y1, y2⟩, y3, y4, ⟨y5, y6⟩, y7, y8⟩
    · unfold rdP
      rw [if_neg (by omega), if_neg (by omega), if_neg (by omega)]
      exact o3 (36 + c) (by omega) (by omega) (by omega)
    · exact MB_v h7 (fun c hc => f9 c (by omega)) rm.2.1 (fun c c1 c2 i _ => by rw [f9 c (by omega)]) (fun u _ => by rw [f9 181 (by decide)])
/-- rewrite, on both sides -/
theorem rewrite_alike (hb : s.1 0 9 = bt b ∧ t.1 151 11 = bt b) (h10 : s.1 0 10 = bt o ∧ t.1 151 147 = bt o) (hP : b = true → PGx s t P V U cl nc nl nt m N th K bl) (hR : o = true → ∃ bl' go, rwF s t nc nl nt N cl th K bl' go) (hf : flE s t e x g y) : ∃ (v : Int32) (s' t' : qS), qev en (d + 5) 234 [.ref 0, .int a1, .int a2] s = some (some (.int v), s') ∧ qev en (d' + 3) 398 [.ref 151, .int a1, .int a2] t = some (some (.int v), t') ∧ wrX s s' ∧ wrM t t' ∧ ((s' = s ∧ t' = t) ∨ (o = false ∧ (s'.1 0 10 = 0 ∧ t'.1 151 147 = 0) ∧ flE s' t' e x g y ∧ s'.1 8 = s.1 8 ∧ s'.1 9 = s.1 9) ∨ (b = true ∧ (s'.1 0 10 = 1 ∧ t'.1 151 147 = 1) ∧ flE s' t' (e && !x) false (g && !y) false ∧ (∃ bl' go', rwF s' t' nc nl nt N cl th K bl' go') ∧ ∃ P2 : Nat → fI, rpX s' P2 ∧ PV P2 nc nl nt N ∧ MB t' 1 P2 nc nl nt N)) := by
  have no : ∀ v : Int32, qev en (d + 5) 234 [.ref 0, .int a1, .int a2] s = some (some (.int v), s) → qev en (d' + 3) 398 [.ref 151, .int a1, .int a2] t = some (some (.int v), t) → ∃ (v : Int32) (s' t' : qS), qev en (d + 5) 234 [.ref 0, .int a1, .int a2] s = some (some (.int v), s') ∧ qev en (d' + 3) 398 [.ref 151, .int a1, .int a2] t = some (some (.int v), t') ∧ wrX s s' ∧ wrM t t' ∧ ((s' = s ∧ t' = t) ∨ (o = false ∧ (s'.1 0 10 = 0 ∧ t'.1 151 147 = 0) ∧ flE s' t' e x g y ∧ s'.1 8 = s.1 8 ∧ s'.1 9 = s.1 9) ∨ (b = true ∧ (s'.1 0 10 = 1 ∧ t'.1 151 147 = 1) ∧ flE s' t' (e && !x) false (g && !y) false ∧ (∃ bl' go', rwF s' t' nc nl nt N cl th K bl' go') ∧ ∃ P2 : Nat → fI, rpX s' P2 ∧ PV P2 nc nl nt N ∧ MB t' 1 P2 nc nl nt N)) := fun v h1 h2 => ⟨v, s, t, h1, h2, wrX.rf, wrM.rf, Or.inl ⟨rfl, rfl⟩⟩
  cases b with
  | false =>
    refine no (-1) (le_X11_rewrite en _ _ _ _ _ ?_) (le_X12_rewrite en _ _ _ _ _ ?_)
    · rw [hb.1, if_pos bt_f]
    · rw [hb.2, if_pos bt_f]
  | true =>
    have hPG := hP rfl
    have h12 : s.1 11 12 = nI N := hPG.1.2.1.1
    have h32 : t.1 151 32 = nI N := hPG.1.2.1.2.1
    have hN : N ≤ 100 := hPG.1.2.1.2.2.1
    have hnt : nt ≤ 4 := hPG.1.1.1.2.2
    have b1 : ¬ bt true = 0 := by decide
    by_cases c1 : a2 < 0
    · refine no (-1) (le_X11_rewrite en _ _ _ _ _ ?_) (le_X12_rewrite en _ _ _ _ _ ?_)
      · rw [hb.1, if_neg b1, if_pos c1]
      · rw [hb.2, if_neg b1, if_pos c1]
    by_cases c2 : nI N ≤ a2
    · refine no (-1) (le_X11_rewrite en _ _ _ _ _ ?_) (le_X12_rewrite en _ _ _ _ _ ?_)
      · rw [hb.1, if_neg b1, if_neg c1, h12, if_pos c2]
      · rw [hb.2, if_neg b1, if_neg c1, h32, if_pos c2]
    obtain ⟨i, hi', rfl⟩ := nI_of c1
    have hi : i < N := by
      rw [n_LE (by omega) hi'] at c2
      omega
    by_cases c3 : a1 < 0
    · refine no (-1) (le_X11_rewrite en _ _ _ _ _ ?_) (le_X12_rewrite en _ _ _ _ _ ?_)
      · rw [hb.1, if_neg b1, if_neg c1, h12, if_neg c2, if_pos c3]
      · rw [hb.2, if_neg b1, if_neg c1, h32, if_neg c2, if_pos c3]
    obtain ⟨w, hw', rfl⟩ := nI_of c3
    by_cases c4 : w ≤ 2
    · have x51 : ∀ r, (if ¬ (s.1 0 10) = (0 : Int32) then L_X11_rewrite_51 en (d + 4) (nI w) (nI i) s else bV (qev en (d + 4) 82 [.ref 36, .ref 11] s) (fun s8 => L_X11_rewrite_51 en (d + 4) (nI w) (nI i) s8)) = some r → qev en (d + 5) 234 [.ref 0, .int (nI w), .int (nI i)] s = some r := fun r hr => by
        refine le_X11_rewrite en _ _ _ _ _ ?_
        rw [hb.1, if_neg b1, if_neg c1, h12, if_neg c2, if_neg c3, if_pos (by rw [n_ge (by decide) hw']; exact c4)]
        exact hr
      have m65 : ∀ r, (if (t.1 151 147) = (0 : Int32) then L_X12_rewrite_65 en (d' + 2) (nI w) (nI i) t else L_X12_rewrite_58 en (d' + 2) (nI w) (nI i) (100 : Int32) (nI i) t) = some r → qev en (d' + 3) 398 [.ref 151, .int (nI w), .int (nI i)] t = some r := fun r hr => by
        refine le_X12_rewrite en _ _ _ _ _ ?_
        rw [hb.2, if_neg b1, if_neg c1, h32, if_neg c2, if_neg c3, if_neg (by rw [n_lt (by decide) hw']; omega), if_neg c1, if_neg c2]
        exact hr
      cases o with
      | true =>
        obtain ⟨bl', go, hr⟩ := hR rfl
        obtain ⟨g1, g2, -⟩ := hr.2.2.1.2.2.2.2.2.1 i hi
        have xx : ∀ r, L_X11_rewrite_51 en (d + 4) (nI w) (nI i) s = some r → qev en (d + 5) 234 [.ref 0, .int (nI w), .int (nI i)] s = some r := fun r q => x51 r (by rw [h10.1, if_pos b1]; exact q)
        have mm : ∀ r, (if (t.1 175 (100 + i)) = (0 : Int32) then L_X12_rewrite_65 en (d' + 2) (nI w) (nI i) t else some (some (.int (-1 : Int32)), t)) = some r → qev en (d' + 3) 398 [.ref 151, .int (nI w), .int (nI i)] t = some r := fun r q => m65 r (by
          rw [h10.2, if_neg b1]
          refine le_X12_rewrite_58 en _ _ _ _ _ _ _ ?_
          rw [show (100 : Int32) + nI i = nI (100 + i) from n_al, gd_in (by omega) (by decide), n_cl (by omega)]
          exact q)
        cases hg : go i with
        | true =>
          refine no (-1) (xx _ (le_X11_rewrite_51 en _ _ _ _ _ ?_)) (mm _ ?_)
          · rw [gd_in (by omega) (by decide), n_cl (by omega), if_neg (by rw [g1, hg]; exact b1)]
          · rw [if_neg (by rw [g2, hg]; exact b1)]
        | false =>
          have m78 : ∀ r, L_X12_rewrite_78 en (d' + 2) (nI w) (nI i) t = some r → qev en (d' + 3) 398 [.ref 151, .int (nI w), .int (nI i)] t = some r := fun r q => mm r (by
            rw [if_pos (by rw [g2, hg]; rfl)]
            refine le_X12_rewrite_65 en _ _ _ _ _ ?_
            rw [h10.2, if_pos b1]
            exact q)
          rcases rw_core (en := en) (d := d) (d' := d') hr hi c4 h10 hf hg with ⟨s', t', k1, k2, k3, k4⟩ | ⟨s', t', bl2, go2, k1, k2, k3, k4, k5, k6, k7, k8⟩
          · rw [k3] at k1
            rw [k4] at k2
            exact no 0 (xx _ k1) (m78 _ k2)
          · exact ⟨1, s', t', xx _ k1, m78 _ k2, k3, k4, Or.inr (Or.inr ⟨rfl, k5, k6, ⟨bl2, go2, k7⟩, k8⟩)⟩
      | false =>
        obtain ⟨s1, p1, p2, p3, p4, p5, p6, p7⟩ := x_copy (en := en) (d := d + 3) (s := s)
        have hr := rwF_copy hPG.1 hPG.2.1 p2 p3 p4 p5 p6 p7
        have q1 := m_copyP (en := en) (d := d' + 1) (σ := t) (v1 := 0) (v2 := 1) (n := N) (nt := nt) (by decide) (by decide) (by decide) h32 hN hPG.1.1.2.2.1.2.2 hnt (fun k hk => by
          obtain ⟨kk, -, -, -, -, -, -, ⟨-, y2⟩, -⟩ := hPG.1.2.2.2.1 k hk
          rw [show 100 * 0 + k = k by omega, y2]
          decide)
        let t1 : qS := cpT (cpS t 0 1 N) 0 1 nt
        have e151 : t1.1 151 = t.1 151 := by
          show (cpT (cpS t 0 1 N) 0 1 nt).1 151 = _
          rw [cpT_o (by decide), cpS_o (by decide)]
        have hf1 : flE s1 t1 e x g y := by
          unfold flE
          rw [p2.1 0 (by decide), p2.1 70 (by decide), p2.1 111 (by decide), e151]
          exact hf
        have h10' : s1.1 0 10 = bt false ∧ t1.1 151 147 = bt false := by
          rw [p2.1 0 (by decide), e151]
          exact h10
        have xx : ∀ r, L_X11_rewrite_51 en (d + 4) (nI w) (nI i) s1 = some r → qev en (d + 5) 234 [.ref 0, .int (nI w), .int (nI i)] s = some r := fun r q => x51 r (by
          rw [h10.1, if_neg (not_not_intro bt_f), p1, bV_some]
          exact q)
        have mm : ∀ r, L_X12_rewrite_78 en (d' + 2) (nI w) (nI i) t1 = some r → qev en (d' + 3) 398 [.ref 151, .int (nI w), .int (nI i)] t = some r := fun r q => m65 r (by
          rw [h10.2, if_pos bt_f]
          refine le_X12_rewrite_65 en _ _ _ _ _ ?_
          rw [h10.2, if_neg (not_not_intro bt_f), show qev en (d' + 2) 293 [.ref 151, .int (0 : Int32), .int (1 : Int32)] t = _ from q1, bV_some]
          exact q)
        rcases rw_core (en := en) (d := d) (d' := d') hr hi c4 h10' hf1 rfl with ⟨s', t', k1, k2, k3, k4⟩ | ⟨s', t', bl2, go2, k1, k2, k3, k4, k5, k6, k7, k8⟩
        · rw [k3] at k1
          rw [k4] at k2
          exact ⟨0, s1, t1, xx _ k1, mm _ k2, wrX.cp p2, wrM.cp hN hnt, Or.inr (Or.inl ⟨rfl, h10', hf1, p2.1 8 (by decide), p2.1 9 (by decide)⟩)⟩
        · exact ⟨1, s', t', xx _ k1, mm _ k2, (wrX.cp p2).tr k3, (wrM.cp hN hnt).tr k4, Or.inr (Or.inr ⟨rfl, k5, k6, ⟨bl2, go2, k7⟩, k8⟩)⟩
    · refine no (-1) (le_X11_rewrite en _ _ _ _ _ ?_) (le_X12_rewrite en _ _ _ _ _ ?_)
      · rw [hb.1, if_neg b1, if_neg c1, h12, if_neg c2, if_neg c3, if_neg (by rw [n_ge (by decide) hw']; exact c4)]
      · rw [hb.2, if_neg b1, if_neg c1, h32, if_neg c2, if_neg c3, if_pos (by rw [n_lt (by decide) hw']; omega)]
/-- the rewritten program dropped, on both sides -/
theorem drop_alike (h10 : s.1 0 10 = bt o ∧ t.1 151 147 = bt o) (hf : flE s t e x g y) : ∃ (v : Int32) (s' t' : qS), qev en (d + 2) 235 [.ref 0] s = some (some (.int v), s') ∧ qev en (d' + 2) 404 [.ref 151] t = some (some (.int v), t') ∧ wrX s s' ∧ wrM t t' ∧ (∀ c, c ≠ 0 → c ≠ 70 → c ≠ 111 → s'.1 c = s.1 c) ∧ (∀ c, c ≠ 151 → t'.1 c = t.1 c) ∧ (s'.1 0 10 = 0 ∧ t'.1 151 147 = 0) ∧ ((o = false ∧ flE s' t' e x g y) ∨ flE s' t' (e && !x) false (g && !y) false) := by
  let t1 : qS := uI t 151 147 0
  have hf1 : flE s t1 e x g y := by
    obtain ⟨⟨y1, y2⟩, y3, y4, ⟨y5, y6⟩, y7, y8⟩ := hf
    have m : ∀ j, j ≠ 147 → t1.1 151 j = t.1 151 j := fun j hj => by show (uI t 151 147 0).1 151 j = _; rw [rdU, if_neg (fun q => hj q.2)]
    unfold flE
    rw [m 98 (by decide), m 148 (by decide), m 74 (by decide), m 149 (by decide)]
    exact ⟨⟨y1, y2⟩, y3, y4, ⟨y5, y6⟩, y7, y8⟩
  have m147 : t1.1 151 147 = 0 := by show (uI t 151 147 0).1 151 147 = _; rw [rdU, if_pos ⟨rfl, rfl⟩]
  have e294 : ∀ (z : Int32) (t2 : qS), z = 0 ∨ z = 1 → qev en (d' + 1) 294 [.int z] t2 = some (some (.int z), t2) := fun z t2 hz => by
    rcases hz with rfl | rfl
    · exact m_truth0
    · exact m_truth1
  cases o with
  | false =>
    refine ⟨0, s, t1, le_X11_drop en _ _ _ ?_, le_X12_drop en _ _ _ ?_, wrX.rf, wrM.fl 147 (by omega), fun _ _ _ _ => rfl, fun c hc => uI_ne hc, ⟨h10.1, m147⟩, Or.inl ⟨rfl, hf1⟩⟩
    · rw [h10.1, if_neg (not_not_intro bt_f)]
    · rw [nm_eq, h10.2, if_pos bt_f]
      refine le_X12_drop_18 en _ _ _ _ ?_
      rw [e294 _ _ (Or.inl bt_f), bI_some]
      rfl
  | true =>
    obtain ⟨s2, t2, f1, f2, f3, f4, f5, f6, f7, f8, f9, f10, f11⟩ := forget_al (en := en) (d := d) (d' := d') hf1
    have e0 : ∀ j, j ≠ 10 → (uI s2 0 10 0).1 0 j = s2.1 0 j := fun j hj => by rw [rdU, if_neg (fun q => hj q.2)]
    have o3 : ∀ c, c ≠ 0 → (uI s2 0 10 0).1 c = s2.1 c := fun c hc => uI_ne hc
    refine ⟨1, uI s2 0 10 0, t2, le_X11_drop en _ _ _ ?_, le_X12_drop en _ _ _ ?_, ⟨fun c c1 c2 c3 _ _ _ => (o3 c c1).trans (f4 c c1 c2 c3), fun j _ => by rw [o3 8 (by decide), o3 9 (by decide), f4 8 (by decide) (by decide) (by decide), f4 9 (by decide) (by decide) (by decide)]; exact ⟨rfl, rfl⟩, fun j j1 j2 j3 => (e0 j j1).trans (f5 j j2 j3), fun j hj => by rw [o3 70 (by decide)]; exact f6 j hj, fun j hj => by rw [o3 111 (by decide)]; exact f7 j hj, fun c _ _ => ?_, ?_⟩, (wrM.fl 147 (by omega)).tr ⟨fun c c1 _ => f9 c c1, fun c _ c2 j _ => by rw [f9 c (by omega)], fun j _ => by rw [f9 181 (by decide)], fun j j1 j2 _ => f10 j j1 j2, fun _ _ => by rw [f11], fun _ _ => by rw [f11], by rw [f11]⟩, fun c c1 c2 c3 => (o3 c c1).trans (f4 c c1 c2 c3), fun c hc => (f9 c hc).trans (uI_ne hc), ⟨by rw [rdU, if_pos ⟨rfl, rfl⟩], by rw [f10 147 (by decide) (by decide)]; exact m147⟩, Or.inr ?_⟩
    · rw [h10.1, if_pos (show ¬ bt true = 0 by decide), f1, bV_some, nm_eq]
    · rw [nm_eq, h10.2, if_neg (show ¬ bt true = 0 by decide), f2, bV_some]
      refine le_X12_drop_18 en _ _ _ _ ?_
      rw [e294 _ _ (Or.inr bt_t), bI_some]
      rfl
    · show s2.2.1 c = _
      rw [f8]
    · show s2.2.2 = _
      rw [f8]
    · unfold flE
      rw [o3 70 (by decide), o3 111 (by decide), e0 11 (by decide), e0 12 (by decide)]
      exact f3
end RWC
