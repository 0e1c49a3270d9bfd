/-! SOUND, the class's side. -/
/-- what sound may change on the class's side -/
abbrev frSd (τ τ' : qS) : Prop := (∀ c, c < 70 ∨ 103 ≤ c → c ≠ 7 → c ≠ 10 → c ≠ 0 → τ'.1 c = τ.1 c) ∧ (∀ j, j ≠ 11 → j ≠ 14 → τ'.1 0 j = τ.1 0 j) ∧ (∀ a, a ≠ 84 → a ≠ 94 → a ≠ 100 → τ'.2.1 a = τ.2.1 a) ∧ (∀ a j, ¬ (a = 71 ∧ j = 7) → τ'.2.2 a j = τ.2.2 a j)
section SNT
variable {en : pN} {d w nc nl nt n n2 i p : Nat} {P P2 : Nat → fI} {s s' s'' τ τ1 : qS} {X X2 : xT} {N M F G : fI} {b : Int32}
theorem uR_o {q : Nat} {a j : Nat} (h : ¬ (a = 71 ∧ j = 7)) : (uR s 71 7 q).2.2 a j = s.2.2 a j := if_neg h
theorem x_sound (hBx : MBx P nc nl nt n) (hBx2 : MBx P2 nc nl nt n2) (hP : PV P nc nl nt n) (hP2 : PV P2 nc nl nt n2) (h3 : ∀ u, u < nt → P2 3 u = P 3 u) (hw2 : w ≤ 2) (hPr : ∀ a, a < 25 → τ.1 (11 + a) = P a) (hPr2 : ∀ a, a < 25 → τ.1 (36 + a) = P2 a) (h8 : lmN P ≤ 500 ∧ ∀ j, j < lmN P → τ.1 8 j = P 25 j) (h9 : ∀ j, j < lmN P → τ.1 9 j = P 26 j) (h82 : lmN P2 ≤ 500 ∧ ∀ j, j < lmN P2 → τ.1 8 j = P2 25 j) (h92 : ∀ j, j < lmN P2 → τ.1 9 j = P2 26 j) (hin : ∀ c, c < nc → inR (P 4 c)) (hin2 : ∀ c, c < nc → inR (P2 4 c)) (h10 : ¬ τ.1 0 10 = 0) :
    ∃ (r : Int32) (τ' : qS), qev en (d + 12) 236 [.ref 0, .int (nI w)] τ = some (some (.int r), τ') ∧ sndQ P P2 w nc nl nt (τ.1 0 14) r (τ'.1 0 14) ∧ frSd τ τ' ∧ ((r = -3 ∧ τ'.1 70 17 = 0) ∨ (¬ r = -3 ∧ ∃ X2, expl P2 w nc nl nt false = some X2 ∧ XV P2 w nc nl nt n2 X2 ∧ EXx P2 w nc nl nt n2 36 false X2 τ' ∧ τ'.1 0 11 = 1 ∧ τ'.1 70 19 = 0)) := by
  have hlim := @lim_le w
  let σ1 : qS := uI τ 0 11 0
  have o1 : ∀ c, c ≠ 0 → σ1.1 c = τ.1 c := fun c hc => uI_ne hc
  have o0 : ∀ j, j ≠ 11 → σ1.1 0 j = τ.1 0 j := fun j hj => by show (uI τ 0 11 0).1 0 j = _; rw [g_I, if_neg (fun z => hj z.2)]
  have start : ∀ q, (bI (qev en (d + 11) 177 [.ref 70, .ref 11, .int (nI w), .int (0 : Int32)] σ1) (fun w7 s8 => if w7 < (0 : Int32) then L_X11_sound_61 en (d + 11) (nI w) (0 : Int32) s8 else if (4000 : Int32) < (s8.1 87 3) then L_X11_sound_61 en (d + 11) (nI w) (0 : Int32) s8 else L_X11_sound_61 en (d + 11) (nI w) (1 : Int32) s8) : Option qR) = some q → qev en (d + 12) 236 [.ref 0, .int (nI w)] τ = some q := fun q hq => by
    refine le_X11_sound en _ _ _ _ ?_
    have nlt : ¬ (2 : Int32) < nI w := by rw [show (2 : Int32) = nI 2 from rfl, n_LT (by omega) (by omega)]; omega
    have ew : qev en (d + 11) 238 [.int (nI w)] τ = some (some (.int 1), τ) := by rw [x_isWay (d := d + 10), if_neg (nI_pos (by omega)), if_neg nlt]
    rw [ew, bI_some, if_pos (by decide), if_pos h10, nm_eq]
    exact hq
  have l61 : ∀ s : qS, L_X11_sound_61 en (d + 11) (nI w) 0 s = some (some (.int (-3)), uI s 70 17 0) := fun s => by
    refine le_X11_sound_61 en _ _ _ _ _ ?_
    rw [nm_eq, if_neg (not_not_intro rfl)]
  have fr1 : ∀ {ρ : qS} {F N G : fI} {b : Int32}, frTB 11 σ1 ρ → frSd τ (uI (mS ρ 71 F N b G) 70 17 0) ∧ (uI (mS ρ 71 F N b G) 70 17 0).1 0 14 = τ.1 0 14 ∧ (uI (mS ρ 71 F N b G) 70 17 0).1 70 17 = 0 := fun {ρ F N G b} h => by
    have e0 : (uI (mS ρ 71 F N b G) 70 17 0).1 0 = σ1.1 0 := by rw [uI_ne (by decide), mS_o (by decide) (by decide) (by decide) (by decide), h.1 0 (by decide) (by decide) (by decide)]
    refine ⟨⟨fun c a1 a2 a3 a4 => ?_, fun j a1 _ => by rw [e0]; exact o0 j a1, fun a a1 a2 _ => (h.2.1 a a1 a2).trans rfl, fun a j hj => ?_⟩, by rw [e0]; exact o0 14 (by decide), by rw [g_I, if_pos ⟨rfl, rfl⟩]⟩
    · rw [uI_ne (by omega), mS_o (by omega) (by omega) a3 a2, h.1 c (by omega) a2 a3, o1 c a4]
    · show ρ.2.2 a j = _
      rw [h.2.2.1, uR_o hj]; rfl
  rcases x_tryAll (en := en) (d := d) (p := 11) (w := w) (fw := false) (σ := σ1) hBx hP hw2 (Or.inl rfl) (fun a ha => by rw [o1 _ (by omega)]; exact hPr a ha) (by rw [o1 8 (by decide)]; exact h8) (by rw [o1 9 (by decide)]; exact h9) hP.1.1 hP.2.1.1 hP.2.2.1.1 hin with ⟨x1, ρ, F, N, G, b, x2, x3, x4⟩ | ⟨X, x1, x2, ρ, F, N, G, b, x3, x4, x5, x6, x7⟩
  · have x2' : qev en (d + 11) 177 [.ref 70, .ref 11, .int (nI w), .int (0 : Int32)] σ1 = some (some (.int (-3)), mS ρ 71 F N b G) := x2
    obtain ⟨a1, a2, a3⟩ := fr1 (F := F) (N := N) (b := b) (G := G) x3
    refine ⟨-3, _, start _ (by rw [x2', bI_some, if_pos (by decide), l61]), Or.inl ⟨rfl, a2, Or.inl x1⟩, a1, Or.inl ⟨rfl, a3⟩⟩
  have x3' : qev en (d + 11) 177 [.ref 70, .ref 11, .int (nI w), .int (0 : Int32)] σ1 = some (some (.int (nI (xN X))), mS ρ 71 F N b G) := x3
  have hE1 : EXx P w nc nl nt n 11 false X (mS ρ 71 F N b G) := ⟨ρ, F, N, G, b, rfl, x5, x6, x7⟩
  have hxN := x2.1
  have hol := outL_len (P := P) (w := w) (nt := nt) (S := xS X) (xN X)
  have h87 : rwO P w nc nl nt X (mS ρ 71 F N b G) := hE1.flat.1.1.2.1.2.2.1
  by_cases q4 : 4000 < (outL P w nt (xS X) (xN X)).length
  · obtain ⟨a1, a2, a3⟩ := fr1 (F := F) (N := N) (b := b) (G := G) x4
    refine ⟨-3, _, start _ (by rw [x3', bI_some, if_neg (nI_pos (by omega)), h87.1, if_pos (by rw [show (4000 : Int32) = nI 4000 from rfl, n_LT (by omega) (by omega)]; exact q4), l61]), Or.inl ⟨rfl, a2, Or.inr ⟨X, x1, Or.inl q4⟩⟩, a1, Or.inl ⟨rfl, a3⟩⟩
  -- kept
  let s1 : qS := uI (mS ρ 71 F N b G) 70 17 0
  obtain ⟨⟨f1, f2, f3, f4⟩, f5, f6⟩ := fr1 (F := F) (N := N) (b := b) (G := G) x4
  obtain ⟨s2, e146, c1, c2, c3, c4⟩ := x_clear (en := en) (d := d + 9) (s := s1) (w' := (slO P nc nt).length / 2) (lim' := 4000) rw99 (by decide)
  have hk2 : frK9 s1 s2 := ⟨fun c a1 a2 a3 => c1 c a1 a3, fun a _ => by rw [c3], by rw [c3]⟩
  have h87b : rwO P w nc nl nt X s2 := rw87m h87 (fun c hc => by rw [hk2.1 c (by omega) (by omega) (by omega)]; exact uI_ne (by omega)) (by rw [hk2.2.1 84 (by decide)]; rfl)
  have h99 : rwT P w nc nt X s2 0 := RW.cg c4 (fun i hi => absurd hi (Nat.not_lt_zero _)) (fun i hi => absurd hi (Nat.not_lt_zero _))
  obtain ⟨s3, k1, k2, k3⟩ := x_s99 (en := en) (d := d + 8) (v1 := nI w) hP x2 (by omega) (outL P w nt (xS X) (xN X)).length 0 s2 (by omega) h87b h99
  have hk3 : frK9 s1 s3 := hk2.tr k1
  let s4 : qS := uI s3 0 11 1
  have o4 : ∀ c, c < 70 ∨ 103 ≤ c → c ≠ 7 → c ≠ 10 → c ≠ 0 → s4.1 c = τ.1 c := fun c a1 a2 a3 a4 => by
    show (uI s3 0 11 1).1 c = _
    rw [uI_ne a4, hk3.1 c (by omega) (by omega) (by omega)]
    exact f1 c a1 a2 a3 a4
  have o40 : ∀ j, j ≠ 11 → j ≠ 14 → s4.1 0 j = τ.1 0 j := fun j a1 a2 => by
    show (uI s3 0 11 1).1 0 j = _
    rw [g_I, if_neg (fun z => a1 z.2), hk3.1 0 (by decide) (by decide) (by decide)]
    exact f2 j a1 a2
  have o414 : s4.1 0 14 = τ.1 0 14 := by
    show (uI s3 0 11 1).1 0 14 = _
    rw [g_I, if_neg (by decide), hk3.1 0 (by decide) (by decide) (by decide)]
    exact f5
  have o411 : s4.1 0 11 = 1 := by show (uI s3 0 11 1).1 0 11 = _; rw [g_I, if_pos ⟨rfl, rfl⟩]
  have start2 : ∀ q, (bI (qev en (d + 11) 177 [.ref 70, .ref 36, .int (nI w), .int (0 : Int32)] s4) (fun w3 s4 => if (0 : Int32) ≤ w3 then L_X11_sound_175 en (d + 11) (0 : Int32) s4 else some (some (.int (-3 : Int32)), s4)) : Option qR) = some q → qev en (d + 12) 236 [.ref 0, .int (nI w)] τ = some q := fun q hq => by
    refine start q ?_
    rw [x3', bI_some, if_neg (nI_pos (by omega)), h87.1, if_neg (by rw [show (4000 : Int32) = nI 4000 from rfl, n_LT (by omega) (by omega)]; exact q4)]
    refine le_X11_sound_61 en _ _ _ _ _ ?_
    rw [nm_eq, if_pos (by decide)]
    have e874 : (uI (mS ρ 71 F N b G) 70 17 0).1 87 4 = nI ((slO P nc nt).length / 2) := by rw [uI_ne (by decide)]; exact h87.2.1
    have e146' : qev en (d + 11) 146 [.ref 99, .int (nI ((slO P nc nt).length / 2)), .int (4000 : Int32)] (uI (mS ρ 71 F N b G) 70 17 0) = some (none, s2) := e146
    rw [e874, e146', bV_some]
    exact k3 q hq
  -- the frames behind the second
  have fr2 : ∀ {ρ : qS} {F N G : fI} {b : Int32}, frTB 36 s4 ρ → frSd τ (mS ρ 71 F N b G) ∧ (mS ρ 71 F N b G).1 0 = s4.1 0 := fun {ρ F N G b} h => by
    have e0 : (mS ρ 71 F N b G).1 0 = s4.1 0 := by rw [mS_o (by decide) (by decide) (by decide) (by decide), h.1 0 (by decide) (by decide) (by decide)]
    refine ⟨⟨fun c a1 a2 a3 a4 => ?_, fun j a1 a2 => by rw [e0]; exact o40 j a1 a2, fun a a1 a2 a3 => ?_, fun a j hj => ?_⟩, e0⟩
    · rw [mS_o (by omega) (by omega) a3 a2, h.1 c (by omega) a2 a3, o4 c a1 a2 a3 a4]
    · show ρ.2.1 a = _
      rw [h.2.1 a a1 a2]
      show s3.2.1 a = _
      rw [hk3.2.1 a a3]
      exact f3 a a1 a2 a3
    · show ρ.2.2 a j = _
      rw [h.2.2.1, uR_o hj]
      show s3.2.2 a j = _
      rw [hk3.2.2]
      exact f4 a j hj
  rcases x_tryAll (en := en) (d := d) (p := 36) (w := w) (fw := false) (σ := s4) hBx2 hP2 hw2 (Or.inr rfl) (fun a ha => by rw [o4 _ (by omega) (by omega) (by omega) (by omega)]; exact hPr2 a ha) (by rw [o4 8 (by decide) (by decide) (by decide) (by decide)]; exact h82) (by rw [o4 9 (by decide) (by decide) (by decide) (by decide)]; exact h92) hP2.1.1 hP2.2.1.1 hP2.2.2.1.1 hin2 with ⟨y1, ρ2, F2, N2, G2, b2, y2, y3, y4⟩ | ⟨X2, y1, y2, ρ2, F2, N2, G2, b2, y3, y4, y5, y6, y7⟩
  · have y2' : qev en (d + 11) 177 [.ref 70, .ref 36, .int (nI w), .int (0 : Int32)] s4 = some (some (.int (-3)), mS ρ2 71 F2 N2 b2 G2) := y2
    obtain ⟨a1, a2⟩ := fr2 (F := F2) (N := N2) (b := b2) (G := G2) y3
    refine ⟨-3, _, start2 _ (by rw [y2', bI_some, if_neg (by decide)]), Or.inl ⟨rfl, by rw [a2]; exact o414, Or.inr ⟨X, x1, Or.inr y1⟩⟩, a1, Or.inl ⟨rfl, by rw [mS_o (by decide) (by decide) (by decide) (by decide)]; exact y4⟩⟩
  · have y3' : qev en (d + 11) 177 [.ref 70, .ref 36, .int (nI w), .int (0 : Int32)] s4 = some (some (.int (nI (xN X2))), mS ρ2 71 F2 N2 b2 G2) := y3
    have hxN2 := y2.1
    obtain ⟨a1, a2⟩ := fr2 (F := F2) (N := N2) (b := b2) (G := G2) y4
    have hE2 : EXx P2 w nc nl nt n2 36 false X2 (mS ρ2 71 F2 N2 b2 G2) := ⟨ρ2, F2, N2, G2, b2, rfl, y5, y6, y7⟩
    have h87c : rwO P2 w nc nl nt X2 (mS ρ2 71 F2 N2 b2 G2) := hE2.flat.1.1.2.1.2.2.1
    have h99c : rwT P w nc nt X (mS ρ2 71 F2 N2 b2 G2) (outL P w nt (xS X) (xN X)).length := k2.fr (fun j _ => by
      rw [mS_o (by decide) (by decide) (by decide) (by decide), y4.1 99 (by decide) (by decide) (by decide)]
      show (uI s3 0 11 1).1 99 j = _
      rw [uI_ne (by decide)]) (fun j _ => by
      rw [mS_o (by decide) (by decide) (by decide) (by decide), y4.1 101 (by decide) (by decide) (by decide)]
      show (uI s3 0 11 1).1 101 j = _
      rw [uI_ne (by decide)]) (fun j _ => by
      rw [mS_o (by decide) (by decide) (by decide) (by decide), y4.1 102 (by decide) (by decide) (by decide)]
      show (uI s3 0 11 1).1 102 j = _
      rw [uI_ne (by decide)]) (fun _ _ _ _ => by
      show ρ2.2.1 100 _ = _
      rw [y4.2.1 100 (by decide) (by decide)]
      rfl)
    have e19 : (mS ρ2 71 F2 N2 b2 G2).1 70 19 = 0 := by rw [mS_o (by decide) (by decide) (by decide) (by decide)]; exact y4.2.2.2
    have e11 : (mS ρ2 71 F2 N2 b2 G2).1 0 11 = 1 := by rw [a2]; exact o411
    have st3 : ∀ q, L_X11_sound_175 en (d + 11) (nI 0) (mS ρ2 71 F2 N2 b2 G2) = some q → qev en (d + 12) 236 [.ref 0, .int (nI w)] τ = some q := fun q hq => start2 q (by
      rw [y3', bI_some, if_pos (by rw [show (0 : Int32) = nI 0 from rfl, n_LE (by omega) (by omega)]; omega)]
      exact hq)
    rcases x_s175 (en := en) (d := d + 8) hP hP2 h3 x2 y2 h87c h99c (outL P2 w nt (xS X2) (xN X2)).length 0 (by omega) (fun j hj => absurd hj (Nat.not_lt_zero _)) with ⟨z1, z2⟩ | ⟨g, z1, z2, z3, z4⟩
    · exact ⟨1, _, st3 _ z1, Or.inr ⟨X, X2, x1, by omega, y1, Or.inl ⟨rfl, by rw [a2]; exact o414, z2⟩⟩, a1, Or.inr ⟨by decide, X2, y1, y2, hE2, e11, e19⟩⟩
    · refine ⟨0, _, st3 _ z4, Or.inr ⟨X, X2, x1, by omega, y1, Or.inr ⟨rfl, g, z1, by rw [g_I, if_pos ⟨rfl, rfl⟩], z2, z3⟩⟩, ⟨fun c b1 b2 b3 b4 => by rw [uI_ne b4]; exact a1.1 c b1 b2 b3 b4, fun j b1 b2 => by rw [g_I, if_neg (fun z => b2 z.2)]; exact a1.2.1 j b1 b2, a1.2.2.1, a1.2.2.2⟩, Or.inr ⟨by decide, X2, y1, y2, hE2.fl ⟨fun c hc => uI_ne (by omega), fun j _ => by rw [uI_ne (by decide)], rfl, rfl⟩, by rw [g_I, if_neg (by decide)]; exact e11, by rw [uI_ne (by decide)]; exact e19⟩⟩
end SNT

