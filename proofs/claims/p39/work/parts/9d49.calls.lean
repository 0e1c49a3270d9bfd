/-! THE CLASS'S CALLS: explore, explored, outcomes. -/
/-- a thread's local, -1000 where there is none -/
def ocv (P : Nat → fI) (N : fI) (t v : Nat) : Int32 := if v < lct P t then N (16 + t * 6 + v) else -1000
section CLX
variable {en : pN} {d nc nl nt n p o c w t v : Nat} {P : Nat → fI} {τ τ' : qS} {X : xT} {fw : Bool}
theorem x_explore (hBx : MBx P nc nl nt n) (hP : PV P nc nl nt n) (hPr : ∀ a, a < 25 → τ.1 (11 + a) = P a) (h8 : lmN P ≤ 500 ∧ ∀ j, j < lmN P → τ.1 8 j = P 25 j) (h9 : ∀ j, j < lmN P → τ.1 9 j = P 26 j) (h09 : ¬ τ.1 0 9 = 0) (hin : ∀ c, c < nc → inR (P 4 c)) (hw2 : w ≤ 2) :
    ∃ (r : Int32) (τ' : qS), qev en (d + 12) 220 [.ref 0, .int (nI w), .int (bt fw)] τ = some (some (.int r), τ') ∧ frEx 11 τ τ' ∧ τ'.1 0 11 = 0 ∧ ((expl P w nc nl nt fw = none ∧ r = -3 ∧ τ'.1 70 17 = 0) ∨ ∃ X, expl P w nc nl nt fw = some X ∧ r = nI (xN X) ∧ XV P w nc nl nt n X ∧ EXx P w nc nl nt n 11 fw X τ') := by
  have hnt := hP.2.2.1
  have hu0 : ¬ nI w < (0 : Int32) := nI_pos (by omega)
  have hn2u : ¬ (2 : Int32) < nI w := by rw [show (2 : Int32) = nI 2 from rfl, n_LT (by omega) (by omega)]; omega
  let τ1 : qS := uI τ 0 11 0
  have startx : ∀ r ρ, qev en (d + 11) 177 [.ref 70, .ref 11, .int (nI w), .int (bt fw)] τ1 = some (some (.int r), ρ) → qev en (d + 12) 220 [.ref 0, .int (nI w), .int (bt fw)] τ = some (some (.int r), ρ) := by
    intro r ρ hh
    refine le_X11_explore en _ _ _ _ _ ?_
    have hh' : qev en (d + 11) 177 [.ref 70, .ref 11, .int (nI w), .int (bt fw)] (uI τ 0 11 0) = some (some (.int r), ρ) := hh
    rw [if_neg h09, x_isWay (d := d + 10), bI_some, if_neg hu0, if_neg hn2u, if_pos (by decide), nm_eq, hh', bI_some]
  have hx := x_tryAll (en := en) (d := d) (p := 11) (w := w) (fw := fw) (σ := τ1) hBx hP hw2 (Or.inl rfl) (fun a ha => by rw [show τ1.1 (11 + a) = τ.1 (11 + a) from uI_ne (by omega)]; exact hPr a ha) (by rw [show τ1.1 8 = τ.1 8 from uI_ne (by decide)]; exact h8) (by rw [show τ1.1 9 = τ.1 9 from uI_ne (by decide)]; exact h9) hP.1.1 hP.2.1.1 hnt.1 hin
  have frx : ∀ {ρ : qS} {F N G : fI} {b : Int32}, frTB 11 τ1 ρ → frEx 11 τ (mS ρ 71 F N b G) ∧ (mS ρ 71 F N b G).1 0 11 = 0 := fun {ρ F N G b} h => by
    refine ⟨⟨fun c h1 h7 h10 h0 => ?_, fun j hj => ?_, fun a h1 h2 => (h.2.1 a h1 h2).trans rfl, h.2.2.1, ?_⟩, ?_⟩
    · rw [mS_o (by omega) (by omega) h10 h7, h.1 c h1 h7 h10]; exact uI_ne h0
    · rw [mS_o (by decide) (by decide) (by decide) (by decide), h.1 0 (by decide) (by decide) (by decide)]
      show (uI τ 0 11 0).1 0 j = _
      rw [g_I, if_neg (fun z => hj z.2)]
    · rw [mS_o (by decide) (by decide) (by decide) (by decide)]; exact h.2.2.2
    · rw [mS_o (by decide) (by decide) (by decide) (by decide), h.1 0 (by decide) (by decide) (by decide)]
      show (uI τ 0 11 0).1 0 11 = _
      rw [g_I, if_pos ⟨rfl, rfl⟩]
  rcases hx with ⟨x1, ρ, F, N, G, b, x2, x3, x4⟩ | ⟨X, x1, x2, ρ, F, N, G, b, x3, x4, x5, x6, x7⟩
  · refine ⟨-3, _, startx _ _ x2, (frx x3).1, (frx x3).2, Or.inl ⟨x1, rfl, ?_⟩⟩
    rw [mS_o (by decide) (by decide) (by decide) (by decide)]; exact x4
  · exact ⟨nI (xN X), _, startx _ _ x3, (frx x4).1, (frx x4).2, Or.inr ⟨X, x1, rfl, x2, ⟨ρ, F, N, G, b, rfl, x5, x6, x7⟩⟩⟩
theorem x_explored {a : Int32} (hx : EXx P w nc nl nt n p fw X τ) : qev en (d + 1) 221 [.ref 0, .int a] τ = some (some (.int (if a.toInt = 0 then nI (xN X) else if a.toInt = 1 then nI (xM X) else if a.toInt = 2 then nI (endN P w nt (xS X) (xN X)) else if a.toInt = 3 then nI (outL P w nt (xS X) (xN X)).length else if a.toInt = 4 then nI w else if a.toInt = 5 then bt fw else -1)), τ) := by
  obtain ⟨ρ, F, N, G, b, rfl, ⟨⟨⟨x1, x2, x3, x4, x5, x6, x7, x8, x9⟩, ⟨y1, y2, y3, y4, y5, y6, y7, y8⟩, -, y10⟩, z1, z2⟩, -, -⟩ := hx
  have o : ∀ {c : Nat}, c ≠ 71 → c ≠ 72 → c ≠ 10 → c ≠ 7 → (mS ρ 71 F N b G).1 c = ρ.1 c := fun h1 h2 h3 h4 => mS_o h1 h2 h3 h4
  refine le_X11_explored en _ _ _ _ ?_
  rw [o (c := 70) (by decide) (by decide) (by decide) (by decide), z2, if_pos (by decide), sw6, o (c := 83) (by decide) (by decide) (by decide) (by decide), o (c := 87) (by decide) (by decide) (by decide) (by decide), mS_m, x5.1, x6, y4, y3.1, x4, y10]
  have e18 : (if bt fw = (0 : Int32) then some (some (Value.int (0 : Int32)), mS ρ 71 F N b G) else some (some (Value.int (1 : Int32)), mS ρ 71 F N b G)) = some (some (Value.int (bt fw)), mS ρ 71 F N b G) := by
    cases fw
    · rw [if_pos (show bt false = (0 : Int32) from rfl)]; rfl
    · rw [if_neg (show ¬ bt true = (0 : Int32) by decide)]; rfl
  rw [e18]
  repeat (split <;> try rfl)
/-- nothing explored -/
theorem x_explored0 {a : Int32} (h : τ.1 70 17 = 0) : qev en (d + 1) 221 [.ref 0, .int a] τ = some (some (.int (-1)), τ) := by
  refine le_X11_explored en _ _ _ _ ?_
  rw [h, if_neg (by decide)]
theorem x_hasOut (hX : XV P w nc nl nt n X) (hx : EXx P w nc nl nt n p fw X τ) (ho : o < (outL P w nt (xS X) (xN X)).length) : qev en (d + 1) 184 [.ref 70, .int (nI o)] τ = some (some (.int 1), τ) := by
  obtain ⟨ρ, F, N, G, b, rfl, ⟨⟨-, ⟨-, -, y3, -, -, -, -, -⟩, -, -⟩, -, z2⟩, -, -⟩ := hx
  have hl := outL_len (P := P) (w := w) (nt := nt) (S := xS X) (xN X)
  have hlim := @lim_le w
  have hxN := hX.1.2
  have e87 : (mS ρ 71 F N b G).1 87 3 = nI (outL P w nt (xS X) (xN X)).length := by rw [mS_o (by decide) (by decide) (by decide) (by decide)]; exact y3.1
  have e17 : (mS ρ 71 F N b G).1 70 17 = 1 := by rw [mS_o (by decide) (by decide) (by decide) (by decide)]; exact z2
  refine le_X10_hasOutcome en _ _ _ _ ?_
  rw [e17, if_neg (by decide), if_neg (nI_pos (by omega)), e87, if_neg (by rw [n_LE (by omega) (by omega)]; omega)]
theorem x_out0 (hP : PV P nc nl nt n) (hX : XV P w nc nl nt n X) (hx : EXx P w nc nl nt n p fw X τ) (ho : o < (outL P w nt (xS X) (xN X)).length) : ∃ τ' : qS, qev en (d + 3) 222 [.ref 0, .int (nI o), .int (0 : Int32)] τ = some (some (.int (nI (soS (xS X (oK P w nt X o)) nt))), τ') ∧ EXx P w nc nl nt n p fw X τ' ∧ (∀ c, c ≠ 72 → τ'.1 c = τ.1 c) ∧ τ'.2 = τ.2 := by
  have sw3 : ∀ {α : Type} {z : Int} {A B C D : Option α}, swI z 0 [A, B, C] D = if z = 0 then A else if z = 1 then B else if z = 2 then C else D := fun {_ _ _ _ _ _} => rfl
  have e1 := x_hasOut (en := en) (d := d + 1) hX hx ho
  obtain ⟨τ', s1, s2, s3, s4⟩ := x_slotOf (en := en) (d := d) (j := 233) hP hX hx ho (Nat.le_refl _)
  rw [if_pos rfl] at s1
  have s1' : qev en (d + 2) 186 [.ref 70, .int (nI o), .int (233 : Int32)] τ = some (some (.int (nI (soS (xS X (oK P w nt X o)) nt))), τ') := s1
  refine ⟨τ', le_X11_outcome en _ _ _ _ _ ?_, s2, s3, s4⟩
  rw [e1, bI_some, if_pos (by decide), sw3, if_pos (show (0 : Int32).toInt = 0 by decide), s1', bI_some]
theorem x_outC (hP : PV P nc nl nt n) (hX : XV P w nc nl nt n X) (hx : EXx P w nc nl nt n p fw X τ) (h11 : τ.1 11 9 = nI nc) (ho : o < (outL P w nt (xS X) (xN X)).length) (hc : c < nc) : ∃ τ' : qS, qev en (d + 3) 223 [.ref 0, .int (nI o), .int (nI c)] τ = some (some (.int (xS X (oK P w nt X o) (48 + c))), τ') ∧ EXx P w nc nl nt n p fw X τ' ∧ (∀ c, c ≠ 72 → τ'.1 c = τ.1 c) ∧ τ'.2 = τ.2 := by
  have hc8 := hP.1.2
  have e1 := x_hasOut (en := en) (d := d + 1) hX hx ho
  obtain ⟨τ', s1, s2, s3, s4⟩ := x_slotOf (en := en) (d := d) (j := 48 + c) hP hX hx ho (by omega)
  rw [if_neg (by omega)] at s1
  refine ⟨τ', le_X11_outcomeCell en _ _ _ _ _ ?_, s2, s3, s4⟩
  rw [e1, bI_some, if_neg (by decide), x_hasC1 (d := d + 1) rfl h11 hc (by omega), bI_some, if_neg (by decide), n_al, s1, bI_some]
theorem x_outV (hP : PV P nc nl nt n) (hX : XV P w nc nl nt n X) (hx : EXx P w nc nl nt n p fw X τ) (h11 : τ.1 11 11 = nI nt) (h14 : ∀ t, t < nt → τ.1 14 t = nI (lct P t)) (ho : o < (outL P w nt (xS X) (xN X)).length) (ht : t < nt) (hv : v < 100) : ∃ τ' : qS, qev en (d + 4) 224 [.ref 0, .int (nI o), .int (nI t), .int (nI v)] τ = some (some (.int (ocv P (xS X (oK P w nt X o)) t v)), τ') ∧ EXx P w nc nl nt n p fw X τ' ∧ (∀ c, c ≠ 72 → τ'.1 c = τ.1 c) ∧ τ'.2 = τ.2 := by
  have ht4 := hP.2.2.1.2
  have hlc := (hP.2.2.2.2.2 t ht).2.2
  have e1 := x_hasOut (en := en) (d := d + 2) hX hx ho
  have x92 : qev en (d + 2) 92 [.ref 11, .int (nI t)] τ = some (some (.int 1), τ) := by
    refine le_X5_hasThread en _ _ _ _ _ ?_
    rw [gd_true (show lc 11 = 5 from rfl), h11, if_neg (nI_pos (by omega)), if_neg (by rw [n_LE (by omega) (by omega)]; omega)]
  have l93 : ∀ r, (if τ.1 14 t ≤ nI v then some (some (Value.int (0 : Int32)), τ) else some (some (.int (1 : Int32)), τ)) = some r → qev en (d + 3) 93 [.ref 11, .int (nI t), .int (nI v)] τ = some r := fun r hr => by
    refine le_X5_hasLocal en _ _ _ _ _ _ ?_
    rw [gd_true (show lc 11 = 5 from rfl), x92, bI_some, if_neg (by decide), if_neg (nI_pos (by omega)), gd_true (n_in (by omega) (by decide)), n_cl (by omega)]
    exact hr
  unfold ocv
  by_cases h2 : v < lct P t
  · obtain ⟨τ', s1, s2, s3, s4⟩ := x_slotOf (en := en) (d := d + 1) (j := 16 + t * 6 + v) hP hX hx ho (by omega)
    rw [if_neg (by omega)] at s1
    refine ⟨τ', le_X11_outcomeLocal en _ _ _ _ _ _ ?_, s2, s3, s4⟩
    have e32 : qev en (d + 3) 32 [.int (nI t), .int (nI v)] τ = some (some (.int (nI (16 + t * 6 + v))), τ) := by
      refine le_X3_localSlot en _ _ _ _ _ ?_
      rw [n_mr, n_al, nI_add]
    rw [e1, bI_some, if_neg (by decide), l93 _ (if_neg (by rw [h14 t ht, n_LE (by omega) (by omega)]; omega)), bI_some, if_neg (by decide), e32, bI_some, s1, bI_some, if_pos h2]
  · refine ⟨τ, le_X11_outcomeLocal en _ _ _ _ _ _ ?_, hx, fun _ _ => rfl, rfl⟩
    rw [e1, bI_some, if_neg (by decide), l93 _ (if_pos (by rw [h14 t ht, n_LE (by omega) (by omega)]; omega)), bI_some, if_pos rfl, if_neg h2]
end CLX
