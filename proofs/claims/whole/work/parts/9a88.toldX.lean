/-! ALL TURNS, both sides: what is told of them. -/
abbrev EXx (P : Nat → fI) (w nc nl nt n p : Nat) (fw : Bool) (X : xT) (τ : qS) : Prop := ∃ (ρ : qS) (F N G : fI) (b : Int32), τ = mS ρ 71 F N b G ∧ xcF P w nc nl nt p fw X ρ F ∧ SV P w nc nl nt n N ∧ N 235 = 0
/-- the states' rows, as they lie -/
def RWW (σ : qS) (F : fI) (n W : Nat) (R : Nat → fI) : Prop := F 101 = nI n ∧ True ∧ n ≤ 20000 ∧ (∀ i, i < n → ∀ j, j < W → σ.1 210 (i * W + j) = R i j)
/-- what stays told of all turns, whatever the machine is used for -/
abbrev mcW (P : Nat → fI) (w nc nl nt n : Nat) (x : xT) (σ : qS) (F : fI) : Prop := MB σ 2 P nc nl nt n ∧ (F 12 = nI nc ∧ F 16 = nI nl ∧ F 18 = nI nt) ∧ RWW σ F (xN x) (wid w) (fun i => sm w (xS x i)) ∧ F 102 = nI (xM x) ∧ (∀ e, e < xM x → σ.1 219 e = nI (xE x e).1 ∧ σ.1 220 e = nI (xE x e).2) ∧ (∀ i, i < xN x → σ.1 214 i = bt (xWh x i)) ∧ (∀ i, 1 ≤ i → i < xN x → σ.1 212 i = nI (xF x i).1 ∧ σ.1 213 i = nI (xF x i).2) ∧ (σ.1 212 0 = -2 ∧ σ.1 213 0 = -2) ∧ orM (F 120) (xO x)
abbrev EXm (P : Nat → fI) (w nc nl nt n : Nat) (fw : Bool) (X : xT) (σ : qS) : Prop := ∃ (ρ : qS) (F s y g : fI) (D : Int64), σ = mM ρ F s y g D ∧ mcW P w nc nl nt n X ρ F ∧ mcD P w nl nt (xN X) X ρ F ∧ (∀ i, i < xN X + 1 → ρ.1 218 i = nI (xA X i)) ∧ (F 98 = 1 ∧ F 99 = nI w ∧ F 100 = bt fw ∧ F 120 = F 120)
theorem mcI.W {P : Nat → fI} {w nc nl nt n : Nat} {x : xT} {σ : qS} {F : fI} (h : mcI P w nc nl nt n x σ F) (e : F 120 = F 73) : mcW P w nc nl nt n x σ F := by
  obtain ⟨m1, m2, m3, m4, m5, m6, m7, m8, m9⟩ := h
  exact ⟨m1, ⟨m2.1, m2.2.1, m2.2.2.1⟩, ⟨m3.1, trivial, m3.2.2.1, m3.2.2.2.1⟩, m4, m5, m6, m7, m8, by rw [e]; exact m9⟩
theorem mcW.fr {P : Nat → fI} {w nc nl nt n : Nat} {x : xT} {σ σ' : qS} {F F' : fI} (h : mcW P w nc nl nt n x σ F) (hB : MB σ' 2 P nc nl nt n) (h1 : ∀ c, c = 210 ∨ c = 212 ∨ c = 213 ∨ c = 214 ∨ c = 219 ∨ c = 220 → σ'.1 c = σ.1 c) (h2 : ∀ j, j = 12 ∨ j = 16 ∨ j = 18 ∨ j = 101 ∨ j = 102 ∨ j = 120 → F' j = F j) : mcW P w nc nl nt n x σ' F' := by
  obtain ⟨-, hF, hR, h102, hE, hW, hFd, h0, hO⟩ := h
  refine ⟨hB, ⟨by rw [h2 12 (by decide)]; exact hF.1, by rw [h2 16 (by decide)]; exact hF.2.1, by rw [h2 18 (by decide)]; exact hF.2.2⟩, ⟨by rw [h2 101 (by decide)]; exact hR.1, trivial, hR.2.2.1, fun i hi j hj => by rw [h1 210 (by omega)]; exact hR.2.2.2 i hi j hj⟩, by rw [h2 102 (by decide)]; exact h102, fun e he => by rw [h1 219 (by omega), h1 220 (by omega)]; exact hE e he, fun i hi => by rw [h1 214 (by omega)]; exact hW i hi, fun i a1 a2 => by rw [h1 212 (by omega), h1 213 (by omega)]; exact hFd i a1 a2, by rw [h1 212 (by omega), h1 213 (by omega)]; exact h0, by rw [h2 120 (by decide)]; exact hO⟩
section EX
variable {en : pN} {d w nc nl nt n p : Nat} {P : Nat → fI} {τ σ : qS} {X : xT} {fw : Bool} {a q : Int32}
theorem sw6 {α : Type} {z : Int} {A B C D E F G : Option α} : swI z 0 [A, B, C, D, E, F] G = if z = 0 then A else if z = 1 then B else if z = 2 then C else if z = 3 then D else if z = 4 then E else if z = 5 then F else G := rfl
theorem explored_alike (hx : EXx P w nc nl nt n p fw X τ) (hm : EXm P w nc nl nt n fw X σ) : ∃ r : Int32, qev en (d + 1) 221 [.ref 0, .int a] τ = some (some (.int r), τ) ∧ qev en (d + 2) 367 [.ref 151, .int a] σ = some (some (.int r), σ) := by
  obtain ⟨ρ, F, N, G, b, rfl, ⟨⟨⟨x1, x2, x3, x4, x5, x6, x7, x8, x9⟩, ⟨y1, y2, y3, y4, y5, y6, y7, y8⟩, -, y10⟩, z1, z2⟩, -, -⟩ := hx
  obtain ⟨ρ', F', s', y', g', D', rfl, ⟨m1, m2, m3, m4, m5, m6, m7, m8, m9⟩, ⟨n1, n2, n3, n4, n5, n6, n7⟩, -, k98, k99, k100, k120⟩ := hm
  have o : ∀ {c : Nat}, c ≠ 71 → c ≠ 72 → c ≠ 10 → c ≠ 7 → (mS ρ 71 F N b G).1 c = ρ.1 c := fun h1 h2 h3 h4 => mS_o h1 h2 h3 h4
  let v : Int32 := if a.toInt = 0 then nI (xN X) else if a.toInt = 1 then nI (xM X) else if a.toInt = 2 then nI (endN P w nt (xS X) (xN X)) else if a.toInt = 3 then nI (outL P w nt (xS X) (xN X)).length else if a.toInt = 4 then nI w else if a.toInt = 5 then bt fw else -1
  refine ⟨v, le_X11_explored en _ _ _ _ ?_, le_X12_explored en _ _ _ _ ?_⟩
  · rw [o (c := 70) (by decide) (by decide) (by decide) (by decide), z2, if_pos (by decide), sw6, o (c := 83) (by decide) (by decide) (by decide) (by decide), o (c := 87) (by decide) (by decide) (by decide) (by decide), mS_m, x5.1, x6, y4, y3.1, x4, y10]
    show _ = some (some (Value.int v), _)
    have e18 : (if bt fw = (0 : Int32) then some (some (Value.int (0 : Int32)), mS ρ 71 F N b G) else some (some (Value.int (1 : Int32)), mS ρ 71 F N b G)) = some (some (Value.int (bt fw)), mS ρ 71 F N b G) := by
      cases fw
      · rw [if_pos (show bt false = (0 : Int32) from rfl)]; rfl
      · rw [if_neg (show ¬ bt true = (0 : Int32) by decide)]; rfl
    rw [e18]
    show _ = some (some (Value.int (if a.toInt = 0 then nI (xN X) else if a.toInt = 1 then nI (xM X) else if a.toInt = 2 then nI (endN P w nt (xS X) (xN X)) else if a.toInt = 3 then nI (outL P w nt (xS X) (xN X)).length else if a.toInt = 4 then nI w else if a.toInt = 5 then bt fw else -1)), _)
    repeat (split <;> try rfl)
  · rw [mM_F, k98, if_pos (by decide), sw6, m3.1, m4, n3, n4.1, k99, k100, m_truth, bI_some]
    show _ = some (some (Value.int (if a.toInt = 0 then nI (xN X) else if a.toInt = 1 then nI (xM X) else if a.toInt = 2 then nI (endN P w nt (xS X) (xN X)) else if a.toInt = 3 then nI (outL P w nt (xS X) (xN X)).length else if a.toInt = 4 then nI w else if a.toInt = 5 then bt fw else -1)), _)
    repeat (split <;> try rfl)
theorem x_hasC1 {t c m : Nat} (ht : lc t = 5) (h : τ.1 t 9 = nI m) (hc : c < m) (hm : m < 100) : qev en (d + 1) 90 [.ref t, .int (nI c)] τ = some (some (.int 1), τ) := by
  refine le_X5_hasCell en _ _ _ _ _ ?_
  rw [gd_true ht, h, if_neg (nI_pos (by omega)), if_neg (by rw [n_LE (by omega) (by omega)]; omega)]
theorem x_hasC0 {t m : Nat} (ht : lc t = 5) (h : τ.1 t 9 = nI m) (hm : m < 100) (hc : a < 0 ∨ ∃ c, c < 2 ^ 31 ∧ a = nI c ∧ m ≤ c) : qev en (d + 1) 90 [.ref t, .int a] τ = some (some (.int 0), τ) := by
  refine le_X5_hasCell en _ _ _ _ _ ?_
  rw [gd_true ht, h]
  rcases hc with hc | ⟨c, h1, rfl, h2⟩
  · rw [if_pos hc]
  · rw [if_neg (nI_pos h1), if_pos (by rw [n_LE (by omega) h1]; exact h2)]
theorem x_hasL1 {t c m : Nat} (ht : lc t = 5) (h : τ.1 t 10 = nI m) (hc : c < m) (hm : m < 100) : qev en (d + 1) 91 [.ref t, .int (nI c)] τ = some (some (.int 1), τ) := by
  refine le_X5_hasLock en _ _ _ _ _ ?_
  rw [gd_true ht, h, if_neg (nI_pos (by omega)), if_neg (by rw [n_LE (by omega) (by omega)]; omega)]
theorem x_hasL0 {t m : Nat} (ht : lc t = 5) (h : τ.1 t 10 = nI m) (hm : m < 100) (hc : a < 0 ∨ ∃ c, c < 2 ^ 31 ∧ a = nI c ∧ m ≤ c) : qev en (d + 1) 91 [.ref t, .int a] τ = some (some (.int 0), τ) := by
  refine le_X5_hasLock en _ _ _ _ _ ?_
  rw [gd_true ht, h]
  rcases hc with hc | ⟨c, h1, rfl, h2⟩
  · rw [if_pos hc]
  · rw [if_neg (nI_pos h1), if_pos (by rw [n_LE (by omega) h1]; exact h2)]
theorem guard_alike (hx : EXx P w nc nl nt n p fw X τ) (hm : EXm P w nc nl nt n fw X σ) (hP : PV P nc nl nt n) (h11 : τ.1 11 9 = nI nc) : ∃ r : Int32, qev en (d + 2) 229 [.ref 0, .int a] τ = some (some (.int r), τ) ∧ qev en (d + 1) 382 [.ref 151, .int a] σ = some (some (.int r), σ) := by
  obtain ⟨ρ, F, N, G, b, rfl, ⟨⟨-, ⟨-, -, -, -, -, -, y7, -⟩, -, -⟩, -, z2⟩, -, -⟩ := hx
  obtain ⟨ρ', F', s', y', g', D', rfl, ⟨m1, m2, -⟩, ⟨-, -, -, -, -, n6, -⟩, -, k98, -⟩ := hm
  have hc8 := hP.1.2
  by_cases h0 : a < 0
  · refine ⟨-1, le_X11_guard en _ _ _ _ ?_, le_X12_guard en _ _ _ _ ?_⟩
    · rw [mS_o (by decide) (by decide) (by decide) (by decide), z2, if_neg (by decide), x_hasC0 rfl h11 (by omega) (Or.inl h0), bI_some, if_pos rfl]
    · rw [mM_F, k98, if_neg (by decide), if_pos h0]
  · obtain ⟨c, hc, rfl⟩ := nI_of h0
    by_cases h1 : c < nc
    · refine ⟨guS P w (xS X) nl nt (xN X) c, le_X11_guard en _ _ _ _ ?_, le_X12_guard en _ _ _ _ ?_⟩
      · rw [mS_o (by decide) (by decide) (by decide) (by decide), z2, if_neg (by decide), x_hasC1 rfl h11 h1 (by omega), bI_some, if_neg (by decide), gd_true (n_in (by omega) (by decide)), n_cl (by omega), mS_o (by decide) (by decide) (by decide) (by decide), y7 c (by omega)]
      · rw [mM_F, k98, if_neg (by decide), if_neg h0, m2.1, if_pos (by rw [n_LT (by omega) (by omega)]; exact h1), gd_true (n_in (by omega) (by decide)), n_cl (by omega), mM_o (by decide) (by decide) (by decide) (by decide), n6 c (by omega)]
    · refine ⟨-1, le_X11_guard en _ _ _ _ ?_, le_X12_guard en _ _ _ _ ?_⟩
      · rw [mS_o (by decide) (by decide) (by decide) (by decide), z2, if_neg (by decide), x_hasC0 rfl h11 (by omega) (Or.inr ⟨c, hc, rfl, by omega⟩), bI_some, if_pos rfl]
      · rw [mM_F, k98, if_neg (by decide), if_neg h0, m2.1, if_neg (by rw [n_LT (by omega) (by omega)]; exact h1)]
theorem order_alike (hx : EXx P w nc nl nt n p fw X τ) (hm : EXm P w nc nl nt n fw X σ) (hP : PV P nc nl nt n) (h11 : τ.1 11 10 = nI nl) : ∃ r : Int32, qev en (d + 2) 231 [.ref 0, .int a, .int q] τ = some (some (.int r), τ) ∧ qev en (d + 1) 389 [.ref 151, .int a, .int q] σ = some (some (.int r), σ) := by
  obtain ⟨ρ, F, N, G, b, rfl, ⟨⟨⟨-, -, -, -, -, -, -, -, x9⟩, -, -, -⟩, -, z2⟩, -, -⟩ := hx
  obtain ⟨ρ', F', s', y', g', D', rfl, ⟨m1, m2, -, -, -, -, -, -, m9⟩, -, -, k98, -, -, k120⟩ := hm
  have hl4 := hP.2.1.2
  by_cases h0 : a < 0
  · refine ⟨-1, le_X11_order en _ _ _ _ _ ?_, le_X12_order en _ _ _ _ _ ?_⟩
    · rw [mS_o (by decide) (by decide) (by decide) (by decide), z2, if_neg (by decide), x_hasL0 rfl h11 (by omega) (Or.inl h0), bI_some, if_pos rfl]
    · rw [mM_F, k98, if_neg (by decide), if_pos h0]
  obtain ⟨c, hc, rfl⟩ := nI_of h0
  by_cases h1 : c < nl
  rotate_left
  · refine ⟨-1, le_X11_order en _ _ _ _ _ ?_, le_X12_order en _ _ _ _ _ ?_⟩
    · rw [mS_o (by decide) (by decide) (by decide) (by decide), z2, if_neg (by decide), x_hasL0 rfl h11 (by omega) (Or.inr ⟨c, hc, rfl, by omega⟩), bI_some, if_pos rfl]
    · rw [mM_F, k98, if_neg (by decide), if_neg h0, m2.2.1, if_pos (by rw [n_LE (by omega) (by omega)]; omega)]
  by_cases h2 : q < 0
  · refine ⟨-1, le_X11_order en _ _ _ _ _ ?_, le_X12_order en _ _ _ _ _ ?_⟩
    · rw [mS_o (by decide) (by decide) (by decide) (by decide), z2, if_neg (by decide), x_hasL1 rfl h11 h1 (by omega), bI_some, if_neg (by decide), x_hasL0 rfl h11 (by omega) (Or.inl h2), bI_some, if_neg (fun z => z rfl)]
    · rw [mM_F, k98, if_neg (by decide), if_neg h0, m2.2.1, if_neg (by rw [n_LE (by omega) (by omega)]; omega), if_pos h2]
  obtain ⟨e, he, rfl⟩ := nI_of h2
  by_cases h3 : e < nl
  · refine ⟨if xO X c e = true then 1 else 0, le_X11_order en _ _ _ _ _ ?_, le_X12_order en _ _ _ _ _ ?_⟩
    · rw [mS_o (by decide) (by decide) (by decide) (by decide), z2, if_neg (by decide), x_hasL1 rfl h11 h1 (by omega), bI_some, if_neg (by decide), x_hasL1 rfl h11 h3 (by omega), bI_some, if_pos (show ¬ (1 : Int32) = 0 by decide), gd_true (n_in (by omega) (by decide)), n_cl (by omega), mS_o (by decide) (by decide) (by decide) (by decide), bitI (by omega), x9 c (by omega) e (by omega)]
    · rw [mM_F, k98, if_neg (by decide), if_neg h0, m2.2.1, if_neg (by rw [n_LE (by omega) (by omega)]; omega), if_neg h2, if_pos (by rw [n_LT (by omega) (by omega)]; exact h3), n_ml, nI_add, bitI (by omega), m9 c (by omega) e (by omega)]
  · refine ⟨-1, le_X11_order en _ _ _ _ _ ?_, le_X12_order en _ _ _ _ _ ?_⟩
    · rw [mS_o (by decide) (by decide) (by decide) (by decide), z2, if_neg (by decide), x_hasL1 rfl h11 h1 (by omega), bI_some, if_neg (by decide), x_hasL0 rfl h11 (by omega) (Or.inr ⟨e, he, rfl, by omega⟩), bI_some, if_neg (fun z => z rfl)]
    · rw [mM_F, k98, if_neg (by decide), if_neg h0, m2.2.1, if_neg (by rw [n_LE (by omega) (by omega)]; omega), if_neg h2, if_neg (by rw [n_LT (by omega) (by omega)]; omega)]
end EX
