/-! ALL TURNS, the class's side: tryAll, done. -/
section TD
variable {en : pN} {d p w nc nl nt n t u k a m0 e0 : Nat} {σ σ' : qS} {P : Nat → fI} {F F' N M G g : fI} {b : Int32} {x : xT} {fw : Bool}
theorem frTB.tr {τ ρ : qS} (h : frTB p σ τ) (g : frTA τ ρ) : frTB p σ ρ := ⟨fun c h1 h2 h3 => (g.1 c h1 h2 h3).trans (h.1 c h1 h2 h3), fun a h1 h2 => (g.2.1 a h1 h2).trans (h.2.1 a h1 h2), g.2.2.1.trans h.2.2.1, g.2.2.2.trans h.2.2.2⟩
theorem x_253 {m : Nat} {z : Int32} {v4 : Bool} (h3 : σ.1 83 3 = nI m) (hm : m ≤ 20000) (h13 : σ.1 70 13 = z) : L_X10_tryAll_253 en d (bt v4) (mS σ 71 F N b G) = some (some (.int (if v4 then nI m else -3)), mS (uI (uI σ 92 m z) 70 17 (bt v4)) 71 F N b G) := by
  refine le_X10_tryAll_253 en _ _ _ _ ?_
  rw [mS_o (by decide) (by decide) (by decide) (by decide), mS_o (by decide) (by decide) (by decide) (by decide), h3, h13, gd_true (n_in (by omega) (by decide)), nm_eq, gd_true (by cases v4 <;> decide), nm_eq, n_cl (by omega), mS_wo (by decide) (by decide) (by decide) (by decide), mS_wo (by decide) (by decide) (by decide) (by decide)]
  cases v4 with
  | false => rw [if_pos (by decide), if_neg (by decide)]
  | true => rw [if_neg (by decide), if_pos rfl, mS_o (by decide) (by decide) (by decide) (by decide), uI_ne (by decide), uI_ne (by decide), h3]
theorem x_tryAll (hBx : MBx P nc nl nt n) (hP : PV P nc nl nt n) (hw2 : w ≤ 2) (h2 : p = 11 ∨ p = 36) (hPr : ∀ a, a < 25 → σ.1 (p + a) = P a) (h8 : lmN P ≤ 500 ∧ ∀ j, j < lmN P → σ.1 8 j = P 25 j) (h9 : ∀ j, j < lmN P → σ.1 9 j = P 26 j) (hc0 : P 0 9 = nI nc) (hl0 : P 0 10 = nI nl) (ht0 : P 0 11 = nI nt) (hin : ∀ c, c < nc → inR (P 4 c)) :
    (expl P w nc nl nt fw = none ∧ ∃ (τ : qS) (F N G : fI) (b : Int32), qev en (d + 11) 177 [.ref 70, .ref p, .int (nI w), .int (bt fw)] σ = some (some (.int (-3)), mS τ 71 F N b G) ∧ frTB p σ τ ∧ τ.1 70 17 = 0) ∨
    (∃ X, expl P w nc nl nt fw = some X ∧ XV P w nc nl nt n X ∧ ∃ (τ : qS) (F N G : fI) (b : Int32), qev en (d + 11) 177 [.ref 70, .ref p, .int (nI w), .int (bt fw)] σ = some (some (.int (nI (xN X))), mS τ 71 F N b G) ∧ frTB p σ τ ∧ xcF P w nc nl nt p fw X τ F ∧ SV P w nc nl nt n N ∧ N 235 = 0) := by
  have hlim := @lim_le w
  obtain ⟨τ0, F0, N0, G0, b0, e0, f0, i0, v0, z0⟩ := x_begAll (en := en) (d := d) (fw := fw) hP hw2 h2 hPr h8 h9 hc0 hl0 ht0 hin
  have hX0 : XV P w nc nl nt n (beg0 (fst0 P w nc nt (fun _ => 0))) := XV_0 hP hw2 hin
  have eX : expl P w nc nl nt fw = match exK P w nl nt (limS w) fw 20000 0 (beg0 (fst0 P w nc nt (fun _ => 0))) with
    | none => none
    | some x => some (begK x (xN x)) := rfl
  have c1 : ∀ (ρ : qS) (m : Nat) (v1 v2 : Int32), frTA ρ (uI (uI ρ 92 m v1) 70 17 v2) := fun ρ m v1 v2 => ⟨fun c h1 _ _ => by rw [uI_ne (by omega), uI_ne (by omega)], fun _ _ _ => rfl, rfl, by rw [g_I, if_neg (fun z => absurd z.2 (by decide)), uI_ne (by decide)]⟩
  rcases x_exAll (en := en) (d := d) (p := p) (fw := fw) hBx hP hw2 20000 0 (beg0 (fst0 P w nc nt (fun _ => 0))) τ0 F0 N0 G0 b0 (by decide) (Nat.zero_le _) hX0 i0 v0 z0 with ⟨r1, τ, F, N, G, b, m, r2, r3, r4, r5⟩ | ⟨y, r1, r2, τ, F, N, G, b, r3, r4, r5, r6, r7⟩
  · left
    have e := x_253 (en := en) (d := d + 10) (F := F) (N := N) (b := b) (G := G) (v4 := false) r4 r5 rfl
    exact ⟨by rw [eX, r1], _, F, N, G, b, e0 _ (r2 _ e), (f0.tr r3).tr (c1 τ m _ _), by rw [g_I, if_pos ⟨rfl, rfl⟩]; rfl⟩
  · right
    obtain ⟨i1, i2, i3, i4⟩ := r4
    have hyN := r2.1.2
    have e := x_253 (en := en) (d := d + 10) (F := F) (N := N) (b := b) (G := G) (v4 := true) i1.2.2.2.2.1.1 (by omega) i1.2.2.2.2.2.1
    let τ' : qS := uI (uI τ 92 (xN y) (nI (xM y))) 70 17 1
    have t1 : ∀ c, c ≠ 92 → c ≠ 70 → τ'.1 c = τ.1 c := fun c h1 h2 => by
      show (uI (uI τ 92 (xN y) (nI (xM y))) 70 17 1).1 c = _
      rw [uI_ne h2, uI_ne h1]
    have t70 : ∀ j, j ≠ 17 → τ'.1 70 j = τ.1 70 j := fun j hj => by
      show (uI (uI τ 92 (xN y) (nI (xM y))) 70 17 1).1 70 j = _
      rw [g_I, if_neg (fun z => hj z.2), uI_ne (by decide)]
    have t92 : ∀ j, τ'.1 92 j = if j = xN y then nI (xM y) else τ.1 92 j := fun j => by
      show (uI (uI τ 92 (xN y) (nI (xM y))) 70 17 1).1 92 j = _
      rw [uI_ne (by decide), g_I]
      by_cases q : j = xN y
      · rw [if_pos ⟨rfl, q⟩, if_pos q]
      · rw [if_neg (fun z => q z.2), if_neg q]
    obtain ⟨a1, a2, a3, a4, a5, a6, a7, a8, a9⟩ := i1
    obtain ⟨d1, d2, d3, d4, d5, d6, d7, d8⟩ := i2
    refine ⟨begK y (xN y), by rw [eX, r1], r2, τ', F, N, G, b, e0 _ (r3 _ e), (f0.tr r5).tr (c1 τ _ _ _), ⟨⟨⟨xb_fr a1 (fun z hz => t1 z (by have := a1.2.1; omega) (by have := a1.2.1; omega)) rfl, ⟨a2.1, a2.2.1, a2.2.2.1, fun i hi => by rw [t1 (71 + 4) (by decide) (by decide)]; exact a2.2.2.2.1 i hi, a2.2.2.2.2⟩, a3, a4, a5.fr (fun j _ => by rw [t1 83 (by decide) (by decide)]) (fun i _ => by rw [t1 85 (by decide) (by decide)]) (fun i _ => by rw [t1 86 (by decide) (by decide)]) (fun _ _ _ _ => rfl), by rw [t70 13 (by decide)]; exact a6, fun e he => by rw [t1 90 (by decide) (by decide)]; exact a7 e he, fun i h1 h2 => by rw [t1 91 (by decide) (by decide)]; exact a8 i h1 h2, by rw [t1 79 (by decide) (by decide)]; exact a9⟩, ⟨fun i hi => ?_, fun i hi => by rw [t1 93 (by decide) (by decide)]; exact d2 i hi, d3.fr (fun j _ => by rw [t1 87 (by decide) (by decide)]) (fun i _ => by rw [t1 88 (by decide) (by decide)]) (fun i _ => by rw [t1 89 (by decide) (by decide)]) (fun _ _ _ _ => rfl), by rw [t70 14 (by decide)]; exact d4, fun z hz => by rw [t1 77 (by decide) (by decide)]; exact d5 z hz, by rw [t1 76 (by decide) (by decide), t1 77 (by decide) (by decide)]; exact d6, fun c hc => by rw [t1 78 (by decide) (by decide)]; exact d7 c hc, fun c hc => by rw [t1 80 (by decide) (by decide)]; exact d8 c hc⟩, fun i h1 h2 => absurd h2 (Nat.not_lt.mpr h1), by rw [t70 18 (by decide)]; exact i4⟩, fun i hi => ?_, by show (uI (uI τ 92 (xN y) (nI (xM y))) 70 17 1).1 70 17 = 1; rw [g_I, if_pos ⟨rfl, rfl⟩]⟩, r6, r7⟩
    · have hi : i < xN y := hi
      show τ'.1 92 i = nI (at1 (xA y) (xN y) (xM y) i)
      rw [t92, if_neg (by omega), at1_n (by omega)]
      exact d1 i hi
    · have hi : i < xN y + 1 := hi
      show τ'.1 92 i = nI (at1 (xA y) (xN y) (xM y) i)
      rw [t92]
      by_cases q : i = xN y
      · rw [if_pos q, q, at1_s]
      · rw [if_neg q, at1_n q]
        exact d1 i (by omega)
end TD

