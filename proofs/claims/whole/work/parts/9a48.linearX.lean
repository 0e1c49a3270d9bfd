/-! THE HISTORY, the class's side: linear. -/
abbrev frG (s s' : qS) : Prop := (∀ a, (a < 125 ∨ 150 < a) → s'.1 a = s.1 a) ∧ s'.2 = s.2
theorem frG.tr {s t u : qS} (h : frG s t) (g : frG t u) : frG s u := ⟨fun a ha => (g.1 a ha).trans (h.1 a ha), g.2.trans h.2⟩
abbrev tdI (s : qS) (M : List Nat) : Prop := s.1 125 6 = nI M.length ∧ M.length ≤ 12 ∧ ∀ e, e < M.length → s.1 150 e = nI (M.reverse.getD e 0)
abbrev tdK (s s' : qS) : Prop := s'.1 125 6 = s.1 125 6 ∧ s'.1 150 = s.1 150
abbrev tdQ (s s' : qS) (o : Option (List Nat)) : Prop := (∀ M, o = some M → tdI s' M) ∧ (o = none → tdK s s')
section LX
variable {en : pN} {d st n len p nc nl nt w u' : Nat} {C P f : Nat → fI} {H0 N : fI} {s τ : qS} {ki ai u : Int32} {x y : gaT}
theorem x_arr35 (hn : n ≤ 12) (hst : st ≤ 3) (hC : ∀ c, c < n → C 4 c < 0 ∨ ¬ C 4 c < 0) : ∀ (k i : Nat) (s : qS) (L : List Nat), i + k = n → s.1 125 8 = nI n → s.1 125 10 = nI st → (∀ r, r < 6 → s.1 (127 + r) = C r) → upd (s.1 134) 0 0 = H0 → (∀ j, j ∈ L ↔ j < i ∧ ¬ C 4 j < 0) → MK (s.1 125 9) L → ∃ s', L_X1_arrange_35 en (d + 27) (nI i) s = some (some (.int (bt (srch st C H0 n 12 []).isSome)), s') ∧ frG s s' ∧ tdQ s s' (srch st C H0 n 12 []) := by
  intro k
  induction k with
  | zero =>
    intro i s L hi h8 h10 hr h134 hL hm
    obtain rfl : i = n := by omega
    have F0 : ∀ a, a ≠ 134 → a ≠ 147 → (uI (uI s 134 0 (0 : Int32)) 147 0 (0 : Int32)).1 a = s.1 a := fun a h1 h2 => (uI_ne h2).trans (uI_ne h1)
    obtain ⟨s', e1, e2, e3⟩ := x_ext (en := en) (d := d) (st := st) (C := C) (H0 := H0) (RL := L) hn hst hL 12 [] 0 (uI (uI s 134 0 (0 : Int32)) 147 0 (0 : Int32)) rfl ⟨by rw [F0 125 (by decide) (by decide)]; exact h8, by rw [F0 125 (by decide) (by decide)]; exact h10, fun r hr' => by rw [F0 _ (by omega) (by omega)]; exact hr r hr', by rw [F0 125 (by decide) (by decide)]; exact hm, MK_nil, fun k _ => by
        show (uI (uI s 134 0 (0 : Int32)) 147 0 (0 : Int32)).1 134 k = H0 k
        rw [uI_ne (by decide), uI_row, h134], by
        show (uI (uI s 134 0 (0 : Int32)) 147 0 (0 : Int32)).1 147 0 = nI 0
        rw [g_I, if_pos ⟨rfl, rfl⟩]; rfl, fun e he => absurd he (Nat.not_lt_zero e), fun i hi => by cases hi⟩
    have G0 : frG s s' := ⟨fun a ha => (e2.1 a (by omega) (by omega) (by omega) (by show a ≤ 134 + 0 ∨ _; omega)).trans (F0 a (by omega) (by omega)), e2.2.2.2.2⟩
    have start : ∀ r, bI (qev en (d + 27) 14 [.ref 125, .int (0 : Int32), .int (0 : Int32)] (uI (uI s 134 0 (0 : Int32)) 147 0 (0 : Int32))) (fun w4 s5 => if ¬ w4 = (0 : Int32) then gd (cpG (0 : Int32) (0 : Int32) (s5.1 125 7) 12 12) (nm (uIr s5 150 (va_cpy (s5.1 149) (s5.1 150) (0 : Int32).toNatClampNeg (0 : Int32).toNatClampNeg (s5.1 125 7).toNatClampNeg)) (fun s9 => nm (uI s9 125 6 (s9.1 125 7)) (fun s10 => some (some (.int (1 : Int32)), s10)))) else some (some (.int (0 : Int32)), s5)) = some r → L_X1_arrange_35 en (d + 27) (nI i) s = some r := by
      intro r hh
      refine le_X1_arrange_35 en _ _ _ _ ?_
      rw [h8, if_pos (by rw [n_LE (by omega) (by omega)]; omega)]
      exact hh
    have e1 : qev en (d + 27) 14 [.ref 125, .int (0 : Int32), .int (0 : Int32)] (uI (uI s 134 0 (0 : Int32)) 147 0 (0 : Int32)) = some (some (.int (bt (srch st C H0 i 12 []).isSome)), s') := e1
    cases hS : srch st C H0 i 12 [] with
    | none =>
      refine ⟨s', start _ ?_, G0, ⟨fun M hM => (by cases hM), fun _ => ⟨(e2.2.1 6 (by decide)).trans (by rw [F0 125 (by decide) (by decide)]), (e2.1 150 (by decide) (by decide) (by decide) (by decide)).trans (F0 150 (by decide) (by decide))⟩⟩⟩
      rw [e1, hS, bI_some]
      rfl
    | some M =>
      obtain ⟨a1, a2, a3⟩ := e3 M hS
      refine ⟨uI (uIr s' 150 (va_cpy (s'.1 149) (s'.1 150) (0 : Int32).toNatClampNeg (0 : Int32).toNatClampNeg (s'.1 125 7).toNatClampNeg)) 125 6 (s'.1 125 7), start _ ?_, G0.tr ⟨fun a ha => (uI_ne (by omega)).trans (uIr_ne (by omega)), rfl⟩, ⟨fun M' hM' => ?_, fun z => by cases z⟩⟩
      · rw [e1, hS, bI_some, if_pos (show ¬ bt (some M).isSome = 0 from show ¬ bt true = 0 by decide), gd_true ⟨⟨by decide, by decide, by rw [a1]; exact nI_pos (by omega)⟩, by rw [a1, n_cl (by omega), c0]; omega, by rw [a1, n_cl (by omega), c0]; omega⟩, nm_eq, nm_eq, uIr_ne (by decide)]
        rfl
      · cases hM'
        refine ⟨by rw [g_I, if_pos ⟨rfl, rfl⟩]; exact a1, a2, fun e he => ?_⟩
        rw [uI_ne (by decide), uIr_row, a1, n_cl (by omega)]
        show (if 0 ≤ e ∧ e < 0 + M.length then s'.1 149 (0 + (e - 0)) else s'.1 150 e) = _
        rw [if_pos ⟨Nat.zero_le _, by omega⟩, show 0 + (e - 0) = e by omega]
        exact a3 e he
  | succ k ih =>
    intro i s L hi h8 h10 hr h134 hL hm
    have e4 : s.1 131 = C 4 := hr 4 (by decide)
    by_cases a : C 4 i < 0
    · obtain ⟨s', e1, e2⟩ := ih (i + 1) s L (by omega) h8 h10 hr h134 (fun j => by
        rw [hL]
        refine and_congr_left fun z => ⟨fun w => by omega, fun w => ?_⟩
        by_cases q : j = i
        · exact absurd (q ▸ a) z
        · omega) hm
      refine ⟨s', le_X1_arrange_35 en _ _ _ _ ?_, e2⟩
      rw [h8, if_neg (by rw [n_LE (by omega) (by omega)]; omega), gd_true (n_in (by omega) (by decide)), n_cl (by omega), e4, if_pos a, n_ar]
      exact e1
    · have U : ∀ v b, b ≠ 125 → (uI s 125 9 v).1 b = s.1 b := fun v b hb => uI_ne hb
      have U2 : ∀ v k, k ≠ 9 → (uI s 125 9 v).1 125 k = s.1 125 k := fun v k hk => by rw [g_I, if_neg (fun z => hk z.2)]
      obtain ⟨s', e1, e2, e3⟩ := ih (i + 1) (uI s 125 9 ((s.1 125 9) ||| ((1 : Int32) <<< (nI i &&& 31)))) (i :: L) (by omega) ((U2 _ 8 (by decide)).trans h8) ((U2 _ 10 (by decide)).trans h10) (fun r hr' => (U _ _ (by omega)).trans (hr r hr')) (by rw [U _ 134 (by decide)]; exact h134) (fun j => by
        rw [List.mem_cons, hL]
        constructor
        · rintro (z | ⟨z, w⟩)
          · subst z; exact ⟨by omega, a⟩
          · exact ⟨by omega, w⟩
        · rintro ⟨z, w⟩
          by_cases q : j = i
          · exact Or.inl q
          · exact Or.inr ⟨by omega, w⟩) (by
        rw [g_I, if_pos ⟨rfl, rfl⟩]
        exact MK_cons hm (by omega))
      refine ⟨s', le_X1_arrange_35 en _ _ _ _ ?_, ⟨fun b hb => (e2.1 b hb).trans (U _ b (by omega)), e2.2⟩, ⟨e3.1, fun z => ⟨(e3.2 z).1.trans (U2 _ 6 (by decide)), (e3.2 z).2.trans (U _ 150 (by decide))⟩⟩⟩
      rw [h8, if_neg (by rw [n_LE (by omega) (by omega)]; omega), gd_true (n_in (by omega) (by decide)), n_cl (by omega), e4, if_neg a, nm_eq, n_ar]
      exact e1
theorem gS_k {σ : qS} {n : Int32} {O : fI} {k : Nat} (hk : k ≠ 8) : (gS σ n C O).1 125 k = σ.1 125 k := by
  show (if 127 ≤ 125 ∧ 125 < 133 then C (125 - 127) k else if (125 : Nat) = 148 then O k else if (125 : Nat) = 125 ∧ k = 8 then n else σ.1 125 k) = _
  rw [if_neg (by omega), if_neg (by omega), if_neg (fun z => hk z.2)]
theorem gaK_g : ∀ (m i : Nat) (x : gaT), i + m ≤ 200 → gaK x i → gth P f ki ai m i x = some y → gaK y (i + m) := by
  intro m
  induction m with
  | zero => intro i x _ h e; cases e; exact h
  | succ m ih =>
    intro i x hi h e
    have e' : (match gstep P f ki ai i x with
      | none => none
      | some y => gth P f ki ai m (i + 1) y) = some y := e
    cases hs : gstep P f ki ai i x with
    | none => rw [hs] at e'; cases e'
    | some z =>
      rw [hs] at e'
      have := ih (i + 1) z (by omega) (gaK_s h (by omega) hs) e'
      rwa [show i + (m + 1) = i + 1 + m by omega]
/-- what linear says, and the order that it tells -/
def linH (P f : Nat → fI) (len st : Nat) (C0 : Nat → fI) (O H0 : fI) : Int32 × Option (List Nat) :=
  match gth P f (kiS st) (aiS st) len 0 (0, C0, O) with
  | none => (-2, none)
  | some y => if y.1 ≤ 12 then (bt (srch st y.2.1 H0 y.1 12 []).isSome, srch st y.2.1 H0 y.1 12 []) else (-3, none)
theorem x_linear (h : RXi τ p P w N len f) (hlen : len ≤ 200) (h16 : τ.1 (p + 16) = P 16) (hft : ∀ i, i < len → ∃ t, t < 4 ∧ f 0 i = nI t) (hfl : ∀ i, i < len → f 3 i = 15 → ∃ l, l < 100 ∧ f 2 i = nI l) :
    ((u < 0 ∨ 3 < u) → qev en (d + 29) 218 [.ref 0, .int u] τ = some (some (.int (-1)), τ)) ∧ (∀ st, st ≤ 3 → u = nI st → ∃ τ', qev en (d + 29) 218 [.ref 0, .int u] τ = some (some (.int (linH P f len st (fun r => τ.1 (127 + r)) (fl4 (τ.1 148) 4) (upd (τ.1 134) 0 0)).1), τ') ∧ frG τ τ' ∧ tdQ τ τ' (linH P f len st (fun r => τ.1 (127 + r)) (fl4 (τ.1 148) 4) (upd (τ.1 134) 0 0)).2) := by
  obtain ⟨hB, h113, h112, h3, h4, hf, -⟩ := h
  refine ⟨fun hu => ?_, fun st hst hu => ?_⟩
  · refine le_X11_linear en _ _ _ _ ?_
    rw [if_neg h4]
    by_cases a : u < 0
    · rw [if_pos a]
    · rw [if_neg a, if_neg (Int32.not_le.mpr (hu.resolve_left a))]
  · subst hu
    have T : ∀ b, b ≠ 125 → (uI τ 125 10 (nI st)).1 b = τ.1 b := fun b hb => uI_ne hb
    have T2 : ∀ k, k ≠ 10 → (uI τ 125 10 (nI st)).1 125 k = τ.1 125 k := fun k hk => by rw [g_I, if_neg (fun z => hk z.2)]
    have hp2 : p = 11 ∨ p = 36 := hB.2.1
    have eC : (fun r => (uI τ 125 10 (nI st)).1 (127 + r)) = fun r => τ.1 (127 + r) := funext fun r => T _ (by omega)
    obtain ⟨g1, g2⟩ := x_gather (en := en) (d := d + 25) (σ := uI τ 125 10 (nI st)) (P := P) (f := f) (p := p) (len := len) (ki := kiS st) (ai := aiS st) (st := st) (fun k hk => (T _ (by omega)).trans (hf k hk)) (by rw [T 111 (by decide)]; exact h3) hlen hB.2.2.1 (xb_lp hB) hp2 (by rw [T _ (by omega)]; exact h16) hst (by rw [g_I, if_pos ⟨rfl, rfl⟩]) rfl rfl hft hfl
    rw [eC, T 148 (by decide)] at g1 g2
    have start : ∀ r, bI (qev en (d + 27) 12 [.ref 125, .ref 111] (uI τ 125 10 (nI st))) (fun w2 s3 => if ¬ w2 = (0 : Int32) then if (s3.1 125 8) ≤ (12 : Int32) then nm (uI s3 125 9 (0 : Int32)) (fun s7 => L_X1_arrange_35 en (d + 27) (0 : Int32) s7) else some (some (.int (-3 : Int32)), s3) else some (some (.int (-2 : Int32)), s3)) = some r → (∃ z, r.1 = some (.int z)) → qev en (d + 29) 218 [.ref 0, .int (nI st)] τ = some r := by
      rintro ⟨r1, r2⟩ hh ⟨z, hz⟩
      have hz : r1 = some (.int z) := hz
      subst hz
      refine le_X11_linear en (d + 28) _ _ _ ?_
      rw [if_neg h4, if_neg (nI_pos (by omega)), if_pos (by rw [n_ge (by omega) (by omega)]; omega)]
      rw [le_X1_arrange en (d + 27) _ _ _ (by rw [nm_eq]; exact hh), bI_some]
    unfold linH
    cases hg : gth P f (kiS st) (aiS st) len 0 (0, (fun r => τ.1 (127 + r)), fl4 (τ.1 148) 4) with
    | none =>
      obtain ⟨y, e⟩ := g1 hg
      refine ⟨_, start _ (by rw [e, bI_some]; rfl) ⟨_, rfl⟩, ⟨fun a ha => (gS_o (by omega) (by omega) (by omega)).trans (T a (by omega)), rfl⟩, ⟨fun M hM => (by cases hM), fun _ => ⟨(gS_k (by decide)).trans (T2 6 (by decide)), (gS_o (by decide) (by decide) (by decide)).trans (T 150 (by decide))⟩⟩⟩
    | some y =>
      have e := g2 y hg
      have hy := gaK_g len 0 _ (by omega) (show gaK (0, (fun r => τ.1 (127 + r)), fl4 (τ.1 148) 4) 0 from ⟨Nat.le_refl 0, fun t ht => Or.inl (by show (if t < 4 then -1 else τ.1 148 t) < 0; rw [if_pos ht]; decide)⟩) hg
      have hy1 : y.1 ≤ 200 := by have := hy.1; omega
      have FG : frG τ (gS (uI τ 125 10 (nI st)) (nI y.1) y.2.1 y.2.2) := ⟨fun a ha => (gS_o (by omega) (by omega) (by omega)).trans (T a (by omega)), rfl⟩
      have KG : tdK τ (gS (uI τ 125 10 (nI st)) (nI y.1) y.2.1 y.2.2) := ⟨(gS_k (by decide)).trans (T2 6 (by decide)), (gS_o (by decide) (by decide) (by decide)).trans (T 150 (by decide))⟩
      show ∃ τ', qev en (d + 29) 218 [.ref 0, .int (nI st)] τ = some (some (.int (if y.1 ≤ 12 then _ else _ : Int32 × Option (List Nat)).1), τ') ∧ _ ∧ tdQ τ τ' (if y.1 ≤ 12 then _ else _ : Int32 × Option (List Nat)).2
      by_cases q : y.1 ≤ 12
      · rw [if_pos q]
        have V : ∀ b, b ≠ 125 → (uI (gS (uI τ 125 10 (nI st)) (nI y.1) y.2.1 y.2.2) 125 9 (0 : Int32)).1 b = (gS (uI τ 125 10 (nI st)) (nI y.1) y.2.1 y.2.2).1 b := fun b hb => uI_ne hb
        have V2 : ∀ k, k ≠ 9 → (uI (gS (uI τ 125 10 (nI st)) (nI y.1) y.2.1 y.2.2) 125 9 (0 : Int32)).1 125 k = (gS (uI τ 125 10 (nI st)) (nI y.1) y.2.1 y.2.2).1 125 k := fun k hk => by rw [g_I, if_neg (fun z => hk z.2)]
        obtain ⟨s', a1, a2, a3⟩ := x_arr35 (en := en) (d := d) (n := y.1) (st := st) (C := y.2.1) (H0 := upd (τ.1 134) 0 0) q hst (fun c _ => Decidable.em _) y.1 0 (uI (gS (uI τ 125 10 (nI st)) (nI y.1) y.2.1 y.2.2) 125 9 (0 : Int32)) [] (by omega) ((V2 8 (by decide)).trans gS_n) ((V2 10 (by decide)).trans ((gS_k (by decide)).trans (by rw [g_I, if_pos ⟨rfl, rfl⟩]))) (fun r hr => (V _ (by omega)).trans (gS_C hr)) (by rw [V 134 (by decide), gS_o (by decide) (by decide) (by decide), T 134 (by decide)]) (fun j => ⟨fun z => (by cases z), fun z => absurd z.1 (Nat.not_lt_zero j)⟩) (by rw [g_I, if_pos ⟨rfl, rfl⟩]; exact MK_nil)
        refine ⟨s', start _ ?_ ⟨_, rfl⟩, FG.tr ⟨fun a ha => (a2.1 a ha).trans (V a (by omega)), a2.2⟩, ⟨a3.1, fun z => ⟨((a3.2 z).1.trans (V2 6 (by decide))).trans KG.1, ((a3.2 z).2.trans (V 150 (by decide))).trans KG.2⟩⟩⟩
        rw [e, bI_some, if_pos (by decide), gS_n, if_pos (by rw [n_ge (by decide) (by omega)]; exact q), nm_eq]
        exact a1
      · rw [if_neg q]
        refine ⟨_, start _ ?_ ⟨_, rfl⟩, FG, ⟨fun M hM => (by cases hM), fun _ => KG⟩⟩
        rw [e, bI_some, if_pos (by decide), gS_n, if_neg (by rw [n_ge (by decide) (by omega)]; exact q)]
theorem x_ordered {M : List Nat} (h : tdI τ M) : qev en (d + 1) 219 [.ref 0, .int u] τ = some (some (.int (if u < 0 then -2 else if u < nI M.length then nI (M.reverse.getD (clp u) 0) else -2)), τ) := by
  obtain ⟨h1, h2, h3⟩ := h
  refine le_X11_ordered en _ _ _ _ ?_
  by_cases a : u < 0
  · rw [if_pos a, if_pos a]
  · rw [if_neg a, if_neg a, h1]
    by_cases b : u < nI M.length
    · rw [if_pos b, if_pos b]
      obtain ⟨k, hk0, rfl⟩ := nI_of a
      have hk : k < M.length := by rw [n_LT hk0 (by omega)] at b; exact b
      rw [gd_true (n_in (by omega) (by decide)), n_cl (by omega), h3 k hk, show clp (nI k) = k from n_clp (by omega)]
    · rw [if_neg b, if_neg b]
end LX
