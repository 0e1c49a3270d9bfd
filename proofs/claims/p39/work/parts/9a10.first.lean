/-! THE FIRST STATE of both. -/
def zr (M : fI) : fI := fun j => if j < 236 then 0 else M j
def fc (P : Nat → fI) (w : Nat) (N : fI) : Nat → fI
  | 0 => N
  | c + 1 => if w = 2 then upd (upd (upd (fc P w N c) (48 + c) (P 4 c)) (72 + c) 1) (80 + c * 9) (P 4 c) else upd (fc P w N c) (48 + c) (P 4 c)
def fl (N : fI) : Nat → fI
  | 0 => N
  | l + 1 => upd (fl N l) (40 + l) (-1)
def ft (P : Nat → fI) (nt : Nat) (N : fI) : Nat → fI
  | 0 => N
  | t + 1 => if t < nt ∧ isL P t = false then gto (upd (ft P nt N t) (4 + t) (-1)) t (P 5 t) else upd (ft P nt N t) (4 + t) (-1)
def fst0 (P : Nat → fI) (w nc nt : Nat) (M : fI) : fI := ft P nt (fl (fc P w (zr M) nc) 4) 4
theorem ite_cg {α : Type} {C D : Prop} [Decidable C] [Decidable D] {x x' y y' : α} (h : C ↔ D) (h1 : x = x') (h2 : y = y') : (if C then x else y) = if D then x' else y' := by
  subst h1 h2
  by_cases c : C
  · rw [if_pos c, if_pos (h.mp c)]
  · rw [if_neg c, if_neg (fun z => c (h.mpr z))]
theorem fc_at {P : Nat → fI} {w : Nat} {N : fI} : ∀ c j : Nat, c ≤ 8 → fc P w N c j = if 48 ≤ j ∧ j < 48 + c then P 4 (j - 48) else if w = 2 ∧ 72 ≤ j ∧ j < 72 + c then 1 else if w = 2 ∧ 80 ≤ j ∧ j < 80 + 9 * c ∧ (j - 80) % 9 = 0 then P 4 ((j - 80) / 9) else N j := by
  intro c
  induction c with
  | zero =>
    intro j _
    rw [if_neg (by omega), if_neg (by omega), if_neg (by omega)]
    rfl
  | succ c ih =>
    intro j hc
    have h := ih j (by omega)
    by_cases h2 : w = 2
    · rw [show fc P w N (c + 1) = upd (upd (upd (fc P w N c) (48 + c) (P 4 c)) (72 + c) 1) (80 + c * 9) (P 4 c) from if_pos h2]
      by_cases a1 : j = 80 + c * 9
      · rw [a1, pk_us, if_neg (by omega), if_neg (by omega), if_pos (by omega), show (80 + c * 9 - 80) / 9 = c by omega]
      · rw [pk_un a1]
        by_cases a2 : j = 72 + c
        · rw [a2, pk_us, if_neg (by omega), if_pos (by omega)]
        · rw [pk_un a2]
          by_cases a3 : j = 48 + c
          · rw [a3, pk_us, if_pos (by omega), show 48 + c - 48 = c by omega]
          · rw [pk_un a3, h]
            exact ite_cg (by omega) rfl (ite_cg (by omega) rfl (ite_cg (by omega) rfl rfl))
    · rw [show fc P w N (c + 1) = upd (fc P w N c) (48 + c) (P 4 c) from if_neg h2]
      by_cases a3 : j = 48 + c
      · rw [a3, pk_us, if_pos (by omega), show 48 + c - 48 = c by omega]
      · rw [pk_un a3, h]
        exact ite_cg (by omega) rfl (ite_cg (by omega) rfl (ite_cg (by omega) rfl rfl))
theorem fl_at {N : fI} : ∀ l j : Nat, fl N l j = if 40 ≤ j ∧ j < 40 + l then -1 else N j := by
  intro l
  induction l with
  | zero => intro j; rw [if_neg (by omega)]; rfl
  | succ l ih =>
    intro j
    show upd (fl N l) (40 + l) (-1) j = _
    by_cases h : j = 40 + l
    · rw [h, pk_us, if_pos (by omega)]
    · rw [pk_un h, ih j]
      by_cases b : 40 ≤ j ∧ j < 40 + l
      · rw [if_pos b, if_pos (by omega)]
      · rw [if_neg b, if_neg (by omega)]
theorem ft_at {P : Nat → fI} {nt : Nat} {N : fI} : ∀ t j : Nat, t ≤ 4 → ft P nt N t j = if j < t ∧ j < nt ∧ isL P j = false then (if 0 ≤ P 5 j then 1 else 4) else if 4 ≤ j ∧ j < 4 + t then (if j - 4 < nt ∧ isL P (j - 4) = false then P 5 (j - 4) else -1) else N j := by
  intro t
  induction t with
  | zero => intro j _; rw [if_neg (by omega), if_neg (by omega)]; rfl
  | succ t ih =>
    intro j ht
    have h := ih j (by omega)
    have rest : j ≠ t → j ≠ 4 + t → ft P nt N t j = if j < t + 1 ∧ j < nt ∧ isL P j = false then (if 0 ≤ P 5 j then 1 else 4) else if 4 ≤ j ∧ j < 4 + (t + 1) then (if j - 4 < nt ∧ isL P (j - 4) = false then P 5 (j - 4) else -1) else N j := by
      intro a1 a2
      rw [h]
      refine ite_cg ⟨fun z => ⟨?_, z.2⟩, fun z => ⟨?_, z.2⟩⟩ rfl (ite_cg (by omega) rfl rfl)
      · have := z.1; omega
      · have := z.1; omega
    by_cases hc : t < nt ∧ isL P t = false
    · rw [show ft P nt N (t + 1) = gto (upd (ft P nt N t) (4 + t) (-1)) t (P 5 t) from if_pos hc]
      unfold gto
      by_cases a1 : j = t
      · rw [a1, pk_us]
        exact (if_pos ⟨by omega, hc⟩).symm
      · rw [pk_un a1]
        by_cases a2 : j = 4 + t
        · rw [a2, pk_us]
          exact ((if_neg (fun z => by have := z.1; omega)).trans ((if_pos (by omega)).trans (by rw [show 4 + t - 4 = t by omega, if_pos hc]))).symm
        · rw [pk_un a2, pk_un a2]; exact rest a1 a2
    · rw [show ft P nt N (t + 1) = upd (ft P nt N t) (4 + t) (-1) from if_neg hc]
      by_cases a2 : j = 4 + t
      · rw [a2, pk_us]
        exact ((if_neg (fun z => by have := z.1; omega)).trans ((if_pos (by omega)).trans (by rw [show 4 + t - 4 = t by omega, if_neg hc]))).symm
      · rw [pk_un a2]
        by_cases a1 : j = t
        · rw [h, a1]
          exact ((if_neg (fun z => by have := z.1; omega)).trans (if_neg (by omega))).trans ((if_neg (fun z => hc z.2)).trans (if_neg (by omega))).symm
        · exact rest a1 a2
section F0
variable {en : pN} {d m p t c k a w i n l u ch q o nc nl nt vv : Nat} {v x b : Int32} {σ : qS} {P : Nat → fI} {F N G R s y g : fI} {D : Int64}
theorem x_first (h1 : m = 71 ∨ m = 112) (h2 : p = 11 ∨ p = 36) (hPr : ∀ a, a < 25 → σ.1 (p + a) = P a) (h8 : lmN P ≤ 500 ∧ ∀ j, j < lmN P → σ.1 8 j = P 25 j) (h9 : ∀ j, j < lmN P → σ.1 9 j = P 26 j) (hw2 : w ≤ 2) (hc0 : P 0 9 = nI nc) (hc8 : nc ≤ 8) (ht0 : P 0 11 = nI nt) (ht4 : nt ≤ 4) : qev en (d + 2) 33 [.ref m, .ref p, .int (nI w)] (mS σ m F N b G) = some (none, mS (uR σ m 7 (p + 1)) m (upd F 8 (nI w)) (fst0 P w nc nt N) b G) := by
  have hB : XB (uR σ m 7 (p + 1)) m p P := by
    refine ⟨h1, h2, ?_, fun a ha => ?_, ?_, ?_⟩
    · show (if m = m ∧ 7 = 7 then p + 1 else σ.2.2 m 7) = p + 1
      rw [if_pos ⟨rfl, rfl⟩]
    · exact hPr a ha
    · exact h8
    · exact h9
  generalize hF : upd F 8 (nI w) = F1
  have hF8 : F1 8 = nI w := by rw [← hF, pk_us]
  -- threads
  have f119 : ∀ (k t : Nat) (M : fI), t + k = 4 → L_X3_enterFirst_119 en (d + 1) m (nI t) (mS (uR σ m 7 (p + 1)) m F1 (ft P nt M t) b G) = some (none, mS (uR σ m 7 (p + 1)) m F1 (ft P nt M 4) b G) := by
    intro k
    induction k with
    | zero =>
      intro t M hk
      obtain rfl : t = 4 := by omega
      refine le_X3_enterFirst_119 en (d + 1) m _ _ _ ?_
      rw [gd_true (xb_lm hB), if_pos (show (4 : Int32) ≤ nI 4 by decide)]
    | succ k ih =>
      intro t M hk
      have hi := ih (t + 1) M (by omega)
      refine le_X3_enterFirst_119 en (d + 1) m _ _ _ ?_
      simp (disch := omega) only [xb_lm hB, gdT, n_le, if_neg, n_al, n_in, n_cl, nm_eq, mS_wn, gdP (xb_lp hB), xb_R hB, Nat.add_sub_cancel, xb_P0 hB, ht0, n_LE, n_ar, xb_P hB (show 5 < 25 by decide)]
      by_cases htn : nt ≤ t
      · rw [if_pos htn]
        rw [show ft P nt M (t + 1) = upd (ft P nt M t) (4 + t) (-1) from if_neg (by omega)] at hi
        exact hi
      · rw [if_neg htn]
        by_cases hl : ((P 0 8 >>> (nI t &&& 31)) &&& (1 : Int32)) = 0
        · have hil : isL P t = false := by unfold isL; exact decide_eq_false (not_not_intro hl)
          rw [show ft P nt M (t + 1) = gto (upd (ft P nt M t) (4 + t) (-1)) t (P 5 t) from if_pos ⟨by omega, hil⟩] at hi
          rw [if_neg (not_not_intro hl), x_go hB (by omega), bV_some]
          exact hi
        · have hil : ¬ (t < nt ∧ isL P t = false) := fun z => by
            have := z.2
            unfold isL at this
            rw [decide_eq_true hl] at this
            cases this
          rw [show ft P nt M (t + 1) = upd (ft P nt M t) (4 + t) (-1) from if_neg hil] at hi
          rw [if_pos hl]
          exact hi
  have f96 : ∀ (k l : Nat) (M : fI), l + k = 4 → L_X3_enterFirst_96 en (d + 1) m (nI l) (mS (uR σ m 7 (p + 1)) m F1 (fl M l) b G) = some (none, mS (uR σ m 7 (p + 1)) m F1 (ft P nt (fl M 4) 4) b G) := by
    intro k
    induction k with
    | zero =>
      intro l M hk
      obtain rfl : l = 4 := by omega
      refine le_X3_enterFirst_96 en (d + 1) m _ _ _ ?_
      rw [gd_true (xb_lm hB), if_pos (show (4 : Int32) ≤ nI 4 by decide)]
      exact f119 4 0 _ rfl
    | succ k ih =>
      intro l M hk
      refine le_X3_enterFirst_96 en (d + 1) m _ _ _ ?_
      simp (disch := omega) only [xb_lm hB, gdT, n_le, if_neg, n_al, n_in, n_cl, nm_eq, mS_wn, n_ar]
      exact ih (l + 1) M (by omega)
  have f20 : ∀ (k c : Nat) (M : fI), c + k = nc → L_X3_enterFirst_20 en (d + 1) m (nI c) (mS (uR σ m 7 (p + 1)) m F1 (fc P w M c) b G) = some (none, mS (uR σ m 7 (p + 1)) m F1 (ft P nt (fl (fc P w M nc) 4) 4) b G) := by
    intro k
    induction k with
    | zero =>
      intro c M hk
      obtain rfl : c = nc := by omega
      refine le_X3_enterFirst_20 en (d + 1) m _ _ _ ?_
      simp (disch := omega) only [xb_lm hB, gdT, gdP (xb_lp hB), xb_R hB, Nat.add_sub_cancel, nm_eq, xb_P0 hB, hc0, n_LE, if_pos]
      exact f96 4 0 _ rfl
    | succ k ih =>
      intro c M hk
      have hi := ih (c + 1) M (by omega)
      refine le_X3_enterFirst_20 en (d + 1) m _ _ _ ?_
      simp (disch := omega) only [xb_lm hB, gdT, gdP (xb_lp hB), xb_R hB, Nat.add_sub_cancel, nm_eq, xb_P0 hB, hc0, n_LE, if_neg, n_al, n_in, n_cl, xb_P hB (show 4 < 25 by decide), mS_wn, mS_m, hF8, n_eq, n_ar, n_mr]
      by_cases hw : w = 2
      · rw [show fc P w M (c + 1) = upd (upd (upd (fc P w M c) (48 + c) (P 4 c)) (72 + c) 1) (80 + c * 9) (P 4 c) from if_pos hw] at hi
        rw [if_neg (not_not_intro hw)]
        exact hi
      · rw [show fc P w M (c + 1) = upd (fc P w M c) (48 + c) (P 4 c) from if_neg hw] at hi
        rw [if_pos hw]
        exact hi
  refine le_X3_enterFirst en (d + 1) m p _ _ _ ?_
  have eR : uR (mS σ m F N b G) m 7 (p + 1) = mS (uR σ m 7 (p + 1)) m F N b G := rfl
  have ef : (fun j => if j < 236 then (0 : Int32) else N j) = zr N := rfl
  rw [gd_true (xb_lm hB), gd_true (xb_lp hB), nm_eq, eR, nm_eq, mS_wm, hF, c_fillI (xb_ln hB) (by rw [xb_nn hB]; decide), bV_some, mS_wr, mS_n, xb_nn hB, ef]
  exact f20 nc 0 (zr N) (by omega)
/-- the first state by places -/
theorem f0_at {M : fI} (hc8 : nc ≤ 8) (j : Nat) : fst0 P w nc nt M j = if j < 4 ∧ j < nt ∧ isL P j = false then (if 0 ≤ P 5 j then 1 else 4) else if 4 ≤ j ∧ j < 8 then (if j - 4 < nt ∧ isL P (j - 4) = false then P 5 (j - 4) else -1) else if 40 ≤ j ∧ j < 44 then -1 else if 48 ≤ j ∧ j < 48 + nc then P 4 (j - 48) else if w = 2 ∧ 72 ≤ j ∧ j < 72 + nc then 1 else if w = 2 ∧ 80 ≤ j ∧ j < 80 + 9 * nc ∧ (j - 80) % 9 = 0 then P 4 ((j - 80) / 9) else if j < 236 then 0 else M j := by
  unfold fst0
  rw [ft_at 4 j (Nat.le_refl _), fl_at 4 j, fc_at nc j hc8]
  rfl
theorem f0_z {M : fI} (hc8 : nc ≤ 8) (j : Nat) (h0 : j < 236) (h1 : ¬ (j < 4 ∧ j < nt ∧ isL P j = false)) (h2 : ¬ (4 ≤ j ∧ j < 8)) (h3 : ¬ (40 ≤ j ∧ j < 44)) (h4 : ¬ (48 ≤ j ∧ j < 48 + nc)) (h5 : ¬ (w = 2 ∧ 72 ≤ j ∧ j < 72 + nc)) (h6 : ¬ (w = 2 ∧ 80 ≤ j ∧ j < 80 + 9 * nc ∧ (j - 80) % 9 = 0)) : fst0 P w nc nt M j = 0 := by
  rw [f0_at hc8 j, if_neg h1, if_neg h2, if_neg h3, if_neg h4, if_neg h5, if_neg h6, if_pos h0]
theorem f0_SV {M : fI} (hP : PV P nc nl nt n) (hw2 : w ≤ 2) (hin : ∀ c, c < nc → inR (P 4 c)) : SV P w nc nl nt n (fst0 P w nc nt M) := by
  obtain ⟨⟨hc0, hc8⟩, ⟨hl0, hl4⟩, ⟨ht0, ht4⟩, ⟨hn0, hn100⟩, hln, hth⟩ := hP
  have z : ∀ j, j < 236 → ¬ (j < 4 ∧ j < nt ∧ isL P j = false) → ¬ (4 ≤ j ∧ j < 8) → ¬ (40 ≤ j ∧ j < 44) → ¬ (48 ≤ j ∧ j < 48 + nc) → ¬ (w = 2 ∧ 72 ≤ j ∧ j < 72 + nc) → ¬ (w = 2 ∧ 80 ≤ j ∧ j < 80 + 9 * nc ∧ (j - 80) % 9 = 0) → fst0 P w nc nt M j = 0 := fun j => f0_z hc8 j
  have e4 : ∀ t, t < 4 → fst0 P w nc nt M (4 + t) = if t < nt ∧ isL P t = false then P 5 t else -1 := by
    intro t ht
    rw [f0_at hc8, if_neg (fun z => by have := z.1; omega), if_pos (by omega), show 4 + t - 4 = t by omega]
  have mem : ∀ c, c < nc → fst0 P w nc nt M (48 + c) = P 4 c := by
    intro c hc
    rw [f0_at hc8, if_neg (fun z => by have := z.1; omega), if_neg (by omega), if_neg (by omega), if_pos (by omega), show 48 + c - 48 = c by omega]
  have nbz : ∀ v : Int32, v = 0 → ∀ e, e < 8 → nb v e = 0 := fun v hv e he => by rw [hv]; exact nb_0 he
  refine ⟨⟨fun t ht => ?_, fun t h1 h2 => ⟨?_, ?_, ?_, ?_⟩⟩, fun t j ht hj => ?_, fun l hl => Or.inl ⟨?_, ?_⟩, fun c hc => ?_, fun t ht => ?_, ?_⟩
  · have z8 := z (8 + t) (by omega) (fun z => by have := z.1; omega) (by omega) (by omega) (by omega) (by omega) (by omega)
    have z12 := z (12 + t) (by omega) (fun z => by have := z.1; omega) (by omega) (by omega) (by omega) (by omega) (by omega)
    by_cases hL : isL P t = false
    · have est : fst0 P w nc nt M t = if 0 ≤ P 5 t then 1 else 4 := by rw [f0_at hc8, if_pos ⟨by omega, ht, hL⟩]
      have e4' := e4 t (by omega)
      rw [if_pos ⟨ht, hL⟩] at e4'
      rcases (hth t ht).1 with h | ⟨j, h, hj, h8⟩
      · rw [h] at est e4'
        exact Or.inl ⟨Or.inr est, e4', z8, z12⟩
      · rw [h] at est e4'
        rw [if_pos (nI_pos' (by omega))] at est
        exact Or.inr (Or.inl ⟨est, ⟨j, hj, e4', h8⟩, z8, z12⟩)
    · refine Or.inl ⟨Or.inl (z t (by omega) (fun z => hL z.2.2) (by omega) (by omega) (by omega) (by omega) (by omega)), ?_, z8, z12⟩
      rw [e4 t (by omega), if_neg (fun z => hL z.2)]
  · exact z t (by omega) (fun z => by have := z.2.1; omega) (by omega) (by omega) (by omega) (by omega) (by omega)
  · rw [e4 t h2, if_neg (fun z => by have := z.1; omega)]
  · exact z (8 + t) (by omega) (fun z => by have := z.1; omega) (by omega) (by omega) (by omega) (by omega) (by omega)
  · exact z (12 + t) (by omega) (fun z => by have := z.1; omega) (by omega) (by omega) (by omega) (by omega) (by omega)
  · have e := z (16 + t * 6 + j) (by omega) (fun z => by have := z.1; omega) (by omega) (by omega) (by omega) (by omega) (by omega)
    by_cases h : t < nt ∧ j < lct P t
    · exact Or.inl ⟨h.1, h.2, by rw [e]; exact ⟨by decide, by decide⟩⟩
    · exact Or.inr ⟨h, e⟩
  · rw [f0_at hc8, if_neg (fun z => by have := z.1; omega), if_neg (by omega), if_pos (by omega)]
  · exact z (44 + l) (by omega) (fun z => by have := z.1; omega) (by omega) (by omega) (by omega) (by omega) (by omega)
  · by_cases h : c < nc
    · exact Or.inl ⟨h, by rw [mem c h]; exact hin c h⟩
    · exact Or.inr ⟨by omega, z (48 + c) (by omega) (fun z => by have := z.1; omega) (by omega) (by omega) (by omega) (by omega) (by omega)⟩
  · have e := z (56 + t) (by omega) (fun z => by have := z.1; omega) (by omega) (by omega) (by omega) (by omega) (by omega)
    have e2 : ∀ k, k < 3 → fst0 P w nc nt M (60 + t * 3 + k) = 0 := fun k hk => z (60 + t * 3 + k) (by omega) (fun z => by have := z.1; omega) (by omega) (by omega) (by omega) (by omega) (by omega)
    by_cases h : w = 1 ∧ t < nt
    · exact Or.inl ⟨h.1, h.2, 0, e, by omega, fun k hk => Or.inr ⟨by omega, e2 k hk⟩⟩
    · exact Or.inr ⟨h, e, e2⟩
  · by_cases h2 : w = 2
    · have e72 : ∀ c, c < nc → fst0 P w nc nt M (72 + c) = nI 1 := by
        intro c hc
        rw [f0_at hc8, if_neg (fun z => by have := z.1; omega), if_neg (by omega), if_neg (by omega), if_neg (by omega), if_pos (by omega)]
        rfl
      have e80 : ∀ c k, c < nc → k < 9 → fst0 P w nc nt M (80 + c * 9 + k) = if k = 0 then P 4 c else 0 := by
        intro c k hc hk
        by_cases hk0 : k = 0
        · subst hk0
          rw [if_pos rfl, f0_at hc8, if_neg (fun z => by have := z.1; omega), if_neg (by omega), if_neg (by omega), if_neg (by omega), if_neg (by omega), if_pos (by omega), show (80 + c * 9 + 0 - 80) / 9 = c by omega]
        · rw [if_neg hk0]
          exact z _ (by omega) (fun z => by have := z.1; omega) (by omega) (by omega) (by omega) (by omega) (by omega)
      have e152 : ∀ j, 152 ≤ j → j < 236 → fst0 P w nc nt M j = 0 := fun j a b => z j b (fun z => by have := z.1; omega) (by omega) (by omega) (by omega) (by omega) (by omega)
      have vw : ∀ j, 152 ≤ j → j < 236 → vwV nc (fst0 P w nc nt M) (fst0 P w nc nt M j) := by
        intro j a b c hc
        by_cases h : c < nc
        · refine Or.inl ⟨h, ?_⟩
          rw [nbz _ (e152 j a b) c hc, e72 c h, n_clp (by decide)]
          decide
        · exact Or.inr ⟨by omega, nbz _ (e152 j a b) c hc⟩
      refine Or.inr ⟨h2, fun c hc => ?_, fun t ht => ?_, fun l hl => ?_, vw 232 (by decide) (by decide)⟩
      · by_cases h : c < nc
        · refine Or.inl ⟨h, 1, e72 c h, Nat.le_refl _, by decide, ?_, fun k hk => ?_⟩
          · rw [mem c h, e80 c 0 h (by decide), if_pos rfl]
          · by_cases hk0 : k = 0
            · refine Or.inl ⟨by omega, ?_, vw _ (by omega) (by omega)⟩
              rw [e80 c k h hk, if_pos hk0]
              exact hin c h
            · refine Or.inr ⟨by omega, ?_, e152 _ (by omega) (by omega)⟩
              rw [e80 c k h hk, if_neg hk0]
        · refine Or.inr ⟨by omega, z _ (by omega) (fun z => by have := z.1; omega) (by omega) (by omega) (by omega) (by omega) (by omega), fun k hk => ⟨z _ (by omega) (fun z => by have := z.1; omega) (by omega) (by omega) (by omega) (by omega) (by omega), e152 _ (by omega) (by omega)⟩⟩
      · by_cases h : t < nt
        · exact Or.inl ⟨h, vw _ (by omega) (by omega)⟩
        · exact Or.inr ⟨by omega, e152 _ (by omega) (by omega)⟩
      · by_cases h : l < nl
        · exact Or.inl ⟨h, vw _ (by omega) (by omega)⟩
        · exact Or.inr ⟨by omega, e152 _ (by omega) (by omega)⟩
    · exact Or.inl ⟨h2, fun j a b => z j (by omega) (fun z => by have := z.1; omega) (by omega) (by omega) (by omega) (by omega) (by omega)⟩
end F0

