/-! THE HISTORY, both sides: the calls are alike. -/
abbrev cR (ki : Int32) (C : Nat → fI) (s : qS) (c : Nat) : Prop := s.1 201 c = C 3 c ∧ s.1 202 c = (if C 4 c < 0 then 1000 else C 4 c) ∧ s.1 203 c = C 2 c ∧ (¬ C 4 c < 0 → s.1 204 c = C 5 c) ∧ s.1 205 c = (if C 1 c = ki then 0 else 1)
abbrev mR (ki : Int32) (x : gaT) (s : qS) : Prop := s.1 151 87 = nI x.1 ∧ (∀ t, t < 4 → (x.2.2 t < 0 ∧ s.1 206 t = -2) ∨ ∃ q, q < x.1 ∧ x.2.2 t = nI q ∧ s.1 206 t = nI q) ∧ ∀ c, c < x.1 → cR ki x.2.1 s c
/-- where calls began and had their reply -/
abbrev gaI (f : Nat → fI) (x : gaT) : Prop := ∀ c, c < x.1 → (∃ b, b < 200 ∧ x.2.1 3 c = nI b ∧ f 3 b = 15) ∧ (x.2.1 4 c < 0 ∨ ∃ e, e < 200 ∧ x.2.1 4 c = nI e ∧ f 3 e = 16)
section LD
variable {en : pN} {d st len i c t q m : Nat} {g f P : Nat → fI} {s : qS} {v w : Int32} {r : qR} {x y : gaT}
theorem stR_at {C : Nat → fI} {V : Nat → Int32} {j k r : Nat} (hr : r < 6) : stR C j V r k = if k = j then V r else C r k := by
  show (if r < 6 ∧ k = j then V r else C r k) = _
  by_cases a : k = j
  · rw [if_pos ⟨hr, a⟩, if_pos a]
  · rw [if_neg (fun z => a z.2), if_neg a]
theorem updR_at {C : Nat → fI} {j k r q : Nat} {v : Int32} : updR C q j v r k = if r = q ∧ k = j then v else C r k := rfl
/-- one step -/
theorem ly_s (hst : st ≤ 3) (hi : i < 200) (hgt : ∃ t, t < 4 ∧ f 0 i = nI t) (hx : gaK x i) (hm : mR (kiS st) x s) (hI : gaI f x) (hy : gstep P f (kiS st) (aiS st) i x = some y) : gaI f y ∧
    ((f 3 i = 15 ∧ ∃ t, t < 4 ∧ f 0 i = nI t ∧ s.1 206 t = -2 ∧ (P 16 (clp (f 2 i)) = kiS st ∨ P 16 (clp (f 2 i)) = aiS st) ∧ ∀ s', s' = cS s x.1 t (nI i) (f 5 i) (dsS st (P 16 (clp (f 2 i)))) → mR (kiS st) y s') ∨
     (f 3 i = 16 ∧ ∃ t q, t < 4 ∧ f 0 i = nI t ∧ q < 200 ∧ s.1 206 t = nI q ∧ ∀ s', s' = rplS s q t (nI i) (f 5 i) → mR (kiS st) y s') ∨
     (f 3 i ≠ 15 ∧ f 3 i ≠ 16 ∧ y = x)) := by
  obtain ⟨t, ht, et⟩ := hgt
  have ec : clp (f 0 i) = t := by rw [et]; exact n_clp (by omega)
  obtain ⟨m1, m2, m3⟩ := hm
  obtain ⟨x1, x2⟩ := hx
  unfold gstep at hy
  rw [ec] at hy
  by_cases a : f 3 i = 15
  · rw [if_pos a] at hy
    by_cases b : 0 ≤ x.2.2 t
    · rw [if_pos b] at hy; cases hy
    · rw [if_neg b] at hy
      have b' : x.2.2 t < 0 := Int32.not_le.mp b
      by_cases e : P 16 (clp (f 2 i)) = kiS st ∨ P 16 (clp (f 2 i)) = aiS st
      · rw [if_pos e] at hy
        cases hy
        have C3 : ∀ k, stR x.2.1 x.1 (gcV (f 0 i) (P 16 (clp (f 2 i))) (f 5 i) (nI i)) 3 k = if k = x.1 then nI i else x.2.1 3 k := fun k => stR_at (by decide)
        have C4 : ∀ k, stR x.2.1 x.1 (gcV (f 0 i) (P 16 (clp (f 2 i))) (f 5 i) (nI i)) 4 k = if k = x.1 then -1 else x.2.1 4 k := fun k => stR_at (by decide)
        have C1 : ∀ k, stR x.2.1 x.1 (gcV (f 0 i) (P 16 (clp (f 2 i))) (f 5 i) (nI i)) 1 k = if k = x.1 then P 16 (clp (f 2 i)) else x.2.1 1 k := fun k => stR_at (by decide)
        have C2 : ∀ k, stR x.2.1 x.1 (gcV (f 0 i) (P 16 (clp (f 2 i))) (f 5 i) (nI i)) 2 k = if k = x.1 then f 5 i else x.2.1 2 k := fun k => stR_at (by decide)
        have C5 : ∀ k, stR x.2.1 x.1 (gcV (f 0 i) (P 16 (clp (f 2 i))) (f 5 i) (nI i)) 5 k = if k = x.1 then 0 else x.2.1 5 k := fun k => stR_at (by decide)
        refine ⟨fun c hc => ?_, Or.inl ⟨a, t, ht, et, ?_, e, fun s' hs' => ?_⟩⟩
        · have hc : c < x.1 + 1 := hc
          show (∃ b, b < 200 ∧ stR x.2.1 x.1 (gcV (f 0 i) (P 16 (clp (f 2 i))) (f 5 i) (nI i)) 3 c = nI b ∧ f 3 b = 15) ∧ (stR x.2.1 x.1 (gcV (f 0 i) (P 16 (clp (f 2 i))) (f 5 i) (nI i)) 4 c < 0 ∨ ∃ e, e < 200 ∧ stR x.2.1 x.1 (gcV (f 0 i) (P 16 (clp (f 2 i))) (f 5 i) (nI i)) 4 c = nI e ∧ f 3 e = 16)
          rw [C3, C4]
          by_cases q : c = x.1
          · rw [if_pos q, if_pos q]; exact ⟨⟨i, hi, rfl, a⟩, Or.inl (by decide)⟩
          · rw [if_neg q, if_neg q]; exact hI c (by omega)
        · rcases m2 t ht with z | ⟨q, z⟩
          · exact z.2
          · rw [z.2.1] at b'; exact absurd b' (nI_pos (by omega))
        · subst hs'
          have F : ∀ a, a ≠ 151 → a ≠ 201 → a ≠ 202 → a ≠ 203 → a ≠ 205 → a ≠ 206 → (cS s x.1 t (nI i) (f 5 i) (dsS st (P 16 (clp (f 2 i))))).1 a = s.1 a := fun a h1 h2 h3 h4 h5 h6 => by
            unfold cS
            rw [uI_ne h1, uI_ne h6, uI_ne h5, uI_ne h4, uI_ne h3, uI_ne h2]
          have r1 : ∀ k, (cS s x.1 t (nI i) (f 5 i) (dsS st (P 16 (clp (f 2 i))))).1 201 k = if k = x.1 then nI i else s.1 201 k := fun k => by
            unfold cS
            rw [uI_ne (by decide), uI_ne (by decide), uI_ne (by decide), uI_ne (by decide), uI_ne (by decide), uI_row]; rfl
          have r2 : ∀ k, (cS s x.1 t (nI i) (f 5 i) (dsS st (P 16 (clp (f 2 i))))).1 202 k = if k = x.1 then 1000 else s.1 202 k := fun k => by
            unfold cS
            rw [uI_ne (by decide), uI_ne (by decide), uI_ne (by decide), uI_ne (by decide), uI_row, uI_ne (by decide)]; rfl
          have r3 : ∀ k, (cS s x.1 t (nI i) (f 5 i) (dsS st (P 16 (clp (f 2 i))))).1 203 k = if k = x.1 then f 5 i else s.1 203 k := fun k => by
            unfold cS
            rw [uI_ne (by decide), uI_ne (by decide), uI_ne (by decide), uI_row, uI_ne (by decide), uI_ne (by decide)]; rfl
          have r5 : ∀ k, (cS s x.1 t (nI i) (f 5 i) (dsS st (P 16 (clp (f 2 i))))).1 205 k = if k = x.1 then dsS st (P 16 (clp (f 2 i))) else s.1 205 k := fun k => by
            unfold cS
            rw [uI_ne (by decide), uI_ne (by decide), uI_row, uI_ne (by decide), uI_ne (by decide), uI_ne (by decide)]; rfl
          have r6 : ∀ k, (cS s x.1 t (nI i) (f 5 i) (dsS st (P 16 (clp (f 2 i))))).1 206 k = if k = t then nI x.1 else s.1 206 k := fun k => by
            unfold cS
            rw [uI_ne (by decide), uI_row, uI_ne (by decide), uI_ne (by decide), uI_ne (by decide), uI_ne (by decide)]; rfl
          refine ⟨by unfold cS; rw [g_I, if_pos ⟨rfl, rfl⟩], fun u hu => ?_, fun c hc => ?_⟩
          · rw [r6]
            show (upd x.2.2 _ (nI x.1) u < 0 ∧ _) ∨ ∃ q, q < x.1 + 1 ∧ upd x.2.2 _ (nI x.1) u = nI q ∧ _
            by_cases q : u = t
            · right
              rw [if_pos q, q, pk_us]
              exact ⟨x.1, Nat.lt_succ_self _, rfl, rfl⟩
            · rw [if_neg q, pk_un q]
              exact (m2 u hu).imp id (fun ⟨z, z1, z2⟩ => ⟨z, by omega, z2⟩)
          · have hc : c < x.1 + 1 := hc
            show cR (kiS st) (stR x.2.1 x.1 (gcV (f 0 i) (P 16 (clp (f 2 i))) (f 5 i) (nI i))) _ c
            unfold cR
            rw [C3, C4, C1, C2, C5, r1, r2, r3, r5]
            by_cases q : c = x.1
            · rw [if_pos q, if_pos q, if_pos q, if_pos q, if_pos q, if_pos q, if_pos q, if_pos q, if_pos q]
              refine ⟨rfl, by rw [if_pos (by decide)], rfl, fun z => absurd (by decide) z, ?_⟩
              unfold dsS
              by_cases z : P 16 (clp (f 2 i)) = kiS st
              · rw [if_pos z, if_pos z]
              · rw [if_neg z, if_neg z, if_pos (e.resolve_left z)]
            · rw [if_neg q, if_neg q, if_neg q, if_neg q, if_neg q, if_neg q, if_neg q, if_neg q, if_neg q, F 204 (by decide) (by decide) (by decide) (by decide) (by decide) (by decide)]
              exact m3 c (by omega)
      · rw [if_neg e] at hy; cases hy
  · rw [if_neg a] at hy
    by_cases b : f 3 i = 16
    · rw [if_pos b] at hy
      by_cases o : 0 ≤ x.2.2 t
      · rw [if_pos o] at hy
        cases hy
        obtain ⟨q, hq1, hq2, hq3⟩ := (m2 t ht).resolve_left (fun z => absurd z.1 (Int32.not_lt.mpr o))
        have cq : clp (x.2.2 t) = q := by rw [hq2]; exact n_clp (by omega)
        rw [cq]
        have C3 : ∀ k, updR (updR x.2.1 4 q (nI i)) 5 q (f 5 i) 3 k = x.2.1 3 k := fun k => by rw [updR_at, if_neg (by omega), updR_at, if_neg (by omega)]
        have C4 : ∀ k, updR (updR x.2.1 4 q (nI i)) 5 q (f 5 i) 4 k = if k = q then nI i else x.2.1 4 k := fun k => by
          rw [updR_at, if_neg (by omega), updR_at]
          by_cases z : k = q
          · rw [if_pos ⟨rfl, z⟩, if_pos z]
          · rw [if_neg (fun w => z w.2), if_neg z]
        have C1 : ∀ k, updR (updR x.2.1 4 q (nI i)) 5 q (f 5 i) 1 k = x.2.1 1 k := fun k => by rw [updR_at, if_neg (by omega), updR_at, if_neg (by omega)]
        have C2 : ∀ k, updR (updR x.2.1 4 q (nI i)) 5 q (f 5 i) 2 k = x.2.1 2 k := fun k => by rw [updR_at, if_neg (by omega), updR_at, if_neg (by omega)]
        have C5 : ∀ k, updR (updR x.2.1 4 q (nI i)) 5 q (f 5 i) 5 k = if k = q then f 5 i else x.2.1 5 k := fun k => by
          rw [updR_at]
          by_cases z : k = q
          · rw [if_pos ⟨rfl, z⟩, if_pos z]
          · rw [if_neg (fun w => z w.2), if_neg z, updR_at, if_neg (by omega)]
        refine ⟨fun c hc => ?_, Or.inr (Or.inl ⟨b, t, q, ht, et, by omega, hq3, fun s' hs' => ?_⟩)⟩
        · have hc : c < x.1 := hc
          show (∃ b, b < 200 ∧ updR (updR x.2.1 4 q (nI i)) 5 q (f 5 i) 3 c = nI b ∧ f 3 b = 15) ∧ (updR (updR x.2.1 4 q (nI i)) 5 q (f 5 i) 4 c < 0 ∨ ∃ e, e < 200 ∧ updR (updR x.2.1 4 q (nI i)) 5 q (f 5 i) 4 c = nI e ∧ f 3 e = 16)
          rw [C3, C4]
          refine ⟨(hI c hc).1, ?_⟩
          by_cases z : c = q
          · rw [if_pos z]; exact Or.inr ⟨i, hi, rfl, b⟩
          · rw [if_neg z]; exact (hI c hc).2
        · subst hs'
          have F : ∀ a, a ≠ 202 → a ≠ 204 → a ≠ 206 → (rplS s q t (nI i) (f 5 i)).1 a = s.1 a := fun a h1 h2 h3 => by
            unfold rplS
            rw [uI_ne h3, uI_ne h2, uI_ne h1]
          have r2 : ∀ k, (rplS s q t (nI i) (f 5 i)).1 202 k = if k = q then nI i else s.1 202 k := fun k => by
            unfold rplS
            rw [uI_ne (by decide), uI_ne (by decide), uI_row]; rfl
          have r4 : ∀ k, (rplS s q t (nI i) (f 5 i)).1 204 k = if k = q then f 5 i else s.1 204 k := fun k => by
            unfold rplS
            rw [uI_ne (by decide), uI_row, uI_ne (by decide)]; rfl
          have r6 : ∀ k, (rplS s q t (nI i) (f 5 i)).1 206 k = if k = t then -2 else s.1 206 k := fun k => by
            unfold rplS
            rw [uI_row, uI_ne (by decide), uI_ne (by decide)]; rfl
          refine ⟨by rw [F 151 (by decide) (by decide) (by decide)]; exact m1, fun u hu => ?_, fun c hc => ?_⟩
          · rw [r6]
            show (upd x.2.2 _ (-1) u < 0 ∧ _) ∨ ∃ q, q < x.1 ∧ upd x.2.2 _ (-1) u = nI q ∧ _
            by_cases z : u = t
            · left; rw [if_pos z, z, pk_us]; exact ⟨by decide, rfl⟩
            · rw [if_neg z, pk_un z]; exact m2 u hu
          · have hc : c < x.1 := hc
            show cR (kiS st) (updR (updR x.2.1 4 q (nI i)) 5 q (f 5 i)) _ c
            unfold cR
            obtain ⟨z1, z2, z3, z4, z5⟩ := m3 c hc
            rw [C3, C4, C1, C2, C5, r2, r4, F 201 (by decide) (by decide) (by decide), F 203 (by decide) (by decide) (by decide), F 205 (by decide) (by decide) (by decide)]
            by_cases z : c = q
            · rw [if_pos z, if_pos z, if_pos z, if_pos z, if_neg (nI_pos (by omega))]
              exact ⟨z1, rfl, z3, fun _ => rfl, z5⟩
            · rw [if_neg z, if_neg z, if_neg z, if_neg z]
              exact ⟨z1, z2, z3, z4, z5⟩
      · rw [if_neg o] at hy; cases hy
    · rw [if_neg b] at hy
      cases hy
      exact ⟨hI, Or.inr (Or.inr ⟨a, b, rfl⟩)⟩
/-- the reading as a whole -/
theorem ly_all (hl : len ≤ 200) (hst : st ≤ 3) (hfg : ∀ i, i < len → f 0 i = g 0 i ∧ f 3 i = g 3 i ∧ (f 3 i = 15 ∨ f 3 i = 16 → f 5 i = g 5 i)) (hft : ∀ i, i < len → ∃ t, t < 4 ∧ f 0 i = nI t) (hw : ∀ i, i < len → f 3 i = 15 → wdR (P 16 (clp (f 2 i))) (s.2.1 199 i)) :
    ∀ (m i : Nat) (x : gaT) (s' : qS), i + m = len → s'.2 = s.2 → lyI s' len g → gaK x i → mR (kiS st) x s' → gaI f x →
      (gth P f (kiS st) (aiS st) m i x = none → ∃ s'', L_X12_layCalls_30 en (d + 1) (nI st) 1 (nI i) s' = some (some (.int 0), s'') ∧ frHc s' s'') ∧
      (∀ y, gth P f (kiS st) (aiS st) m i x = some y → gaI f y ∧ ∃ s'', L_X12_layCalls_30 en (d + 1) (nI st) 1 (nI i) s' = some (some (.int 1), s'') ∧ frHc s' s'' ∧ mR (kiS st) y s'') := by
  have hgt : ∀ i, i < len → ∃ t, t < 4 ∧ g 0 i = nI t := fun i hi => by rw [← (hfg i hi).1]; exact hft i hi
  have hwg : ∀ i, i < len → g 3 i = 15 → ∃ cc, wdR cc (s.2.1 199 i) := fun i hi h => ⟨_, hw i hi ((hfg i hi).2.1.trans h)⟩
  intro m
  induction m with
  | zero =>
    intro i x s' hi h2 h hk hm hI
    refine ⟨fun z => (by cases z), fun y hy => ?_⟩
    cases hy
    exact ⟨hI, s', ly_end h (by rw [n_LE (by omega) (by omega)]; omega) (Or.inr rfl), frHc.rf, hm⟩
  | succ m ih =>
    intro i x s' hi h2 h hk hm hI
    obtain ⟨e0, e3, e5⟩ := hfg i (by omega)
    obtain ⟨t, ht, et⟩ := hft i (by omega)
    have et' : g 0 i = nI t := e0 ▸ et
    have ec : clp (f 0 i) = t := by rw [et]; exact n_clp (by omega)
    have hop : ∀ t, t < 4 → s'.1 206 t = -2 ∨ ∃ q, q < 200 ∧ s'.1 206 t = nI q := fun t ht => (hm.2.1 t ht).imp (fun z => z.2) (fun ⟨q, z1, _, z3⟩ => ⟨q, by have := hk.1; omega, z3⟩)
    cases hg : gstep P f (kiS st) (aiS st) i x with
    | none =>
      have eg : gth P f (kiS st) (aiS st) (m + 1) i x = none := by
        show (match gstep P f (kiS st) (aiS st) i x with
          | none => none
          | some y => gth P f (kiS st) (aiS st) m (i + 1) y) = _
        rw [hg]
      rw [eg]
      refine ⟨fun _ => ?_, fun y hy => by cases hy⟩
      unfold gstep at hg
      rw [ec] at hg
      by_cases a : f 3 i = 15
      · rw [if_pos a] at hg
        have F : frHc s' (cS s' x.1 t (nI i) (g 5 i) (dsS st (P 16 (clp (f 2 i))))) := fr_cS
        obtain ⟨s'', b1, b2⟩ := ly_bad (en := en) (d := d) (st := st) (g := g) (s := s) hl hst hgt hwg m (i + 1) (cS s' x.1 t (nI i) (g 5 i) (dsS st (P 16 (clp (f 2 i))))) (by omega) (F.2.2.trans h2) (h.fr F) ⟨x.1 + 1, by have := hk.1; omega, by unfold cS; rw [g_I, if_pos ⟨rfl, rfl⟩]⟩ (fun u hu => by
          by_cases q : u = t
          · right; refine ⟨x.1, by have := hk.1; omega, ?_⟩
            unfold cS
            rw [uI_ne (by decide), g_I, if_pos ⟨rfl, q⟩]
          · have : (cS s' x.1 t (nI i) (g 5 i) (dsS st (P 16 (clp (f 2 i))))).1 206 u = s'.1 206 u := by
              unfold cS
              rw [uI_ne (by decide), g_I, if_neg (fun z => q z.2), uI_ne (by decide), uI_ne (by decide), uI_ne (by decide), uI_ne (by decide)]
            rw [this]; exact hop u hu)
        refine ⟨s'', ly_c (cc := P 16 (clp (f 2 i))) h (by omega) hl hst ht et' (e3 ▸ a) (by rw [h2]; exact hw i (by omega) a) hm.1 (by have := hk.1; omega) ?_, F.tr b2⟩
        rw [if_neg (by decide)]
        by_cases o : 0 ≤ x.2.2 t
        · rcases hm.2.1 t ht with z | ⟨q, z1, z2, z3⟩
          · exact absurd z.1 (Int32.not_lt.mpr o)
          · rw [if_pos (by rw [z3, n_m2 (by have := hk.1; omega)]; exact id)]; exact b1
        · rw [if_neg o] at hg
          by_cases e : P 16 (clp (f 2 i)) = kiS st ∨ P 16 (clp (f 2 i)) = aiS st
          · rw [if_pos e] at hg; cases hg
          · have d1 : dsS st (P 16 (clp (f 2 i))) = -1 := by
              unfold dsS
              rw [if_neg (fun z => e (Or.inl z)), if_neg (fun z => e (Or.inr z))]
            rw [d1] at b1 ⊢
            by_cases z : ¬ s'.1 206 t = -2
            · rw [if_pos z]; exact b1
            · rw [if_neg z, if_pos rfl]; exact b1
      · rw [if_neg a] at hg
        by_cases b : f 3 i = 16
        · rw [if_pos b] at hg
          by_cases o : 0 ≤ x.2.2 t
          · rw [if_pos o] at hg; cases hg
          · have ho : s'.1 206 t = -2 := by
              rcases hm.2.1 t ht with z | ⟨q, z1, z2, z3⟩
              · exact z.2
              · rw [z2] at o; exact absurd (Int32.not_lt.mp (nI_pos (by have := hk.1; omega))) o
            have F : frHc s' (uI s' 206 t (-2)) := ⟨fun a h1 h2 => uI_ne (by omega), fun k _ => by rw [uI_ne (by decide)], rfl⟩
            obtain ⟨s'', b1, b2⟩ := ly_bad (en := en) (d := d) (st := st) (g := g) (s := s) hl hst hgt hwg m (i + 1) (uI s' 206 t (-2)) (by omega) h2 (h.fr F) ⟨x.1, by have := hk.1; omega, by rw [uI_ne (by decide)]; exact hm.1⟩ (fun u hu => by
              rw [g_I]
              by_cases q : u = t
              · left; exact if_pos ⟨rfl, q⟩
              · rw [if_neg (fun z => q z.2)]; exact hop u hu)
            exact ⟨s'', ly_r0 h (by omega) hl ht et' (e3 ▸ b) ho b1, F.tr b2⟩
        · rw [if_neg b] at hg; cases hg
    | some z =>
      have eg : gth P f (kiS st) (aiS st) (m + 1) i x = gth P f (kiS st) (aiS st) m (i + 1) z := by
        show (match gstep P f (kiS st) (aiS st) i x with
          | none => none
          | some y => gth P f (kiS st) (aiS st) m (i + 1) y) = _
        rw [hg]
      rw [eg]
      have hk' := gaK_s hk (by omega) hg
      obtain ⟨hI', cases3⟩ := ly_s (s := s') hst (by omega) ⟨t, ht, et⟩ hk hm hI hg
      refine (fun (key : ∃ s1, frHc s' s1 ∧ mR (kiS st) z s1 ∧ ∀ r, L_X12_layCalls_30 en (d + 1) (nI st) 1 (nI (i + 1)) s1 = some r → L_X12_layCalls_30 en (d + 1) (nI st) 1 (nI i) s' = some r) => ?_) ?_
      · obtain ⟨s1, F, hm1, kk⟩ := key
        obtain ⟨i1, i2⟩ := ih (i + 1) z s1 (by omega) (F.2.2.trans h2) (h.fr F) hk' hm1 hI'
        refine ⟨fun hn => ?_, fun y hy => ?_⟩
        · obtain ⟨s'', b1, b2⟩ := i1 hn
          exact ⟨s'', kk _ b1, F.tr b2⟩
        · obtain ⟨b0, s'', b1, b2, b3⟩ := i2 y hy
          exact ⟨b0, s'', kk _ b1, F.tr b2, b3⟩
      · rcases cases3 with ⟨a, u, hu, eu, hop2, e, hR⟩ | ⟨b, u, q, hu, eu, hq, hop2, hR⟩ | ⟨a, b, rfl⟩
        · refine ⟨cS s' x.1 u (nI i) (g 5 i) (dsS st (P 16 (clp (f 2 i)))), fr_cS, hR _ (by rw [e5 (Or.inl a)]), fun r hr => ly_c (cc := P 16 (clp (f 2 i))) h (by omega) hl hst hu (e0 ▸ eu) (e3 ▸ a) (by rw [h2]; exact hw i (by omega) a) hm.1 (by have := hk.1; omega) ?_⟩
          rw [if_neg (by decide), if_neg (fun z => z hop2), if_neg (by
            unfold dsS
            rcases e with e | e
            · rw [if_pos e]; decide
            · by_cases z : P 16 (clp (f 2 i)) = kiS st
              · rw [if_pos z]; decide
              · rw [if_neg z, if_pos e]; decide)]
          exact hr
        · exact ⟨rplS s' q u (nI i) (g 5 i), fr_rS, hR _ (by rw [e5 (Or.inr b)]), fun r hr => ly_r1 h (by omega) hl hu (e0 ▸ eu) (e3 ▸ b) hop2 hq (Or.inr rfl) hr⟩
        · exact ⟨s', frHc.rf, hm, fun r hr => ly_o h (by omega) hl (e3 ▸ a) (e3 ▸ b) hr⟩
/-- the first four entries -/
theorem ly_9 : ∀ (m i : Nat) (s' : qS), i + m = 4 → ∃ s'', frHc s' s'' ∧ (∀ t, i ≤ t → t < 4 → s''.1 206 t = -2) ∧ (∀ t, t < i → s''.1 206 t = s'.1 206 t) ∧ s''.1 151 87 = s'.1 151 87 ∧ ∀ r, L_X12_layCalls_30 en d v w 0 s'' = some r → L_X12_layCalls_9 en d v w (nI i) s' = some r := by
  intro m
  induction m with
  | zero =>
    intro i s' hi
    refine ⟨s', frHc.rf, fun t h1 h2 => by omega, fun _ _ => rfl, rfl, fun r hr => le_X12_layCalls_9 en d _ _ _ _ _ ?_⟩
    rw [if_pos (by rw [n_le (by decide) (by omega)]; omega)]
    exact hr
  | succ m ih =>
    intro i s' hi
    obtain ⟨s'', F, h1, h2, h3, hr⟩ := ih (i + 1) (uI s' 206 i (-2)) (by omega)
    refine ⟨s'', frHc.tr ⟨fun a g1 g2 => uI_ne (by omega), fun k _ => by rw [uI_ne (by decide)], rfl⟩ F, fun t g1 g2 => ?_, fun t g1 => ?_, h3.trans (by rw [uI_ne (by decide)]), fun r hh => le_X12_layCalls_9 en d _ _ _ _ _ ?_⟩
    · by_cases q : t = i
      · subst q
        rw [h2 t (Nat.lt_succ_self t), g_I, if_pos ⟨rfl, rfl⟩]
      · exact h1 t (by omega) g2
    · rw [h2 t (by omega), g_I, if_neg (by omega)]
    · rw [if_neg (by rw [n_le (by decide) (by omega)]; omega), gd_true (n_in (by omega) (by decide)), nm_eq, n_cl (by omega), n_ar]
      exact hr r hh
/-- the calls laid -/
theorem m_layCalls (hl : len ≤ 200) (hst : st ≤ 3) (hfg : ∀ i, i < len → f 0 i = g 0 i ∧ f 3 i = g 3 i ∧ (f 3 i = 15 ∨ f 3 i = 16 → f 5 i = g 5 i)) (hft : ∀ i, i < len → ∃ t, t < 4 ∧ f 0 i = nI t) (hw : ∀ i, i < len → f 3 i = 15 → wdR (P 16 (clp (f 2 i))) (s.2.1 199 i)) (h : lyI s len g) {C0 : Nat → fI} {O : fI} (hO : ∀ t, t < 4 → O t < 0) :
    (gth P f (kiS st) (aiS st) len 0 (0, C0, O) = none → ∃ s'', qev en (d + 2) 350 [.ref 151, .int (nI st)] s = some (some (.int 0), s'') ∧ frHc s s'') ∧
    (∀ y, gth P f (kiS st) (aiS st) len 0 (0, C0, O) = some y → y.1 ≤ 200 ∧ gaI f y ∧ ∃ s'', qev en (d + 2) 350 [.ref 151, .int (nI st)] s = some (some (.int 1), s'') ∧ frHc s s'' ∧ mR (kiS st) y s'') := by
  have hk : gaK (0, C0, O) 0 := ⟨Nat.le_refl 0, fun t ht => Or.inl (hO t ht)⟩
  have hI : gaI f (0, C0, O) := fun c hc => absurd hc (Nat.not_lt_zero c)
  obtain ⟨s1, F1, h1, -, h3, hr⟩ := ly_9 (en := en) (d := d + 1) (v := nI st) (w := 1) 4 0 (uI s 151 87 0) rfl
  have F : frHc s s1 := frHc.tr ⟨fun a g1 g2 => uI_ne g1, fun k hk => by rw [g_I, if_neg (fun z => hk z.2)], rfl⟩ F1
  have hm : mR (kiS st) (0, C0, O) s1 := ⟨h3.trans (by rw [g_I, if_pos ⟨rfl, rfl⟩]; rfl), fun t ht => Or.inl ⟨hO t ht, h1 t (Nat.zero_le _) ht⟩, fun c hc => absurd hc (Nat.not_lt_zero c)⟩
  have start : ∀ r, L_X12_layCalls_30 en (d + 1) (nI st) 1 0 s1 = some r → qev en (d + 2) 350 [.ref 151, .int (nI st)] s = some r := by
    intro r hh
    refine le_X12_layCalls en (d + 1) _ _ _ ?_
    rw [nm_eq]
    exact hr r hh
  obtain ⟨i1, i2⟩ := ly_all (en := en) (d := d) (P := P) (s := s) hl hst hfg hft hw len 0 (0, C0, O) s1 (by omega) F.2.2 (h.fr F) hk hm hI
  refine ⟨fun hn => ?_, fun y hy => ?_⟩
  · obtain ⟨s'', b1, b2⟩ := i1 hn
    exact ⟨s'', start _ b1, F.tr b2⟩
  · obtain ⟨b0, s'', b1, b2, b3⟩ := i2 y hy
    have := gaK_g len 0 _ (by omega) hk hy
    exact ⟨by have := this.1; omega, b0, s'', start _ b1, F.tr b2, b3⟩
end LD
