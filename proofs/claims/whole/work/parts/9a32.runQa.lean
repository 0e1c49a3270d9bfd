/-! THE RUN: before, and the races, both sides. -/
section BA
variable {en : pN} {d : Nat} {σ τ : qS} {p w nc nl nt n len : Nat} {P f g : Nat → fI} {N T : fI} {u v : Int32}
theorem rm_bS (h : RMi σ P w N nc nl nt n len g) : RMi (bS σ T) P w N nc nl nt n len g := by
  obtain ⟨hB, hR, hW, hF, hg, hX⟩ := h
  have o : ∀ a, a ≠ 200 → (bS σ T).1 a = σ.1 a := fun a ha => bS_o ha
  refine ⟨mb_cg (fun a h1 h2 h3 => o a (by omega)) hB, ?_, ?_, ?_, fun k hk => ?_, hX⟩
  · rw [o 191 (by decide)]; exact hR
  · rw [o 192 (by decide)]; exact hW
  · rw [o 151 (by decide)]; exact hF
  · rw [o (193 + k) (by omega)]; exact hg k hk
theorem x_before (h : RXi τ p P w N len f) (hlen : len ≤ 200) : ∃ r : Int32, qev en (d + 2) 216 [.ref 0, .int u, .int v] τ = some (some (.int r), τ) ∧ ((u < 0 ∨ nI len ≤ u ∨ v < 0 ∨ nI len ≤ v) → r = -1) ∧ (∀ i j, u = nI i → v = nI j → i < len → j < len → r = bt (bfo (fun a b => decide (ldS P f a b)) j i)) := by
  obtain ⟨hB, hN, hw, hl, hv, hf, hA⟩ := h
  have start : ∀ r : Int32, ((if u < 0 then some (some (Value.int (-1 : Int32)), τ) else if nI len ≤ u then some (some (Value.int (-1 : Int32)), τ) else if v < 0 then some (some (Value.int (-1 : Int32)), τ) else if v < nI len then bI (qev en (d + 1) 157 [.ref 111, .int u, .int v] τ) (fun w6 s7 => if w6 = (0 : Int32) then some (some (.int (0 : Int32)), s7) else some (some (.int (1 : Int32)), s7)) else some (some (Value.int (-1 : Int32)), τ)) : Option qR) = some (some (.int r), τ) → qev en (d + 2) 216 [.ref 0, .int u, .int v] τ = some (some (.int r), τ) := by
    intro r hh
    refine le_X11_before en (d + 1) _ _ _ _ ?_
    rw [if_neg hv, hl]
    exact hh
  by_cases a0 : u < 0
  · refine ⟨-1, start _ (by rw [if_pos a0]), fun _ => rfl, fun i j ha hb hi hj => ?_⟩
    rw [ha] at a0; exact absurd a0 (nI_pos (by omega))
  by_cases a1 : nI len ≤ u
  · refine ⟨-1, start _ (by rw [if_neg a0, if_pos a1]), fun _ => rfl, fun i j ha hb hi hj => ?_⟩
    rw [ha, n_LE (by omega) (by omega)] at a1; omega
  by_cases b0 : v < 0
  · refine ⟨-1, start _ (by rw [if_neg a0, if_neg a1, if_pos b0]), fun _ => rfl, fun i j ha hb hi hj => ?_⟩
    rw [hb] at b0; exact absurd b0 (nI_pos (by omega))
  by_cases b1 : v < nI len
  · obtain ⟨i, hi, rfl⟩ := nI_of a0
    obtain ⟨j, hj, rfl⟩ := nI_of b0
    have hin : i < len := by rw [n_LE (by omega) (by omega)] at a1; omega
    have hjn : j < len := by rw [n_LT (by omega) (by omega)] at b1; exact b1
    have e := x_isAhead (en := en) (d := d) (s := τ) (H := τ.2.1 124) (i := i) (j := j) (by omega) (by omega)
    rw [hS_id] at e
    refine ⟨bt (bfo (fun a b => decide (ldS P f a b)) j i), start _ ?_, fun z => ?_, fun i' j' ha hb hi' hj' => ?_⟩
    · rw [if_neg a0, if_neg a1, if_neg b0, if_pos b1, e, bI_some, hA j hjn i (by omega)]
      cases bfo (fun a b => decide (ldS P f a b)) j i
      · exact if_pos rfl
      · exact if_neg (by decide)
    · exfalso
      rcases z with z | z | z | z
      · exact a0 z
      · exact a1 z
      · exact b0 z
      · rw [n_LE (by omega) (by omega)] at z; omega
    · rw [(nI_eq (by omega) (by omega)).mp ha, (nI_eq (by omega) (by omega)).mp hb]
  · refine ⟨-1, start _ (by rw [if_neg a0, if_neg a1, if_neg b0, if_neg b1]), fun _ => rfl, fun i j ha hb hi hj => ?_⟩
    rw [hb, n_LT (by omega) (by omega)] at b1; exact absurd hj b1
theorem in_or {len : Nat} (hlen : len ≤ 200) (u v : Int32) : (u < 0 ∨ nI len ≤ u ∨ v < 0 ∨ nI len ≤ v) ∨ ∃ i j, u = nI i ∧ v = nI j ∧ i < len ∧ j < len := by
  by_cases a0 : u < 0
  · exact Or.inl (Or.inl a0)
  by_cases a1 : nI len ≤ u
  · exact Or.inl (Or.inr (Or.inl a1))
  by_cases b0 : v < 0
  · exact Or.inl (Or.inr (Or.inr (Or.inl b0)))
  by_cases b1 : nI len ≤ v
  · exact Or.inl (Or.inr (Or.inr (Or.inr b1)))
  obtain ⟨i, hi, rfl⟩ := nI_of a0
  obtain ⟨j, hj, rfl⟩ := nI_of b0
  rw [n_LE (by omega) (by omega)] at a1 b1
  exact Or.inr ⟨i, j, rfl, rfl, by omega, by omega⟩
theorem before_alike (hx : RXi τ p P w N len f) (hm : RMi σ P w N nc nl nt n len g) (hP : PV P nc nl nt n) (hs : ∀ i, i < len → sR P n f g i) (hlen : len ≤ 200) : ∃ (r : Int32) (T : fI), qev en (d + 2) 216 [.ref 0, .int u, .int v] τ = some (some (.int r), τ) ∧ qev en (d + 4) 346 [.ref 151, .int u, .int v] σ = some (some (.int r), bS σ T) ∧ RMi (bS σ T) P w N nc nl nt n len g := by
  obtain ⟨r, e1, o1, i1⟩ := x_before (en := en) (d := d) (u := u) (v := v) hx hlen
  have hm' := hm
  obtain ⟨hB, hR, hW, ⟨h12, h16, h18, h76, h78, h74⟩, hg, hX⟩ := hm
  have hV : ∀ c, c < nc → σ.1 155 c = bt (vol P c) := fun c hc => (hB.2.2.1 c hc).2
  obtain ⟨r', T, e2, o2, i2⟩ := m_before (en := en) (d := d) (s := σ) (g := g) (V := σ.1 155) (n := len) (a := u) (b := v) (L := fun a b => decide (ldS P f a b)) ⟨fun k hk => hg k (by omega), rfl⟩ h78 (fun i hi => (sr_nm hP (hs i hi)).2) (fun i j hij hj => decide_eq_decide.mpr (sr_ld hP hV (hs i (by omega)) (hs j hj))) hlen h74
  have er : r = r' := by
    rcases in_or hlen u v with z | ⟨i, j, a, b, hi, hj⟩
    · rw [o1 z, o2 z]
    · rw [i1 i j a b hi hj, i2 i j a b hi hj]
  subst er
  exact ⟨r, T, e1, e2, rm_bS hm'⟩
theorem x_raceT (h : RXi τ p P w N len f) (hlen : len ≤ 200) (hP : PV P nc nl nt n) (hs : ∀ i, i < len → sR P n f g i) {R : Nat → Nat → Bool} (hRR : ∀ i j, i < j → j < len → (R i j = true ↔ rcX P f (τ.2.1 124) i j)) : qev en (d + 4) 217 [.ref 0, .int u, .int v] τ = some (some (.int (if u < -1 then -1 else if v < 0 then -1 else if v ≤ 1 then rcF R u v (rcA 0 len) 0 else -1)), τ) := by
  obtain ⟨hB, hN, hw, hl, hv, hf, hA⟩ := h
  refine le_X11_runRace en (d + 3) _ _ _ _ ?_
  rw [if_neg hv]
  by_cases a0 : u < -1
  · rw [if_pos a0, if_pos a0]
  rw [if_neg a0, if_neg a0]
  by_cases b0 : v < 0
  · rw [if_pos b0, if_pos b0]
  rw [if_neg b0, if_neg b0]
  by_cases b1 : v ≤ 1
  · have hn := hP.2.2.2.1.2
    have e := x_findRace (en := en) (d := d) (s := τ) (H := τ.2.1 124) (k := u) (x := v) (R := R) (f := f) (p := p) (P := P) (len := len) hRR ⟨hf, hB.2.2.1, xb_lp hB, congrFun (hB.2.2.2.1 0 (by decide)) 7⟩ (hB.2.2.2.1 7 (by decide)) (hB.2.2.2.1 9 (by decide)) hl hlen (fun i hi ht => by
      obtain ⟨l, c, hl, -, a2, -⟩ := sr_obj hP (hs i hi) ((sr_tch hP (hs i hi)).mp ht)
      exact ⟨l, by omega, a2⟩)
    rw [hS_id] at e
    rw [if_pos b1, if_pos b1, e, bI_some]
  · rw [if_neg b1, if_neg b1]
theorem race_alike (hx : RXi τ p P w N len f) (hm : RMi σ P w N nc nl nt n len g) (hP : PV P nc nl nt n) (hs : ∀ i, i < len → sR P n f g i) (hlen : len ≤ 200) : ∃ (r : Int32) (T : fI), qev en (d + 4) 217 [.ref 0, .int u, .int v] τ = some (some (.int r), τ) ∧ qev en (d + 4) 348 [.ref 151, .int u, .int v] σ = some (some (.int r), bS σ T) ∧ RMi (bS σ T) P w N nc nl nt n len g := by
  have hm' := hm
  have hA := hx.2.2.2.2.2.2
  obtain ⟨hB, hR, hW, ⟨h12, h16, h18, h76, h78, h74⟩, hg, hX⟩ := hm
  have hV : ∀ c, c < nc → σ.1 155 c = bt (vol P c) := fun c hc => (hB.2.2.1 c hc).2
  have hL : ∀ i j, i < j → j < len → (fun a b => decide (ldS P f a b)) i j = decide (ldM g (σ.1 155) i j) := fun i j hij hj => decide_eq_decide.mpr (sr_ld hP hV (hs i (by omega)) (hs j hj))
  have e1 := x_raceT (en := en) (d := d) (u := u) (v := v) hx hlen hP hs (R := fun i j => decide (rcX P f (τ.2.1 124) i j)) (fun i j _ _ => decide_eq_true_iff)
  have id0 : bS σ (σ.1 200) = σ := by
    refine Prod.ext (funext fun a => funext fun x => ?_) rfl
    show (if a = 200 then σ.1 200 x else σ.1 a x) = σ.1 a x
    by_cases q : a = 200
    · rw [if_pos q, q]
    · rw [if_neg q]
  by_cases a0 : u < -1
  · refine ⟨-1, σ.1 200, ?_, ?_, rm_bS hm'⟩
    · rw [e1, if_pos a0]
    · rw [id0]
      refine le_X12_runRace en (d + 3) _ _ _ _ ?_
      rw [if_neg h74, if_pos a0]
  by_cases b0 : v < 0
  · refine ⟨-1, σ.1 200, ?_, ?_, rm_bS hm'⟩
    · rw [e1, if_neg a0, if_pos b0]
    · rw [id0]
      refine le_X12_runRace en (d + 3) _ _ _ _ ?_
      rw [if_neg h74, if_neg a0, if_pos b0]
  by_cases b1 : v ≤ 1
  · have hk : u = -1 ∨ 0 ≤ u := by
      by_cases z : u < 0
      · left
        refine Int32.toInt_inj.mp ?_
        have h1 := Int32.lt_iff_toInt_lt.mp z
        have h2 : ¬ u.toInt < (-1 : Int32).toInt := fun w => a0 (Int32.lt_iff_toInt_lt.mpr w)
        have e0 : (0 : Int32).toInt = 0 := by decide
        have e1 : (-1 : Int32).toInt = -1 := by decide
        omega
      · exact Or.inr (Int32.not_lt.mp z)
    have hx01 : v = 0 ∨ v = 1 := by
      obtain ⟨k, hk, rfl⟩ := nI_of b0
      rw [n_ge (by decide) (by omega)] at b1
      have : k ≤ 1 := b1
      rcases (by omega : k = 0 ∨ k = 1) with z | z
      · subst z; exact Or.inl rfl
      · subst z; exact Or.inr rfl
    obtain ⟨T, e2⟩ := m_runRace (en := en) (d := d) (s := σ) (g := g) (V := σ.1 155) (n := len) (k := u) (x := v) (R := fun i j => decide (rcX P f (τ.2.1 124) i j)) (L := fun a b => decide (ldS P f a b)) (fun i j hij hj => by
      rw [decide_eq_true_iff]
      exact sr_rc hP hV (hs i (by omega)) (hs j hj) hij (hL i j hij hj) (hA j hj i (by omega))) ⟨fun k hk => hg k (by omega), rfl⟩ h78 (fun i hi => (sr_nm hP (hs i hi)).2) (fun i hi => (sr_nm hP (hs i hi)).1) hL hlen h74 hk hx01
    refine ⟨_, T, ?_, e2, rm_bS hm'⟩
    rw [e1, if_neg a0, if_neg b0, if_pos b1]
  · refine ⟨-1, σ.1 200, ?_, ?_, rm_bS hm'⟩
    · rw [e1, if_neg a0, if_neg b0, if_neg b1]
    · rw [id0]
      refine le_X12_runRace en (d + 3) _ _ _ _ ?_
      rw [if_neg h74, if_neg a0, if_neg b0, if_neg b1]
end BA
