/-! THE RUN: both sides' steps side by side. f: the class's rows, g: the model's, i: a step. -/
abbrev sR (P : Nat → fI) (n : Nat) (f g : Nat → fI) (i : Nat) : Prop := (f 0 i = g 0 i ∧ f 1 i = g 1 i ∧ f 2 i = g 2 i ∧ f 3 i = g 3 i ∧ (f 3 i = 15 ∨ f 3 i = 16 → f 5 i = g 5 i)) ∧ ((f 3 i = 20 ∧ f 2 i = -2) ∨ (f 3 i ≠ 20 ∧ f 4 i = g 4 i ∧ ∃ l, l < n ∧ f 2 i = nI l ∧ f 4 i = P 9 l ∧ (f 3 i = P 7 l ∨ f 3 i = 19 ∨ f 3 i = 21)))
section SD
variable {P f g : Nat → fI} {V : fI} {nc nl nt n i j : Nat} {H : fJ} {L : Nat → Nat → Bool}
theorem toM_n {k : Nat} (hk : k < 2 ^ 31) : toM (nI k) ↔ 1 ≤ k ∧ k ≤ 4 := by
  show (nI k = 1 ∨ nI k = 2 ∨ (nI k = 3 ∨ nI k = 4)) ↔ _
  have e : ∀ m : Nat, m < 2 ^ 31 → (nI k = nI m ↔ k = m) := fun m hm => nI_eq hk hm
  have e1 := e 1 (by decide)
  have e2 := e 2 (by decide)
  have e3 := e 3 (by decide)
  have e4 := e 4 (by decide)
  constructor
  · rintro (z | z | z | z)
    · have := e1.mp z; omega
    · have := e2.mp z; omega
    · have := e3.mp z; omega
    · have := e4.mp z; omega
  · intro z
    rcases (by omega : k = 1 ∨ k = 2 ∨ k = 3 ∨ k = 4) with z | z | z | z
    · exact Or.inl (e1.mpr z)
    · exact Or.inr (Or.inl (e2.mpr z))
    · exact Or.inr (Or.inr (Or.inl (e3.mpr z)))
    · exact Or.inr (Or.inr (Or.inr (e4.mpr z)))
theorem sr_kind (hP : PV P nc nl nt n) (h : sR P n f g i) : ∃ k, k < 22 ∧ f 3 i = nI k := by
  rcases h.2 with ⟨z, -⟩ | ⟨-, -, l, hl, -, -, z⟩
  · exact ⟨20, by decide, z⟩
  · rcases z with z | z | z
    · have := (hP.2.2.2.2.1 l hl).1
      exact ⟨kd P l, by omega, z.trans this.1⟩
    · exact ⟨19, by decide, z⟩
    · exact ⟨21, by decide, z⟩
theorem sr_tch (hP : PV P nc nl nt n) (h : sR P n f g i) : (1 ≤ f 3 i ∧ f 3 i ≤ 4) ↔ toM (f 3 i) := by
  obtain ⟨k, hk, e⟩ := sr_kind hP h
  rw [e, toM_n (by omega), n_le (by decide) (by omega), n_ge (by decide) (by omega)]
theorem sr_obj (hP : PV P nc nl nt n) (h : sR P n f g i) (ht : toM (f 3 i)) : ∃ l c, l < n ∧ c < nc ∧ f 2 i = nI l ∧ f 4 i = nI c ∧ g 4 i = nI c ∧ P 9 l = nI c ∧ P 7 l = f 3 i := by
  rcases h.2 with ⟨z, -⟩ | ⟨-, h4, l, hl, h2, h9, z⟩
  · rw [z] at ht; exact absurd ht (by decide)
  · rcases z with z | z | z
    · obtain ⟨⟨hk, hkk⟩, -, ho, -⟩ := hP.2.2.2.2.1 l hl
      rw [z, hk, toM_n (by omega)] at ht
      obtain ⟨o1, o2⟩ := ho ht.1 ht.2
      exact ⟨l, ob P l, hl, o2, h2, h9.trans o1, h4.symm.trans (h9.trans o1), o1, z.symm⟩
    · rw [z] at ht; exact absurd ht (by decide)
    · rw [z] at ht; exact absurd ht (by decide)
theorem sr_vol (hP : PV P nc nl nt n) (hV : ∀ c, c < nc → V c = bt (vol P c)) (h : sR P n f g i) (ht : toM (f 3 i)) : (volI P (f 4 i) = true) ↔ ¬ V (clp (g 4 i)) = 0 := by
  obtain ⟨l, c, -, hc, -, e1, e2, -, -⟩ := sr_obj hP h ht
  have hc8 := hP.1.2
  rw [e1, e2, show clp (nI c) = c from n_clp (by omega), hV c hc, bt_0, show volI P (nI c) = vol P c from rfl, Bool.not_eq_false]
theorem sr_nm (hP : PV P nc nl nt n) (h : sR P n f g i) : (toM (g 3 i) → p_inB (g 4 i) 8 = true) ∧ nmM g i := by
  have q : toM (g 3 i) → p_inB (g 4 i) 8 = true := by
    intro ht
    rw [← h.1.2.2.2.1] at ht
    obtain ⟨l, c, -, hc, -, e1, e2, -, -⟩ := sr_obj hP h ht
    have hc8 := hP.1.2
    rw [e2]
    exact n_in (by omega) (by decide)
  exact ⟨q, fun z => q (z.elim Or.inl (fun z => Or.inr (Or.inl z)))⟩
theorem sr_tl (hP : PV P nc nl nt n) (hV : ∀ c, c < nc → V c = bt (vol P c)) (h : sR P n f g i) : tlS P f i ↔ gvM g V i := by
  have e3 := h.1.2.2.2.1
  have v := sr_vol hP hV h
  constructor
  · rintro (z | z | ⟨z, w⟩)
    · exact Or.inr (Or.inl (e3 ▸ z))
    · exact Or.inr (Or.inr (e3 ▸ z))
    · exact Or.inl ⟨e3 ▸ z, (v (Or.inr (Or.inl z))).mp w⟩
  · rintro (⟨z, w⟩ | z | z)
    · rw [← e3] at z
      exact Or.inr (Or.inr ⟨z, (v (Or.inr (Or.inl z))).mpr w⟩)
    · exact Or.inl (e3.trans z)
    · exact Or.inr (Or.inl (e3.trans z))
theorem sr_hr (hP : PV P nc nl nt n) (hV : ∀ c, c < nc → V c = bt (vol P c)) (h : sR P n f g i) : hrS P f i ↔ tkM g V i := by
  have e3 := h.1.2.2.2.1
  have v := sr_vol hP hV h
  constructor
  · rintro (z | z | ⟨z, w⟩)
    · exact Or.inr (Or.inl (e3 ▸ z))
    · exact Or.inr (Or.inr (e3 ▸ z))
    · exact Or.inl ⟨e3 ▸ z, (v (Or.inl z)).mp w⟩
  · rintro (⟨z, w⟩ | z | z)
    · rw [← e3] at z
      exact Or.inr (Or.inr ⟨z, (v (Or.inl z)).mpr w⟩)
    · exact Or.inl (e3.trans z)
    · exact Or.inr (Or.inl (e3.trans z))
theorem sr_4 (h : sR P n f g i) (hz : f 3 i ≠ 20) : f 4 i = g 4 i := by
  rcases h.2 with ⟨z, -⟩ | ⟨-, z, -⟩
  · exact absurd z hz
  · exact z
theorem sr_ld (hP : PV P nc nl nt n) (hV : ∀ c, c < nc → V c = bt (vol P c)) (h : sR P n f g i) (h' : sR P n f g j) : ldS P f i j ↔ ldM g V i j := by
  have a := sr_tl hP hV h
  have b := sr_hr hP hV h'
  by_cases z : f 3 i ≠ 20 ∧ f 3 j ≠ 20
  · have e := sr_4 h z.1
    have e' := sr_4 h' z.2
    show (_ ∧ _) ↔ (_ ∧ _)
    rw [← h.1.2.2.2.1, ← h'.1.2.2.2.1, ← h.1.1, ← h'.1.1, ← e, ← e', ← a, ← b]
    refine ⟨fun w => ⟨w.1, ?_⟩, fun w => ⟨w.1, ?_⟩⟩
    · rcases w.2 with w | w | w | w | ⟨w1, w | w⟩
      · exact Or.inl w
      · exact Or.inr (Or.inl w)
      · exact Or.inr (Or.inr (Or.inl w))
      · exact Or.inr (Or.inr (Or.inr (Or.inr (Or.inr w))))
      · exact Or.inr (Or.inr (Or.inr (Or.inl ⟨w1, w⟩)))
      · exact Or.inr (Or.inr (Or.inr (Or.inr (Or.inl ⟨w1, w⟩))))
    · rcases w.2 with w | w | w | w | w | w
      · exact Or.inl w
      · exact Or.inr (Or.inl w)
      · exact Or.inr (Or.inr (Or.inl w))
      · exact Or.inr (Or.inr (Or.inr (Or.inr ⟨w.1, Or.inl w.2⟩)))
      · exact Or.inr (Or.inr (Or.inr (Or.inr ⟨w.1, Or.inr w.2⟩)))
      · exact Or.inr (Or.inr (Or.inr (Or.inl w)))
  · refine ⟨fun w => absurd w.1 z, fun w => absurd ?_ z⟩
    rw [h.1.2.2.2.1, h'.1.2.2.2.1]
    exact w.1
/-- the races are alike -/
theorem sr_rc (hP : PV P nc nl nt n) (hV : ∀ c, c < nc → V c = bt (vol P c)) (h : sR P n f g i) (h' : sR P n f g j) (hij : i < j) (hL : L i j = decide (ldM g V i j)) (hA : ahd H j i = bfo L j i) : rcX P f H i j ↔ rcM L g V i j := by
  have hn := hP.2.2.2.1.2
  show ((1 ≤ f 3 j ∧ f 3 j ≤ 4) ∧ (1 ≤ f 3 i ∧ f 3 i ≤ 4) ∧ _ ∧ _) ↔ ((_ ∧ _) ∧ _)
  rw [sr_tch hP h, sr_tch hP h', hA]
  have e3 := h.1.2.2.2.1
  have e3' := h'.1.2.2.2.1
  constructor
  · rintro ⟨tj, ti, ha, hc⟩
    have v := sr_vol hP hV h ti
    obtain ⟨l, c, hl, -, a2, a4, b4, a9, a7⟩ := sr_obj hP h ti
    obtain ⟨l', c', hl', -, a2', a4', b4', a9', a7'⟩ := sr_obj hP h' tj
    rw [a2, a2', show clp (nI l) = l from n_clp (by omega), show clp (nI l') = l' from n_clp (by omega)] at hc
    obtain ⟨c1, c2, c3⟩ := hc
    refine ⟨⟨⟨e3' ▸ tj, e3 ▸ ti, ?_⟩, ?_, ?_, ha⟩, ?_⟩
    · rw [a7, a7'] at c3
      rw [← e3, ← e3']
      rcases c3 with z | z | z
      · exact Or.inl (Or.inl z)
      · exact Or.inl (Or.inr z)
      · by_cases q : f 3 i = 1
        · rcases tj with w | w | w
          · exact absurd ⟨fun _ => w, fun _ => q⟩ z
          · exact Or.inl (Or.inr w)
          · exact Or.inr (Or.inl ⟨q, w⟩)
        · by_cases q' : f 3 j = 1
          · rcases ti with w | w | w
            · exact absurd w q
            · exact Or.inl (Or.inl w)
            · exact Or.inr (Or.inr ⟨q', w⟩)
          · exact absurd ⟨fun w => absurd w q, fun w => absurd w q'⟩ z
    · intro q
      have : bfo L j i = true := by
        rw [bfo_eq, List.any_eq_true]
        refine ⟨i, List.mem_range.mpr hij, ?_⟩
        rw [hL, decide_eq_true (⟨⟨fun w => by rw [← e3] at w; rw [w] at ti; exact absurd ti (by decide), fun w => by rw [← e3'] at w; rw [w] at tj; exact absurd tj (by decide)⟩, Or.inl q⟩ : ldM g V i j), beq_self_eq_true]
        rfl
      rw [ha] at this
      exact absurd this (by decide)
    · rw [b4, b4', ← a9, ← a9', c1]
    · refine Decidable.not_not.mp (fun w => c2 ?_)
      rw [a9, ← a4]
      exact v.mpr w
  · rintro ⟨⟨⟨tj, ti, hk⟩, ht, hn4, ha⟩, hv⟩
    rw [← e3'] at tj
    rw [← e3] at ti
    have v := sr_vol hP hV h ti
    obtain ⟨l, c, hl, -, a2, a4, b4, a9, a7⟩ := sr_obj hP h ti
    obtain ⟨l', c', hl', -, a2', a4', b4', a9', a7'⟩ := sr_obj hP h' tj
    refine ⟨tj, ti, ha, ?_⟩
    rw [a2, a2', show clp (nI l) = l from n_clp (by omega), show clp (nI l') = l' from n_clp (by omega)]
    refine ⟨by rw [a9, a9', ← b4, ← b4', hn4], ?_, ?_⟩
    · rw [a9, ← a4]
      exact fun w => v.mp w hv
    · rw [a7, a7']
      rw [← e3, ← e3'] at hk
      rcases hk with (z | z) | ⟨z, w⟩ | ⟨z, w⟩
      · exact Or.inl z
      · exact Or.inr (Or.inl z)
      · refine Or.inr (Or.inr (fun q => ?_))
        have := q.mp z
        rw [this] at w
        exact absurd w (by decide)
      · refine Or.inr (Or.inr (fun q => ?_))
        have := q.mpr z
        rw [this] at w
        exact absurd w (by decide)
end SD

