/-! A law's program told: what the class holds then. -/
/-- cells that reading may change -/
abbrev rdC (a : Nat) : Prop := (1 ≤ a ∧ a ≤ 35) ∨ (61 ≤ a ∧ a ≤ 69)
theorem frC_R : frC rdC := by
  have h := frC_of (p := fun a => decide (1 ≤ a ∧ a ≤ 35) || decide (61 ≤ a ∧ a ≤ 69)) (by decide +kernel) (by decide +kernel)
  simp only [decide_eq_true_eq, Bool.or_eq_true] at h
  exact h
section TLD
variable {en : pN} {n a1 a2 a3 a4 : Nat} {s τ : qS}
theorem x_prog (h1 : a1 < 16) (h2 : a2 < 16) (h3 : a3 < 16) (h4 : a4 < 16) (hT : TL s (HDL ++ (FR a1 ++ (FR a2 ++ (MDL ++ (FR a3 ++ (FR a4 ++ [125]))))))) (hR : ∀ a k, a ≠ 65 → s.2.2 a k = 0) (h65 : ∀ k, s.2.2 65 k = if k = 7 then 62 else 0) (h14 : s.1 65 14 = 0) (hK : ∀ i, i < 33 → s.2.1 3 i = Int64.ofNat (KN.getD i 0)) (h15 : ∀ c, c < 8 → s.1 15 c = 0) :
    ∃ (τ : qS) (N : Nat) (lc : Nat → Nat) (bl : Nat → List Nat) (Km tm : Nat → Nat), QV en 150 204 [.ref 0] s (some (.int 0), τ) ∧ PRG (rdP τ 11) 3 2 N lc bl Km tm (fun _ => false) ∧ TRs τ 2 N bl Km tm ∧ 1 ≤ N ∧ N ≤ 16 ∧ (∀ a, ¬ rdC a → a ≠ 0 → a ≠ 70 → a ≠ 111 → τ.1 a = s.1 a ∧ τ.2.1 a = s.2.1 a ∧ τ.2.2 a = s.2.2 a) ∧ (∀ j, τ.1 0 j = if j = 9 then 1 else if j = 14 then -2 else if j = 13 then -2 else if j = 10 then 0 else s.1 0 j) ∧ (∀ j, τ.1 70 j = if j = 17 then 0 else s.1 70 j) ∧ (∀ j, τ.1 111 j = if j = 4 then 0 else s.1 111 j) ∧ (∀ a, a = 0 ∨ a = 70 ∨ a = 111 → τ.2.1 a = s.2.1 a ∧ τ.2.2 a = s.2.2 a) ∧ frS rdC τ := by
  let s5 : qS := uI (uI (uI (uI (uI s 70 17 0) 111 4 0) 0 10 0) 0 13 (-2)) 0 14 (-2)
  have o : ∀ a, a ≠ 0 → a ≠ 70 → a ≠ 111 → s5.1 a = s.1 a := fun a h0 h1 h2 => (uI_ne h0).trans ((uI_ne h0).trans ((uI_ne h0).trans ((uI_ne h2).trans (uI_ne h1))))
  have S2 : s5.2 = s.2 := rfl
  have hT5 : TL s5 (HDL ++ (FR a1 ++ (FR a2 ++ (MDL ++ (FR a3 ++ (FR a4 ++ [125])))))) := by
    refine ⟨?_, hT.2.1, hT.2.2.1, fun i hi => ?_⟩
    · rw [o 1 (by decide) (by decide) (by decide)]; exact hT.1
    · rw [o 2 (by decide) (by decide) (by decide)]; exact hT.2.2.2 i hi
  have hz : frS sT s5 := fun a k ha hn => absurd (hR a k (by unfold sT at ha; omega)) hn
  obtain ⟨τ, N, lc, bl, Km, tm, p1, p2, p3, p4, p5, p6⟩ := pg_rd (en := en) (s := s5) h1 h2 h3 h4 hT5 hz (by rw [o 65 (by decide) (by decide) (by decide)]; exact h14) hK (fun c hc => by rw [o 15 (by decide) (by decide) (by decide)]; exact h15 c hc)
  have hzR : frS rdC s5 := fun a k ha hn => by
    by_cases q : a = 65
    · subst q
      have : s5.2.2 65 k = if k = 7 then 62 else 0 := h65 k
      rw [this] at hn ⊢
      by_cases q : k = 7
      · rw [if_pos q]; exact Or.inr (by decide)
      · rw [if_neg q] at hn; exact absurd rfl hn
    · exact absurd (hR a k q) hn
  obtain ⟨⟨fS, fK⟩, -⟩ := fr_ev (en := en) frC_R 140 117 [.ref 65] s5 τ none (p1 140 (Nat.le_refl _)) (fun v hv => by
    rw [List.mem_singleton.mp hv]
    exact Or.inr (by decide)) hzR
  have fK' : ∀ a, ¬ rdC a → τ.1 a = s5.1 a ∧ τ.2.1 a = s5.2.1 a ∧ τ.2.2 a = s5.2.2 a := fK
  let τ2 : qS := uI (uI τ 1 5 0) 0 9 1
  have o2 : ∀ a, a ≠ 0 → a ≠ 1 → τ2.1 a = τ.1 a := fun a h0 h1 => (uI_ne h0).trans (uI_ne h1)
  have n0 : ¬ rdC 0 := by unfold rdC; omega
  have n70 : ¬ rdC 70 := by unfold rdC; omega
  have n111 : ¬ rdC 111 := by unfold rdC; omega
  have eP : rdP τ2 11 = rdP τ 11 := by
    funext a
    unfold rdP
    rw [o2 8 (by decide) (by decide), o2 9 (by decide) (by decide), o2 (11 + a) (by omega) (by omega)]
  refine ⟨τ2, N, lc, bl, Km, tm, fun D hD => ?_, by rw [eP]; exact p3, ?_, p5, p6, fun a ha h0 h7 h1 => ?_, fun j => ?_, fun j => ?_, fun j => ?_, fun a ha => ?_, ?_⟩
  · obtain ⟨D, rfl⟩ : ∃ z, D = z + 1 := ⟨D - 1, by omega⟩
    refine le_X11_program en _ _ _ ?_
    rw [nm_eq, nm_eq, nm_eq, nm_eq, nm_eq]
    show bV (qev en D 117 [.ref 65] s5) _ = _
    rw [p1 D (by omega), bV_some, nm_eq]
    have e65 : (uI τ 1 5 0).1 65 11 = 0 := by rw [uI_ne (by decide)]; exact p2
    rw [e65, if_neg (show ¬ ¬ (0 : Int32) = 0 from not_not_intro rfl)]
    refine le_X11_program_64 en _ _ _ _ ?_
    rw [gd_true (show isB (1 : Int32) = true from rfl), nm_eq]
    have e65' : (uI (uI τ 1 5 0) 0 9 1).1 65 11 = 0 := by rw [uI_ne (by decide)]; exact e65
    rw [e65']
  · exact TRs_cg p4 (by decide) (fun u _ => by rw [o2 16 (by decide) (by decide)]) (fun a ha i _ => by rw [o2 a (by omega) (by omega)]) (fun p _ _ => by rw [o2 18 (by decide) (by decide)])
  · have a1 : a ≠ 1 := fun z => ha (by unfold rdC; omega)
    obtain ⟨f1, f2, f3⟩ := fK' a ha
    exact ⟨by rw [o2 a h0 a1, f1, o a h0 h7 h1], f2, f3⟩
  · show (uI (uI τ 1 5 0) 0 9 1).1 0 j = _
    rw [g_I, uI_ne (by decide), (fK' 0 n0).1]
    by_cases q : j = 9
    · rw [if_pos ⟨rfl, q⟩, if_pos q]
    rw [if_neg (fun z => q z.2), if_neg q]
    show (uI (uI (uI (uI (uI s 70 17 0) 111 4 0) 0 10 0) 0 13 (-2)) 0 14 (-2)).1 0 j = _
    rw [g_I, g_I, g_I, uI_ne (by decide), uI_ne (by decide)]
    by_cases q : j = 14
    · rw [if_pos ⟨rfl, q⟩, if_pos q]
    rw [if_neg (fun z => q z.2), if_neg q]
    by_cases q : j = 13
    · rw [if_pos ⟨rfl, q⟩, if_pos q]
    rw [if_neg (fun z => q z.2), if_neg q]
    by_cases q : j = 10
    · rw [if_pos ⟨rfl, q⟩, if_pos q]
    · rw [if_neg (fun z => q z.2), if_neg q]
  · rw [o2 70 (by decide) (by decide), (fK' 70 n70).1]
    show (uI (uI (uI (uI (uI s 70 17 0) 111 4 0) 0 10 0) 0 13 (-2)) 0 14 (-2)).1 70 j = _
    rw [uI_ne (by decide), uI_ne (by decide), uI_ne (by decide), uI_ne (by decide), g_I]
    by_cases q : j = 17
    · rw [if_pos ⟨rfl, q⟩, if_pos q]
    · rw [if_neg (fun z => q z.2), if_neg q]
  · rw [o2 111 (by decide) (by decide), (fK' 111 n111).1]
    show (uI (uI (uI (uI (uI s 70 17 0) 111 4 0) 0 10 0) 0 13 (-2)) 0 14 (-2)).1 111 j = _
    rw [uI_ne (by decide), uI_ne (by decide), uI_ne (by decide), g_I, uI_ne (by decide)]
    by_cases q : j = 4
    · rw [if_pos ⟨rfl, q⟩, if_pos q]
    · rw [if_neg (fun z => q z.2), if_neg q]
  · have : ¬ rdC a := by unfold rdC; omega
    exact ⟨(fK' a this).2.1, (fK' a this).2.2⟩
  · exact fS
end TLD
