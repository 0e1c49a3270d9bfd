/-! THE RUN, the model's side: which steps are ready now. -/
section RD
variable {P N : Nat → fI} {M : fI} {w nc nl nt n : Nat}
theorem rdT_mem {P : Nat → fI} {N : fI} {t z : Nat} (h9 : chs P w N t nt ≤ 9) : z ∈ rdT P w N nt t ↔ ∃ ch, ch < 10 ∧ z = 10 * t + ch ∧ (ch < chs P w N t nt ∨ ch = 9 ∧ ¬ N (56 + t) = 0) := by
  unfold rdT
  rw [List.mem_append, List.mem_map]
  constructor
  · rintro (⟨k, hk, e⟩ | q)
    · have := List.mem_range.mp hk
      exact ⟨k, by omega, e.symm, Or.inl this⟩
    · by_cases h : N (56 + t) = 0
      · rw [if_pos h] at q; exact absurd q List.not_mem_nil
      · rw [if_neg h, List.mem_singleton] at q
        exact ⟨9, by decide, q, Or.inr ⟨rfl, h⟩⟩
  · rintro ⟨ch, h10, e, q | ⟨q, h⟩⟩
    · exact Or.inl ⟨ch, List.mem_range.mpr q, e.symm⟩
    · rw [if_neg h]
      exact Or.inr (List.mem_singleton.mpr (by omega))
theorem rdl_mem {P : Nat → fI} {N : fI} (hP : PV P nc nl nt n) (hS : SV P w nc nl nt n N) : ∀ (T : Nat), T ≤ nt → ∀ t ch, ch < 10 → (10 * t + ch ∈ rdl P w N nt T ↔ t < T ∧ rdS P w N t ch nt) := by
  intro T
  induction T with
  | zero =>
    intro _ t ch _
    exact ⟨fun z => absurd z List.not_mem_nil, fun z => absurd z.1 (Nat.not_lt_zero _)⟩
  | succ T ih =>
    intro hT t ch hch
    show 10 * t + ch ∈ rdl P w N nt T ++ rdT P w N nt T ↔ _
    rw [List.mem_append, ih (by omega) t ch hch, rdT_mem (ch_le hP hS (show T < nt by omega))]
    constructor
    · rintro (⟨a, b⟩ | ⟨c, hc, e, q⟩)
      · exact ⟨by omega, b⟩
      · have h1 : t = T := by omega
        have h2 : ch = c := by omega
        subst h1 h2
        exact ⟨by omega, by omega, q⟩
    · rintro ⟨a, b⟩
      by_cases q : t = T
      · subst q
        exact Or.inr ⟨ch, hch, rfl, b.2⟩
      · exact Or.inl ⟨by omega, b⟩
end RD
section RN2
variable {en : pN} {d w nc nl nt n : Nat} {a b : Int32} {s : qS} {P : Nat → fI} {N R : fI}
abbrev mtc (R : fI) (a b : Int32) (nt j : Nat) : Prop := R j = ((10 : Int32) * a) + b ∧ ¬ a < 0 ∧ ¬ nI nt ≤ a ∧ ¬ b < 0 ∧ ¬ 9 < b
theorem l_ir1 {len : Nat} (h66 : s.1 151 66 = nI len) (hl : len ≤ 48) : ∀ m i : Nat, i + m = len → L_X12_isReadyStep_5 en d a b 1 (nI i) s = some (some (.int 1), s) := by
  intro m
  induction m with
  | zero =>
    intro i hi
    refine le_X12_isReadyStep_5 en d _ _ _ _ _ _ ?_
    rw [h66, if_pos (by rw [n_LE (by omega) (by omega)]; omega), gd_true (Or.inr rfl)]
  | succ m ih =>
    intro i hi
    refine le_X12_isReadyStep_5 en d _ _ _ _ _ _ ?_
    rw [h66, if_neg (by rw [n_LE (by omega) (by omega)]; omega), if_pos (by decide), n_ar]
    exact ih (i + 1) (by omega)
theorem l_ir0 {len : Nat} (h66 : s.1 151 66 = nI len) (h18 : s.1 151 18 = nI nt) (hR : s.1 190 = R) (hl : len ≤ 48) : ∀ m i : Nat, i + m = len → ∃ rb : Bool, L_X12_isReadyStep_5 en d a b 0 (nI i) s = some (some (.int (bt rb)), s) ∧ (rb = true ↔ ∃ j, i ≤ j ∧ j < len ∧ mtc R a b nt j) := by
  intro m
  induction m with
  | zero =>
    intro i hi
    refine ⟨false, le_X12_isReadyStep_5 en d _ _ _ _ _ _ ?_, ⟨fun z => (by cases z), fun ⟨j, h1, h2, _⟩ => by omega⟩⟩
    rw [h66, if_pos (by rw [n_LE (by omega) (by omega)]; omega), gd_true (Or.inl rfl)]
    rfl
  | succ m ih =>
    intro i hi
    obtain ⟨rb, e, q⟩ := ih (i + 1) (by omega)
    have no : ¬ mtc R a b nt i → (rb = true ↔ ∃ j, i ≤ j ∧ j < len ∧ mtc R a b nt j) := by
      intro hm
      rw [q]
      constructor
      · rintro ⟨j, h1, h2, h3⟩; exact ⟨j, by omega, h2, h3⟩
      · rintro ⟨j, h1, h2, h3⟩
        refine ⟨j, ?_, h2, h3⟩
        rcases Nat.lt_or_ge i j with z | z
        · exact z
        · have : i = j := by omega
          subst this
          exact absurd h3 hm
    have top : ∀ r : Int32, (if a < (0 : Int32) then L_X12_isReadyStep_5 en d a b (0 : Int32) (nI (i + 1)) s else if nI nt ≤ a then L_X12_isReadyStep_5 en d a b (0 : Int32) (nI (i + 1)) s else if b < (0 : Int32) then L_X12_isReadyStep_5 en d a b (0 : Int32) (nI (i + 1)) s else if (9 : Int32) < b then L_X12_isReadyStep_5 en d a b (0 : Int32) (nI (i + 1)) s else (if ¬ R i = (((10 : Int32) * a) + b) then L_X12_isReadyStep_5 en d a b (0 : Int32) (nI (i + 1)) s else L_X12_isReadyStep_5 en d a b (1 : Int32) (nI (i + 1)) s)) = some (some (.int r), s) → L_X12_isReadyStep_5 en d a b 0 (nI i) s = some (some (.int r), s) := by
      intro r h
      refine le_X12_isReadyStep_5 en d _ _ _ _ _ _ ?_
      rw [h66, if_neg (by rw [n_LE (by omega) (by omega)]; omega), if_neg (by decide), h18, hR, gd_true (n_in (by omega) (by decide)), n_cl (by omega), n_ar]
      exact h
    by_cases h1 : a < 0
    · exact ⟨rb, top _ (by rw [if_pos h1]; exact e), no (fun z => z.2.1 h1)⟩
    by_cases h2 : nI nt ≤ a
    · exact ⟨rb, top _ (by rw [if_neg h1, if_pos h2]; exact e), no (fun z => z.2.2.1 h2)⟩
    by_cases h3 : b < 0
    · exact ⟨rb, top _ (by rw [if_neg h1, if_neg h2, if_pos h3]; exact e), no (fun z => z.2.2.2.1 h3)⟩
    by_cases h4 : 9 < b
    · exact ⟨rb, top _ (by rw [if_neg h1, if_neg h2, if_neg h3, if_pos h4]; exact e), no (fun z => z.2.2.2.2 h4)⟩
    by_cases h5 : R i = ((10 : Int32) * a) + b
    · refine ⟨true, top _ (by rw [if_neg h1, if_neg h2, if_neg h3, if_neg h4, if_neg (fun w => w h5)]; exact l_ir1 h66 hl m (i + 1) (by omega)), ⟨fun _ => ⟨i, Nat.le_refl _, by omega, h5, h1, h2, h3, h4⟩, fun _ => rfl⟩⟩
    · exact ⟨rb, top _ (by rw [if_neg h1, if_neg h2, if_neg h3, if_neg h4, if_pos h5]; exact e), no (fun z => h5 z.1)⟩
theorem m_isReadyS (hP : PV P nc nl nt n) (hS : SV P w nc nl nt n N) (h66 : s.1 151 66 = nI (rdl P w N nt nt).length) (h18 : s.1 151 18 = nI nt) (hR : s.1 190 = R) (hl : (rdl P w N nt nt).length ≤ 48) (hr : ∀ (j : Nat) (h : j < (rdl P w N nt nt).length), R j = nI (rdl P w N nt nt)[j]) : ∃ rb : Bool, qev en (d + 1) 316 [.ref 151, .int a, .int b] s = some (some (.int (bt rb)), s) ∧ (rb = true ↔ ∃ t ch, a = nI t ∧ b = nI ch ∧ ch < 10 ∧ rdS P w N t ch nt) := by
  obtain ⟨rb, e, q⟩ := l_ir0 (en := en) (d := d) (a := a) (b := b) h66 h18 hR hl (rdl P w N nt nt).length 0 (by omega)
  refine ⟨rb, le_X12_isReadyStep en d _ _ _ _ e, ?_⟩
  rw [q]
  have ht4 := hP.2.2.1.2
  constructor
  · rintro ⟨j, -, hj, h1, h2, h3, h4, h5⟩
    obtain ⟨t, ht, rfl⟩ := nI_of h2
    obtain ⟨ch, hc, rfl⟩ := nI_of h4
    rw [n_LE (by omega) (by omega)] at h3
    rw [n_lt (by decide) (by omega)] at h5
    have h5' : ch < 10 := by
      have : ¬ 9 < ch := h5
      omega
    rw [hr j hj, n_ml] at h1
    have h1' : nI (rdl P w N nt nt)[j] = nI (10 * t + ch) := h1.trans (Int32.ofNat_add _ _).symm
    refine ⟨t, ch, rfl, rfl, h5', ?_⟩
    have hm : (rdl P w N nt nt)[j] ∈ rdl P w N nt nt := List.getElem_mem hj
    have hb : (rdl P w N nt nt)[j] < 2 ^ 31 := by
      have : ∀ T, T ≤ nt → ∀ z ∈ rdl P w N nt T, z < 2 ^ 31 := by
        intro T
        induction T with
        | zero => intro _ z hz; exact absurd hz List.not_mem_nil
        | succ T ih =>
          intro hT z hz
          have hz' : z ∈ rdl P w N nt T ++ rdT P w N nt T := hz
          rcases List.mem_append.mp hz' with h | h
          · exact ih (by omega) z h
          · obtain ⟨c, hc, e, -⟩ := (rdT_mem (ch_le hP hS (show T < nt by omega))).mp h
            omega
      exact this nt (Nat.le_refl _) _ hm
    have e' := (nI_eq hb (by omega)).mp h1'
    rw [e'] at hm
    exact ((rdl_mem hP hS nt (Nat.le_refl _) t ch h5').mp hm).2
  · rintro ⟨t, ch, rfl, rfl, hch, hd⟩
    have htn : t < nt := hd.1
    have hm := (rdl_mem hP hS nt (Nat.le_refl _) t ch hch).mpr ⟨htn, hd⟩
    obtain ⟨j, hj, ej⟩ := List.getElem_of_mem hm
    refine ⟨j, Nat.zero_le _, hj, ?_, nI_pos (by omega), ?_, nI_pos (by omega), ?_⟩
    · rw [hr j hj, ej, n_ml]
      exact Int32.ofNat_add _ _
    · rw [n_LE (by omega) (by omega)]; omega
    · rw [n_lt (by decide) (by omega)]
      show ¬ 9 < ch
      omega
variable {σ : qS} {K W F y gg : fI} {s' : fI} {g : Nat → fI} {X : fJ} {D : Int64}
theorem kp_MB {v : Nat} (hB : MB σ v P nc nl nt n) : MB (kpS σ K W g X) v P nc nl nt n := mb_cg (fun a h1 h2 h3 => kp_o (by omega)) hB
theorem m_readyNow (hB : MB σ 3 P nc nl nt n) (hP : PV P nc nl nt n) (hS : SV P w nc nl nt n N) (hR : MR w N K) (h12 : F 12 = nI nc) (h16 : F 16 = nI nl) (h18 : F 18 = nI nt) (h76 : F 76 = nI w) (hw : w ≤ 2) : ∃ (F' g' R' s'' : fI), qev en (d + 8) 331 [.ref 151] (mM (kpS σ K W g X) F s' y gg D) = some (some (.int (nI (rdl P w N nt nt).length)), mM (kpS (uIr σ 190 R') K W g X) F' s'' y g' D) ∧ (∀ j, (j < 58 ∨ 74 ≤ j) → F' j = F j) ∧ MF F' w 3 nc nl nt ∧ F' 66 = nI (rdl P w N nt nt).length ∧ MR w N s'' ∧ (∀ (j : Nat) (h : j < (rdl P w N nt nt).length), R' j = nI (rdl P w N nt nt)[j]) := by
  have e1 := m_takeRun (en := en) (d := d + 5) (σ := σ) (K := K) (W := W) (F := F) (s := s') (y := y) (gg := gg) (g := g) (X := X) (D := D) h76 hw
  generalize hF1 : upd (upd (upd F 58 (nI w)) 60 (nI (wid w))) 59 3 = F1 at e1
  have f1 : ∀ j, j < 58 ∨ 74 ≤ j → F1 j = F j := by
    intro j hj
    rw [← hF1, pk_un (by omega), pk_un (by omega), pk_un (by omega)]
  have hM : MF F1 w 3 nc nl nt := by
    refine ⟨?_, ?_, ?_, ?_, ?_⟩
    · rw [f1 12 (by decide)]; exact h12
    · rw [f1 16 (by decide)]; exact h16
    · rw [f1 18 (by decide)]; exact h18
    · rw [← hF1, pk_un (by decide), pk_un (by decide), pk_us]
    · rw [← hF1, pk_us]; rfl
  obtain ⟨F', g', R', e2, f2, h66, -, hr⟩ := m_list (en := en) (d := d) (y := y) (g := gg) (D := D) (kp_MB (K := K) (W := W) (g := g) (X := X) hB) hP hS hM (MR_cpf (K := s') hR) hw
  refine ⟨F', g', R', cpf s' K 216, le_X12_readyNow en (d + 7) _ _ ?_, fun j hj => ?_, ?_, h66, MR_cpf hR, hr⟩
  · rw [e1, bV_some, e2, bV_some, mM_F, h66, kp_r]
  · rw [f2 j (by omega) (by omega) (by omega)]; exact f1 j hj
  · obtain ⟨a1, a2, a3, a4, a5⟩ := hM
    refine ⟨?_, ?_, ?_, ?_, ?_⟩
    · rw [f2 12 (by decide) (by decide) (by decide)]; exact a1
    · rw [f2 16 (by decide) (by decide) (by decide)]; exact a2
    · rw [f2 18 (by decide) (by decide) (by decide)]; exact a3
    · rw [f2 58 (by decide) (by decide) (by decide)]; exact a4
    · rw [f2 59 (by decide) (by decide) (by decide)]; exact a5
end RN2
