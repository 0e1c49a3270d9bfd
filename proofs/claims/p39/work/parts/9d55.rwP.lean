/-! REWRITINGS, the class's own: programs that are good but for their ways. -/
abbrev PRGw (P : Nat → fI) (nc nl N : Nat) (lc : Nat → Nat) (bl : Nat → List Nat) (K th : Nat → Nat) (go : Nat → Bool) : Prop :=
  ((P 0 9 = nI nc ∧ nc ≤ 8) ∧ (P 0 10 = nI nl ∧ nl ≤ 4) ∧ (P 0 11 = nI 2 ∧ P 0 8 = 0) ∧ P 0 12 = nI N ∧ N ≤ 100) ∧ CTp P 2 N bl K th go ∧ FLp N bl K ∧ (∀ i, i < N → LFp P nc nl i (th i) (lc (th i))) ∧ (∀ t, t < 2 → P 3 t = nI (lc t) ∧ lc t ≤ 2) ∧ (∀ c, c < nc → inR (P 4 c)) ∧ ∀ t, t < 2 → tcP P N t ≤ 2
section RWP
variable {en : pN} {d nc nl N i j k : Nat} {bl bl' : Nat → List Nat} {K th lc : Nat → Nat} {go go' : Nat → Bool} {s s' t : qS} {P P' : Nat → fI} {A C : List Nat}
theorem PRG.w (h : PRG P nc nl N lc bl K th go) : PRGw P nc nl N lc bl K th go := ⟨h.1, h.2.1, h.2.2.1, h.2.2.2.1, h.2.2.2.2.2.1, h.2.2.2.2.2.2.1, h.2.2.2.2.2.2.2⟩
theorem PRGw.to (h : PRGw P nc nl N lc bl K th go) (hw : ∀ i, i < N → P 22 i = itP P i ∧ P 23 i = elP P i) : PRG P nc nl N lc bl K th go := ⟨h.1, h.2.1, h.2.2.1, h.2.2.2.1, hw, h.2.2.2.2.1, h.2.2.2.2.2.1, h.2.2.2.2.2.2⟩
/-- lines alike -/
theorem LFp_cg {t lc0 : Nat} (h : LFp P nc nl i t lc0) (hp : ∀ a, a = 7 ∨ a = 9 ∨ a = 10 ∨ (12 ≤ a ∧ a ≤ 15) → P' a i = P a i) (hn : ∀ j, j < lmN P → P' 25 j = P 25 j ∧ P' 26 j = P 26 j) (hm : lmN P ≤ lmN P') : LFp P' nc nl i t lc0 := by
  obtain ⟨⟨k, k1, k2, k3, k4⟩, l1, ⟨a, e, x1, x2, x3, x4⟩, ⟨a', e', y1, y2, y3, y4⟩⟩ := h
  refine ⟨⟨k, (hp 7 (by decide)).trans k1, k2, ?_, ?_⟩, ?_, ⟨a, e, (hp 12 (by decide)).trans x1, (hp 13 (by decide)).trans x2, by omega, EXG_ag x4 (fun j hj => hn j (by omega))⟩, ⟨a', e', (hp 14 (by decide)).trans y1, (hp 15 (by decide)).trans y2, by omega, EXG_ag y4 (fun j hj => hn j (by omega))⟩⟩
  · rw [hp 9 (by decide)]; exact k3
  · rw [hp 9 (by decide)]; exact k4
  · rw [hp 10 (by decide), hp 7 (by decide)]; exact l1
theorem tcP_cg {n u : Nat} (h : ∀ i, i < n → P' 7 i = P 7 i ∧ P' 8 i = P 8 i) : tcP P' n u = tcP P n u := smN_cg (fun i hi => by
  show (if P' 8 i = nI u ∧ (1 ≤ clp (P' 7 i) ∧ clp (P' 7 i) ≤ 4) then 1 else 0) = _
  rw [(h i hi).1, (h i hi).2])
/-- only the tree changes -/
theorem PRGw_rw (h : PRGw (rdP s 36) nc nl N lc bl K th go) (hx : rwX s s') (hC : CTp (rdP s' 36) 2 N bl' K th go') (hF : FLp N bl' K) : PRGw (rdP s' 36) nc nl N lc bl' K th go' := by
  have r : ∀ a, a ≠ 5 → a ≠ 17 → a ≠ 20 → a ≠ 21 → a ≠ 24 → rdP s' 36 a = rdP s 36 a := fun a h1 h2 h3 h4 h5 => by
    unfold rdP
    rw [hx.1 8 (by decide) (by decide) (by decide) (by decide) (by decide), hx.1 9 (by decide) (by decide) (by decide) (by decide) (by decide), hx.1 (36 + a) (by omega) (by omega) (by omega) (by omega) (by omega)]
  have lm : lmN (rdP s' 36) = lmN (rdP s 36) := by rw [lm_rd, lm_rd]
  refine ⟨?_, hC, hF, fun i hi => ?_, fun t ht => ?_, fun c hc => ?_, fun t ht => ?_⟩
  · rw [r 0 (by decide) (by decide) (by decide) (by decide) (by decide)]; exact h.1
  · refine LFp_cg (h.2.2.2.1 i hi) (fun a ha => by rw [r a (by omega) (by omega) (by omega) (by omega) (by omega)]) (fun j _ => ?_) (by omega)
    rw [r 25 (by decide) (by decide) (by decide) (by decide) (by decide), r 26 (by decide) (by decide) (by decide) (by decide) (by decide)]
    exact ⟨rfl, rfl⟩
  · rw [r 3 (by decide) (by decide) (by decide) (by decide) (by decide)]; exact h.2.2.2.2.1 t ht
  · rw [r 4 (by decide) (by decide) (by decide) (by decide) (by decide)]; exact h.2.2.2.2.2.1 c hc
  · rw [tcP_cg (P := rdP s 36) (fun i _ => by rw [r 7 (by decide) (by decide) (by decide) (by decide) (by decide), r 8 (by decide) (by decide) (by decide) (by decide) (by decide)]; exact ⟨rfl, rfl⟩)]
    exact h.2.2.2.2.2.2 t ht
theorem FLp_at (h : FLp N bl K) {key : Nat} {L' : List Nat} (hl : L'.length ≤ (bl key).length) : FLp N (at1 bl key L') K := by
  refine ⟨fun k hk => ?_, h.2.1, fun u hu => ?_⟩
  · by_cases q : k = key
    · have := h.1 k hk
      rw [q] at this
      rw [q, at1_s]; omega
    · rw [at1_n q]; exact h.1 k hk
  · by_cases q : u = key
    · have := h.2.2 u hu
      rw [q] at this
      rw [q, at1_s]; omega
    · rw [at1_n q]; exact h.2.2 u hu
/-- exchanged, or nothing -/
theorem rw_swap (h : PRGw (rdP s 36) nc nl N lc bl K th go) (hG : TG s t 2 N K th bl go) (hi : i < N) (hg : go i = false) : qev en (d + 3) 107 [.ref 36, .int (nI i)] s = some (some (.int 0), s) ∨ ∃ s' bl' go', qev en (d + 3) 107 [.ref 36, .int (nI i)] s = some (some (.int 1), s') ∧ rwX s s' ∧ PRGw (rdP s' 36) nc nl N lc bl' K th go' := by
  have hN := h.1.2.2.2.2
  rcases x_swapC (en := en) (d := d + 1) hG hN (by decide) hi hg with e | ⟨s', t', A, j, C', hL, e, hx, hG'⟩
  · exact Or.inl e
  · refine Or.inr ⟨s', _, _, e, hx, PRGw_rw h hx (CTp_TG hG') (FLp_at h.2.2.1 ?_)⟩
    rw [hL, List.length_append, List.length_append]
    exact Nat.le_refl _
/-- left out, or nothing -/
theorem rw_leave (h : PRGw (rdP s 36) nc nl N lc bl K th go) (hG : TG s t 2 N K th bl go) (hi : i < N) (hg : go i = false) : qev en (d + 3) 108 [.ref 36, .int (nI i)] s = some (some (.int 0), s) ∨ ∃ s' bl' go', qev en (d + 3) 108 [.ref 36, .int (nI i)] s = some (some (.int 1), s') ∧ rwX s s' ∧ PRGw (rdP s' 36) nc nl N lc bl' K th go' := by
  have hN := h.1.2.2.2.2
  by_cases q17 : s.1 43 i = 17
  · refine Or.inl (le_X5_leaveOut en _ _ _ _ _ ?_)
    rw [gd_true lc_36, gd_in (by omega) (by decide), n_cl (by omega), show s.1 (36 + 7) i = 17 from q17, if_pos rfl]
  by_cases q18 : s.1 43 i = 18
  · refine Or.inl (le_X5_leaveOut en _ _ _ _ _ ?_)
    rw [gd_true lc_36, gd_in (by omega) (by decide), n_cl (by omega), show s.1 (36 + 7) i = 18 from q18, if_neg (by decide), if_neg (not_not_intro rfl)]
  obtain ⟨A, C, hL⟩ := TG_at hG hi hg
  have hG' := TG_leave hG hN (by decide) hi hL
  refine Or.inr ⟨_, _, _, x_leaveG hG hN (by decide) hi hg hL q17 q18, lvX_rw, PRGw_rw h lvX_rw (CTp_TG hG') (FLp_at h.2.2.1 ?_)⟩
  rw [hL, List.length_append, List.length_append]
  show A.length + C.length ≤ A.length + (C.length + 1)
  omega
end RWP
