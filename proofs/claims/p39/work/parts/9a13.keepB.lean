/-! WHAT HOLDS OF STATES is kept by steps. -/
section SVS
variable {t i n w a c l u ch nc nl nt k o j : Nat} {v x z : Int32} {N M : fI} {P : Nat → fI}
/-- a thread's own row anew -/
theorem svt_up (hnt : nt ≤ 4) (ht : t < nt) (g : SVt P nt n N) (h : ∀ j, j < 16 → j ≠ t → j ≠ 4 + t → j ≠ 8 + t → j ≠ 12 + t → M j = N j) (hM : thV P n M t) : SVt P nt n M := by
  refine ⟨fun t' ht' => ?_, fun t' h1 h2 => ?_⟩
  · by_cases q : t' = t
    · rw [q]; exact hM
    · exact thV_cg ⟨h _ (by omega) (by omega) (by omega) (by omega) (by omega), h _ (by omega) (by omega) (by omega) (by omega) (by omega), h _ (by omega) (by omega) (by omega) (by omega) (by omega), h _ (by omega) (by omega) (by omega) (by omega) (by omega)⟩ (g.1 t' ht')
  · rw [h _ (by omega) (by omega) (by omega) (by omega) (by omega), h (4 + t') (by omega) (by omega) (by omega) (by omega) (by omega), h (8 + t') (by omega) (by omega) (by omega) (by omega) (by omega), h (12 + t') (by omega) (by omega) (by omega) (by omega) (by omega)]
    exact g.2 t' h1 h2
theorem SV_t (hS : SV P w nc nl nt n N) (hM : SVt P nt n M) (h : ∀ j, 16 ≤ j → j < 233 → M j = N j) : SV P w nc nl nt n M := by
  obtain ⟨-, Sl, Sk, Sc, Sq, Sw⟩ := hS
  exact ⟨hM, svl_cg (fun j a b => h j a (by omega)) Sl, svk_cg (fun j a b => h j (by omega) (by omega)) Sk, svc_cg (fun j a b => h j (by omega) (by omega)) Sc, svq_cg (fun j a b => h j (by omega) (by omega)) Sq, svw_cg (fun j a b => h j (by omega) b) Sw⟩
theorem SV_gto (hS : SV P w nc nl nt n N) (hn100 : n ≤ 100) (hnt : nt ≤ 4) (ht : t < nt) (hx : goV P n t x) (h0 : N (8 + t) = 0 ∧ N (12 + t) = 0) : SV P w nc nl nt n (gto N t x) := by
  refine SV_t hS (svt_up hnt ht hS.1 (fun j a b c d e => fr_gto b c) ?_) (fun j a b => fr_gto (by omega) (by omega))
  have e1 : gto N t x t = if 0 ≤ x then 1 else 4 := by unfold gto; rw [pk_us]
  have e4 : gto N t x (4 + t) = x := by unfold gto; rw [pk_un (by omega), pk_us]
  have e8 : gto N t x (8 + t) = 0 := by rw [fr_gto (by omega) (by omega)]; exact h0.1
  have e12 : gto N t x (12 + t) = 0 := by rw [fr_gto (by omega) (by omega)]; exact h0.2
  rcases hx with rfl | ⟨j, rfl, hj, h8⟩
  · exact Or.inl ⟨Or.inr (by rw [e1]; rfl), e4, e8, e12⟩
  · exact Or.inr (Or.inl ⟨by rw [e1, if_pos (nI_pos' (by omega))], ⟨j, hj, e4, h8⟩, e8, e12⟩)
theorem SV_wrg (hS : SV P w nc nl nt n N) (hnt : nt ≤ 4) (ht : t < nt) (h12 : N (12 + t) = 0) (hy : ∃ y, x = nI y ∧ 1 ≤ y ∧ y ≤ 5) : SV P w nc nl nt n (wrg N t x) := by
  have q : ∀ j, j ≠ t → j ≠ 4 + t → j ≠ 8 + t → wrg N t x j = N j := fun j a b c => by unfold wrg; rw [pk_un c, pk_un b, pk_un a]
  refine SV_t hS (svt_up hnt ht hS.1 (fun j a b c d e => q j b c d) ?_) (fun j a b => q j (by omega) (by omega) (by omega))
  obtain ⟨y, rfl, hy1, hy5⟩ := hy
  refine Or.inr (Or.inr (Or.inr ⟨?_, ?_, ?_, y, ?_, hy1, hy5⟩))
  · unfold wrg; rw [pk_un (by omega), pk_un (by omega), pk_us]
  · unfold wrg; rw [pk_un (by omega), pk_us]
  · rw [q _ (by omega) (by omega) (by omega)]; exact h12
  · unfold wrg; rw [pk_us]
theorem SV_setl (hS : SV P w nc nl nt n N) (hP : PV P nc nl nt n) (ht : t < nt) (hi : i < n) (h8 : P 8 i = nI t) (hv : inR v) : SV P w nc nl nt n (setl P N t i v) := by
  obtain ⟨-, -, ⟨ht0, ht4⟩, ⟨-, hn100⟩, hln, hth⟩ := hP
  obtain ⟨-, ⟨t', ht', h8', -, -, hl⟩, -⟩ := hln i hi
  have htt : t' = t := by
    rw [h8] at h8'
    exact ((nI_eq (by omega) (by omega)).mp h8').symm
  subst htt
  have h6 := (hth t' ht').2.2
  rcases hl with hl | ⟨k, hl, hk⟩
  · have : setl P N t' i v = N := by unfold setl; rw [hl, if_pos (of_eq_true w_20)]
    rw [this]; exact hS
  · have e : setl P N t' i v = upd N (16 + t' * 6 + k) v := by unfold setl; rw [hl, if_neg (nI_pos (by omega)), n_cl (by omega)]
    rw [e]
    obtain ⟨St, Sl, Sk, Sc, Sq, Sw⟩ := hS
    refine ⟨svt_cg ht4 (fun j a => pk_un (by omega)) St, fun t j ht hj => ?_, svk_cg (fun j a b => pk_un (by omega)) Sk, svc_cg (fun j a b => pk_un (by omega)) Sc, svq_cg (fun j a b => pk_un (by omega)) Sq, svw_cg (fun j a b => pk_un (by omega)) Sw⟩
    by_cases q : t = t' ∧ j = k
    · rw [q.1, q.2, pk_us]
      exact Or.inl ⟨ht', hk, hv⟩
    · rw [pk_un (by omega)]; exact Sl t j ht hj
/-- a state of which only views changed -/
theorem SV_w (hS : SV P w nc nl nt n N) (hnt : nt ≤ 4) (hM : SVw w nc nl nt M) (h : ∀ j, j < 72 → M j = N j) : SV P w nc nl nt n M := by
  obtain ⟨St, Sl, Sk, Sc, Sq, -⟩ := hS
  exact ⟨svt_cg hnt (fun j a => h j (by omega)) St, svl_cg (fun j a b => h j (by omega)) Sl, svk_cg (fun j a b => h j (by omega)) Sk, svc_cg (fun j a b => h j (by omega)) Sc, svq_cg (fun j a b => h j (by omega)) Sq, hM⟩
theorem SV_lrn (hS : SV P w nc nl nt n N) (ht : t < nt) (ht4 : nt ≤ 4) (hw : w = 2 → vwV nc N v) (hw0 : w ≠ 2 → v = 0) : SV P w nc nl nt n (lrn N t v) := SV_w hS ht4 (svw_lrn hS.2.2.2.2.2 ht ht4 hw hw0) (fun j a => pk_un (by omega))
theorem SV_lok (hS : SV P w nc nl nt n N) (hc8 : nc ≤ 8) (ht : t < nt) (ht4 : nt ≤ 4) (hc : c < nc) (hch : w = 2 → vol P c = false → nb (N (224 + t)) c + ch < clp (N (72 + c))) : SV P w nc nl nt n (lok w P N t c ch) := by
  unfold lok
  by_cases h2 : w = 2
  · rw [if_pos h2]
    have Sw := hS.2.2.2.2.2
    obtain ⟨a, h72, a1, a9, -, h5⟩ := sv_ce Sw h2 hc8 hc
    cases hv : vol P c
    · rw [if_neg (by decide)]
      have := hch h2 hv
      refine SV_w hS ht4 (svw_view Sw ht ht4 (fun _ => sn_V (svw_t Sw h2 ht ht4) hc hc8 this (by rw [h72, n_clp (by omega)] at this; omega)) (fun z => absurd h2 z)) (fun j a => pk_un (by omega))
    · rw [if_pos rfl, h72, n_clp (by omega)]
      refine SV_lrn hS ht ht4 (fun _ => ?_) (fun z => absurd h2 z)
      rcases h5 (a - 1) (by omega) with ⟨-, -, z⟩ | ⟨z, -⟩
      · rw [show 152 + c * 9 + a - 1 = 152 + c * 9 + (a - 1) by omega]; exact z
      · omega
  · rw [if_neg h2]; exact hS
theorem SV_lal (hS : SV P w nc nl nt n N) (hc8 : nc ≤ 8) (ht : t < nt) (ht4 : nt ≤ 4) (hc : c < nc) : SV P w nc nl nt n (lal w N t c) := by
  unfold lal
  by_cases h2 : w = 2
  · rw [if_pos h2]
    have Sw := hS.2.2.2.2.2
    obtain ⟨a, h72, a1, a9, -, h5⟩ := sv_ce Sw h2 hc8 hc
    rw [h72, n_clp (by omega)]
    have hS1 : SV P w nc nl nt n (vew N t c (a - 1)) := SV_w hS ht4 (svw_view Sw ht ht4 (fun _ => sn_V (svw_t Sw h2 ht ht4) hc hc8 (by rw [h72, n_clp (by omega)]; omega) (by omega)) (fun z => absurd h2 z)) (fun j a => pk_un (by omega))
    refine SV_lrn hS1 ht ht4 (fun _ => ?_) (fun z => absurd h2 z)
    refine vwV_cg (fun e he => pk_un (by omega)) ?_
    rcases h5 (a - 1) (by omega) with ⟨-, -, z⟩ | ⟨z, -⟩
    · exact z
    · omega
  · rw [if_neg h2]; exact hS
theorem SV_mem (hS : SV P w nc nl nt n N) (hnt : nt ≤ 4) (hc : c < nc) (hc8 : nc ≤ 8) (hw : w ≠ 2) (hv : inR v) : SV P w nc nl nt n (upd N (48 + c) v) := by
  obtain ⟨St, Sl, Sk, Sc, Sq, Sw⟩ := hS
  refine ⟨svt_cg hnt (fun j a => pk_un (by omega)) St, svl_cg (fun j a b => pk_un (by omega)) Sl, svk_cg (fun j a b => pk_un (by omega)) Sk, fun e he => ?_, svq_cg (fun j a b => pk_un (by omega)) Sq, ?_⟩
  · by_cases q : e = c
    · rw [q, pk_us]; exact Or.inl ⟨hc, hv⟩
    · rw [pk_un (by omega)]; exact Sc e he
  · rcases Sw with ⟨a, b⟩ | ⟨a, -⟩
    · exact Or.inl ⟨a, fun j x y => by rw [pk_un (by omega)]; exact b j x y⟩
    · exact absurd a hw
theorem SV_wrt {tel : Bool} (hS : SV P w nc nl nt n N) (hc8 : nc ≤ 8) (ht : t < nt) (ht4 : nt ≤ 4) (hc : c < nc) (hv : inR v) (h9 : w = 2 → clp (N (72 + c)) < 9) : SV P w nc nl nt n (wrt w N t c v tel) := by
  unfold wrt
  by_cases h2 : w = 2
  · subst h2
    rw [if_pos rfl]
    obtain ⟨St, Sl, Sk, Sc, Sq, Sw⟩ := hS
    obtain ⟨a, h72, a1, a9, -⟩ := sv_ce Sw rfl hc8 hc
    have h9 := h9 rfl
    rw [h72, n_clp (by omega)] at h9 ⊢
    have q : ∀ j, j < 72 → j ≠ 48 + c → wr1 2 N t c a v tel j = N j := fun j b1 b2 => by
      unfold wr1 vew
      rw [pk_un (by omega), pk_un (by omega), pk_un (by omega), pk_un (by omega), pk_un b2]
    refine ⟨svt_cg ht4 (fun j a => q j (by omega) (by omega)) St, svl_cg (fun j a b => q j (by omega) (by omega)) Sl, svk_cg (fun j a b => q j (by omega) (by omega)) Sk, fun e he => ?_, svq_cg (fun j a b => q j (by omega) (by omega)) Sq, svw_wr Sw ht ht4 hc hc8 h72 a1 h9 hv⟩
    by_cases qe : e = c
    · rw [qe]
      have : wr1 2 N t c a v tel (48 + c) = v := by
        unfold wr1 vew
        rw [pk_un (by omega), pk_un (by omega), pk_un (by omega), pk_un (by omega), pk_us]
      rw [this]; exact Or.inl ⟨hc, hv⟩
    · rw [q _ (by omega) (by omega)]; exact Sc e he
  · rw [if_neg h2]
    exact SV_mem hS ht4 hc hc8 h2 hv
theorem SV_sto (hS : SV P w nc nl nt n N) (hc8 : nc ≤ 8) (ht : t < nt) (ht4 : nt ≤ 4) (hc : c < nc) (hv : inR v) (h9 : w = 2 → clp (N (72 + c)) < 9) (h3 : w = 1 → clp (N (56 + t)) < 3) : SV P w nc nl nt n (sto w P N t c v) := by
  unfold sto
  by_cases h1 : w = 1 ∧ vol P c = false
  · rw [if_pos h1]
    obtain ⟨St, Sl, Sk, Sc, Sq, Sw⟩ := hS
    have h3 := h3 h1.1
    rcases Sq t (by omega) with ⟨-, -, q, hq, hq3, hqe⟩ | ⟨z, -⟩
    · rw [hq, n_clp (by omega)] at h3 ⊢
      have e : ∀ j, j ≠ 60 + t * 3 + q → j ≠ 56 + t → upd (upd N (60 + t * 3 + q) (pkq v c)) (56 + t) (nI (q + 1)) j = N j := fun j a b => by rw [pk_un b, pk_un a]
      refine ⟨svt_cg ht4 (fun j a => e j (by omega) (by omega)) St, svl_cg (fun j a b => e j (by omega) (by omega)) Sl, svk_cg (fun j a b => e j (by omega) (by omega)) Sk, svc_cg (fun j a b => e j (by omega) (by omega)) Sc, fun t' ht' => ?_, ?_⟩
      · by_cases qt : t' = t
        · subst qt
          refine Or.inl ⟨h1.1, ht, q + 1, by rw [pk_us], by omega, fun k hk => ?_⟩
          rw [pk_un (by omega)]
          by_cases qk : k = q
          · rw [qk, pk_us]; exact Or.inl ⟨by omega, c, v, hc, h1.2, hv, rfl⟩
          · rw [pk_un (by omega)]
            rcases hqe k hk with ⟨a, b⟩ | ⟨a, b⟩
            · exact Or.inl ⟨by omega, b⟩
            · exact Or.inr ⟨by omega, b⟩
        · rcases Sq t' ht' with ⟨a, b, q', f1, f2, f3⟩ | ⟨a, b, f⟩
          · refine Or.inl ⟨a, b, q', by rw [e _ (by omega) (by omega)]; exact f1, f2, fun k hk => ?_⟩
            rw [e _ (by omega) (by omega)]; exact f3 k hk
          · refine Or.inr ⟨a, by rw [e _ (by omega) (by omega)]; exact b, fun k hk => ?_⟩
            rw [e _ (by omega) (by omega)]; exact f k hk
      · rcases Sw with ⟨a, b⟩ | ⟨a, -⟩
        · exact Or.inl ⟨a, fun j x y => by rw [e j (by omega) (by omega)]; exact b j x y⟩
        · omega
    · exact absurd ⟨h1.1, ht⟩ z
  · rw [if_neg h1]
    exact SV_wrt hS hc8 ht ht4 hc hv h9
theorem SV_flu (hS : SV P w nc nl nt n N) (hc8 : nc ≤ 8) (ht : t < nt) (ht4 : nt ≤ 4) (hq : ¬ N (56 + t) = 0) : SV P w nc nl nt n (flu N t (clp (N (60 + t * 3) &&& (7 : Int32))) (N (60 + t * 3) >>> ((3 : Int32) &&& 31))) := by
  obtain ⟨St, Sl, Sk, Sc, Sq, Sw⟩ := hS
  rcases Sq t (by omega) with ⟨h1, -, q, hq0, hq3, hqe⟩ | ⟨-, z, -⟩
  · have q1 : 1 ≤ q := by
      rcases Nat.eq_zero_or_pos q with z | z
      · subst z; exact absurd hq0 hq
      · exact z
    rcases hqe 0 (by decide) with ⟨-, c, v, hcn, hvol, hv, he⟩ | ⟨z, -⟩
    · have he : N (60 + t * 3) = pkq v c := he
      rw [he, pkq_and (show c < 8 by omega), pkq_shr (show c < 8 by omega) hv, n_clp (by omega)]
      have e : ∀ j, j ≠ 48 + c → j ≠ 60 + t * 3 → j ≠ 60 + t * 3 + 1 → j ≠ 60 + t * 3 + 2 → j ≠ 56 + t → flu N t c v j = N j := fun j a1 a2 a3 a4 a5 => by
        unfold flu
        rw [pk_un a5, pk_un a4, pk_un a3, pk_un a2, pk_un a1]
      have hS1 := SV_mem (v := v) ⟨St, Sl, Sk, Sc, Sq, Sw⟩ ht4 hcn hc8 (show w ≠ 2 by omega) hv
      refine ⟨svt_cg ht4 (fun j a => e j (by omega) (by omega) (by omega) (by omega) (by omega)) St, svl_cg (fun j a b => e j (by omega) (by omega) (by omega) (by omega) (by omega)) Sl, svk_cg (fun j a b => e j (by omega) (by omega) (by omega) (by omega) (by omega)) Sk, ?_, fun t' ht' => ?_, ?_⟩
      · refine svc_cg (fun j a b => ?_) hS1.2.2.2.1
        unfold flu
        rw [pk_un (by omega), pk_un (by omega), pk_un (by omega), pk_un (by omega)]
      · by_cases qt : t' = t
        · subst qt
          have f0 : flu N t' c v (60 + t' * 3 + 0) = N (60 + t' * 3 + 1) := by
            show flu N t' c v (60 + t' * 3) = _
            unfold flu
            rw [pk_un (by omega), pk_un (by omega), pk_un (by omega), pk_us]
          have f1 : flu N t' c v (60 + t' * 3 + 1) = N (60 + t' * 3 + 2) := by
            unfold flu
            rw [pk_un (by omega), pk_un (by omega), pk_us]
          have f2 : flu N t' c v (60 + t' * 3 + 2) = 0 := by
            unfold flu
            rw [pk_un (by omega), pk_us]
          have fq : flu N t' c v (56 + t') = nI (q - 1) := by
            unfold flu
            rw [pk_us, hq0, n_clp (by omega)]
          refine Or.inl ⟨h1, ht, q - 1, fq, by omega, fun k hk => ?_⟩
          rcases (show k = 0 ∨ k = 1 ∨ k = 2 by omega) with rfl | rfl | rfl
          · rw [f0]
            rcases hqe 1 (by decide) with ⟨a, b⟩ | ⟨a, b⟩
            · exact Or.inl ⟨by omega, b⟩
            · exact Or.inr ⟨by omega, b⟩
          · rw [f1]
            rcases hqe 2 (by decide) with ⟨a, b⟩ | ⟨a, b⟩
            · exact Or.inl ⟨by omega, b⟩
            · exact Or.inr ⟨by omega, b⟩
          · rw [f2]; exact Or.inr ⟨by omega, rfl⟩
        · rcases Sq t' ht' with ⟨a, b, q', f1, f2, f3⟩ | ⟨a, b, f⟩
          · refine Or.inl ⟨a, b, q', by rw [e _ (by omega) (by omega) (by omega) (by omega) (by omega)]; exact f1, f2, fun k hk => ?_⟩
            rw [e _ (by omega) (by omega) (by omega) (by omega) (by omega)]; exact f3 k hk
          · refine Or.inr ⟨a, by rw [e _ (by omega) (by omega) (by omega) (by omega) (by omega)]; exact b, fun k hk => ?_⟩
            rw [e _ (by omega) (by omega) (by omega) (by omega) (by omega)]; exact f k hk
      · rcases Sw with ⟨a, b⟩ | ⟨a, -⟩
        · exact Or.inl ⟨a, fun j x y => by rw [e j (by omega) (by omega) (by omega) (by omega) (by omega)]; exact b j x y⟩
        · omega
    · omega
  · exact absurd z hq
/-- a lock anew -/
theorem svk_up (hl : l < 4) (g : SVk nl nt N) (h : ∀ j, 40 ≤ j → j < 48 → j ≠ 40 + l → j ≠ 44 + l → M j = N j) (hM : (M (40 + l) = -1 ∧ M (44 + l) = 0) ∨ (l < nl ∧ ∃ t q, t < nt ∧ M (40 + l) = nI t ∧ M (44 + l) = nI q ∧ 1 ≤ q ∧ q ≤ 9)) : SVk nl nt M := by
  intro l' hl'
  by_cases q : l' = l
  · rw [q]; exact hM
  · rw [h _ (by omega) (by omega) (by omega) (by omega), h (44 + l') (by omega) (by omega) (by omega) (by omega)]; exact g l' hl'
theorem SV_k (hS : SV P w nc nl nt n N) (hnt : nt ≤ 4) (hM : SVk nl nt M) (h : ∀ j, j < 233 → (j < 40 ∨ 48 ≤ j) → M j = N j) : SV P w nc nl nt n M := by
  obtain ⟨St, Sl, -, Sc, Sq, Sw⟩ := hS
  exact ⟨svt_cg hnt (fun j a => h j (by omega) (by omega)) St, svl_cg (fun j a b => h j (by omega) (by omega)) Sl, hM, svc_cg (fun j a b => h j (by omega) (by omega)) Sc, svq_cg (fun j a b => h j (by omega) (by omega)) Sq, svw_cg (fun j a b => h j b (by omega)) Sw⟩
theorem SV_take (hS : SV P w nc nl nt n N) (ht : t < nt) (ht4 : nt ≤ 4) (hl : l < nl) (hl4 : nl ≤ 4) (hx : ∃ q, x = nI q ∧ 1 ≤ q ∧ q ≤ 9) : SV P w nc nl nt n (upd (upd N (40 + l) (nI t)) (44 + l) x) := by
  obtain ⟨q, rfl, q1, q9⟩ := hx
  refine SV_k hS ht4 (svk_up (l := l) (by omega) hS.2.2.1 (fun j a b c d => by rw [pk_un d, pk_un c]) (Or.inr ⟨hl, t, q, ht, ?_, ?_, q1, q9⟩)) (fun j a b => by rw [pk_un (by omega), pk_un (by omega)])
  · rw [pk_un (by omega), pk_us]
  · rw [pk_us]
theorem SV_lev (hS : SV P w nc nl nt n N) (ht : t < nt) (ht4 : nt ≤ 4) (hl : l < nl) (hl4 : nl ≤ 4) (h40 : N (40 + l) = nI t) (hx : ∃ q, x = nI q ∧ q ≤ 8) : SV P w nc nl nt n (lev (upd N (44 + l) x) t l) := by
  obtain ⟨q, rfl, q8⟩ := hx
  have Sw := hS.2.2.2.2.2
  unfold lev
  rw [pk_us, pk_un (show 224 + t ≠ 44 + l by omega)]
  have hv : SVw w nc nl nt (upd N (228 + l) (N (224 + t))) := svw_lock Sw hl hl4 (fun h => svw_t Sw h ht ht4) (fun h => svw_0 Sw h (by omega) (by omega))
  have hS1 : SV P w nc nl nt n (upd N (228 + l) (N (224 + t))) := SV_w hS ht4 hv (fun j a => pk_un (by omega))
  by_cases q0 : q = 0
  · subst q0
    rw [if_pos (show nI 0 = 0 from rfl), upd_cm (show 44 + l ≠ 228 + l by omega)]
    refine SV_k hS1 ht4 (svk_up (l := l) (by omega) hS1.2.2.1 (fun j a b c d => by rw [pk_un c, pk_un d]) (Or.inl ⟨?_, ?_⟩)) (fun j a b => by rw [pk_un (by omega), pk_un (by omega)])
    · rw [pk_us]
    · rw [pk_un (by omega), pk_us]; rfl
  · rw [if_neg (by rw [n_eq (by decide) (by omega)]; exact q0), upd_cm (show 44 + l ≠ 228 + l by omega)]
    refine SV_k hS1 ht4 (svk_up (l := l) (by omega) hS1.2.2.1 (fun j a b c d => by rw [pk_un d]) (Or.inr ⟨hl, t, q, ht, ?_, ?_, by omega, by omega⟩)) (fun j a b => by rw [pk_un (by omega)])
    · rw [pk_un (by omega), pk_un (by omega)]; exact h40
    · rw [pk_us]
theorem SV_wak {co : Option Nat} (hS : SV P w nc nl nt n N) (ht4 : nt ≤ 4) : ∀ u, u ≤ nt → SV P w nc nl nt n (wak P N l co u) := by
  intro u
  induction u with
  | zero => intro _; exact hS
  | succ u ih =>
    intro hu
    have h := ih (by omega)
    show SV P w nc nl nt n (if wtf P N u l = true ∧ (co = none ∨ co = some (wts P N l u)) then upd (wak P N l co u) u 3 else wak P N l co u)
    by_cases hc : wtf P N u l = true ∧ (co = none ∨ co = some (wts P N l u))
    · rw [if_pos hc]
      have h2 : N u = 2 := by
        have := hc.1
        unfold wtf at this
        exact (of_decide_eq_true this).1
      refine SV_t h (svt_up ht4 (show u < nt by omega) h.1 (fun j a b c d e => pk_un b) ?_) (fun j a b => pk_un (by omega))
      have hw : ∀ j, u ≤ j → wak P N l co u j = N j := fun j hj => wak_o u j hj
      rcases hS.1.1 u (by omega) with ⟨z, -⟩ | ⟨z, -⟩ | ⟨-, ⟨i, a1, a2, a3, a4⟩, a5, q, a6, a7⟩ | ⟨z, -⟩
      · rcases z with z | z <;> rw [h2] at z <;> exact absurd z (by decide)
      · rw [h2] at z; exact absurd z (by decide)
      · refine Or.inr (Or.inr (Or.inl ⟨Or.inr (by rw [pk_us]), ⟨i, a1, ?_, a3, a4⟩, ?_, q, ?_, a7⟩))
        · rw [pk_un (by omega), hw _ (by omega)]; exact a2
        · rw [pk_un (by omega), hw _ (by omega)]; exact a5
        · rw [pk_un (by omega), hw _ (by omega)]; exact a6
      · rw [h2] at z; exact absurd z (by decide)
    · rw [if_neg hc]; exact h
end SVS

