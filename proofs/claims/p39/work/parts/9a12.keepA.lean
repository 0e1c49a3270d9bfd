/-! WHAT HOLDS OF STATES is kept by steps: parts. -/
section SVP
variable {t i n w a c l u ch nc nl nt k o j : Nat} {v x z : Int32} {N M : fI} {P : Nat → fI}
theorem thV_cg (h : M t = N t ∧ M (4 + t) = N (4 + t) ∧ M (8 + t) = N (8 + t) ∧ M (12 + t) = N (12 + t)) (g : thV P n N t) : thV P n M t := by
  obtain ⟨h1, h2, h3, h4⟩ := h
  unfold thV
  rw [h1, h2, h3, h4]
  exact g
theorem svt_cg (hnt : nt ≤ 4) (h : ∀ j, j < 16 → M j = N j) (g : SVt P nt n N) : SVt P nt n M := by
  refine ⟨fun t ht => ?_, fun t h1 h2 => ?_⟩
  · exact thV_cg ⟨h t (by omega), h _ (by omega), h _ (by omega), h _ (by omega)⟩ (g.1 t ht)
  · rw [h t (by omega), h _ (by omega), h _ (by omega), h _ (by omega)]; exact g.2 t h1 h2
theorem svl_cg (h : ∀ j, 16 ≤ j → j < 40 → M j = N j) (g : SVl P nt N) : SVl P nt M := by
  intro t j ht hj
  rw [h _ (by omega) (by omega)]; exact g t j ht hj
theorem svk_cg (h : ∀ j, 40 ≤ j → j < 48 → M j = N j) (g : SVk nl nt N) : SVk nl nt M := by
  intro l hl
  rw [h _ (by omega) (by omega), h (44 + l) (by omega) (by omega)]; exact g l hl
theorem svc_cg (h : ∀ j, 48 ≤ j → j < 56 → M j = N j) (g : SVc nc N) : SVc nc M := by
  intro c hc
  rw [h _ (by omega) (by omega)]; exact g c hc
theorem quV_cg (ht : t < 4) (h : ∀ j, 56 ≤ j → j < 72 → M j = N j) (g : quV P nc N t) : quV P nc M t := by
  obtain ⟨q, h1, h2, h3⟩ := g
  refine ⟨q, by rw [h _ (by omega) (by omega)]; exact h1, h2, fun k hk => ?_⟩
  rw [h _ (by omega) (by omega)]; exact h3 k hk
theorem svq_cg (h : ∀ j, 56 ≤ j → j < 72 → M j = N j) (g : SVq P w nc nt N) : SVq P w nc nt M := by
  intro t ht
  rcases g t ht with ⟨a, b, c⟩ | ⟨a, b, c⟩
  · exact Or.inl ⟨a, b, quV_cg ht h c⟩
  · refine Or.inr ⟨a, by rw [h _ (by omega) (by omega)]; exact b, fun k hk => ?_⟩
    rw [h _ (by omega) (by omega)]; exact c k hk
theorem vwV_cg (h : ∀ c, c < 8 → M (72 + c) = N (72 + c)) (g : vwV nc N v) : vwV nc M v := by
  intro c hc
  rw [h c hc]; exact g c hc
theorem ceV_cg (hc : c < 8) (h : ∀ j, 48 ≤ j → j < 224 → M j = N j) (g : ceV nc N c) : ceV nc M c := by
  obtain ⟨a, h1, h2, h3, h4, h5⟩ := g
  refine ⟨a, by rw [h _ (by omega) (by omega)]; exact h1, h2, h3, ?_, fun k hk => ?_⟩
  · rw [h _ (by omega) (by omega), h (80 + c * 9 + (a - 1)) (by omega) (by omega)]; exact h4
  · rw [h (80 + c * 9 + k) (by omega) (by omega), h (152 + c * 9 + k) (by omega) (by omega)]
    rcases h5 k hk with ⟨x1, x2, x3⟩ | x
    · exact Or.inl ⟨x1, x2, vwV_cg (fun e he => h _ (by omega) (by omega)) x3⟩
    · exact Or.inr x
theorem svw_cg (h : ∀ j, 48 ≤ j → j < 233 → M j = N j) (g : SVw w nc nl nt N) : SVw w nc nl nt M := by
  have h72 : ∀ c, c < 8 → M (72 + c) = N (72 + c) := fun c hc => h _ (by omega) (by omega)
  rcases g with ⟨g1, g2⟩ | ⟨g1, g2, g3, g4, g5⟩
  · exact Or.inl ⟨g1, fun j a b => by rw [h j (by omega) b]; exact g2 j a b⟩
  · refine Or.inr ⟨g1, fun c hc => ?_, fun t ht => ?_, fun l hl => ?_, ?_⟩
    · rcases g2 c hc with ⟨a, b⟩ | ⟨a, b, d⟩
      · exact Or.inl ⟨a, ceV_cg hc (fun j x y => h j x (by omega)) b⟩
      · refine Or.inr ⟨a, by rw [h72 c hc]; exact b, fun k hk => ?_⟩
        rw [h (80 + c * 9 + k) (by omega) (by omega), h (152 + c * 9 + k) (by omega) (by omega)]; exact d k hk
    · rw [h _ (by omega) (by omega)]
      rcases g3 t ht with ⟨a, b⟩ | b
      · exact Or.inl ⟨a, vwV_cg h72 b⟩
      · exact Or.inr b
    · rw [h _ (by omega) (by omega)]
      rcases g4 l hl with ⟨a, b⟩ | b
      · exact Or.inl ⟨a, vwV_cg h72 b⟩
      · exact Or.inr b
    · rw [h _ (by omega) (by omega)]; exact vwV_cg h72 g5
/-! views -/
theorem jn_V (h : vwV nc N v) (g : vwV nc N x) : vwV nc N (jn v x) := by
  intro c hc
  rw [jn_nb hc]
  rcases h c hc with ⟨a, b⟩ | ⟨a, b⟩
  · rcases g c hc with ⟨-, e⟩ | ⟨a', -⟩
    · exact Or.inl ⟨a, by omega⟩
    · omega
  · rcases g c hc with ⟨a', -⟩ | ⟨-, e⟩
    · omega
    · exact Or.inr ⟨a, by omega⟩
theorem sn_V (h : vwV nc N v) (hc : c < nc) (hc8 : nc ≤ 8) (hk : k < clp (N (72 + c))) (hk16 : k < 16) : vwV nc N (sn v c k) := by
  intro e he
  rw [sn_nb (by omega) hk16 he]
  by_cases q : e = c
  · rw [if_pos q, q]; exact Or.inl ⟨hc, hk⟩
  · rw [if_neg q]; exact h e he
/-- a thread's view anew -/
theorem svw_view (hS : SVw w nc nl nt N) (ht : t < nt) (ht4 : nt ≤ 4) (hw : w = 2 → vwV nc N v) (hw0 : w ≠ 2 → v = 0) : SVw w nc nl nt (upd N (224 + t) v) := by
  have h72 : ∀ c, c < 8 → upd N (224 + t) v (72 + c) = N (72 + c) := fun c hc => pk_un (by omega)
  rcases hS with ⟨g1, g2⟩ | ⟨g1, g2, g3, g4, g5⟩
  · refine Or.inl ⟨g1, fun j a b => ?_⟩
    by_cases q : j = 224 + t
    · rw [q, pk_us]; exact hw0 g1
    · rw [pk_un q]; exact g2 j a b
  · refine Or.inr ⟨g1, fun c hc => ?_, fun t' ht' => ?_, fun l hl => ?_, ?_⟩
    · rcases g2 c hc with ⟨a, b⟩ | ⟨a, b, d⟩
      · exact Or.inl ⟨a, ceV_cg hc (fun j x y => pk_un (by omega)) b⟩
      · refine Or.inr ⟨a, by rw [h72 c hc]; exact b, fun k hk => ?_⟩
        rw [pk_un (by omega), pk_un (by omega)]; exact d k hk
    · by_cases q : t' = t
      · rw [q, pk_us]; exact Or.inl ⟨ht, vwV_cg h72 (hw g1)⟩
      · rw [pk_un (by omega)]
        rcases g3 t' ht' with ⟨a, b⟩ | b
        · exact Or.inl ⟨a, vwV_cg h72 b⟩
        · exact Or.inr b
    · rw [pk_un (by omega)]
      rcases g4 l hl with ⟨a, b⟩ | b
      · exact Or.inl ⟨a, vwV_cg h72 b⟩
      · exact Or.inr b
    · rw [pk_un (by omega)]; exact vwV_cg h72 g5
theorem svw_lock (hS : SVw w nc nl nt N) (hl : l < nl) (hl4 : nl ≤ 4) (hw : w = 2 → vwV nc N v) (hw0 : w ≠ 2 → v = 0) : SVw w nc nl nt (upd N (228 + l) v) := by
  have h72 : ∀ c, c < 8 → upd N (228 + l) v (72 + c) = N (72 + c) := fun c hc => pk_un (by omega)
  rcases hS with ⟨g1, g2⟩ | ⟨g1, g2, g3, g4, g5⟩
  · refine Or.inl ⟨g1, fun j a b => ?_⟩
    by_cases q : j = 228 + l
    · rw [q, pk_us]; exact hw0 g1
    · rw [pk_un q]; exact g2 j a b
  · refine Or.inr ⟨g1, fun c hc => ?_, fun t' ht' => ?_, fun l' hl' => ?_, ?_⟩
    · rcases g2 c hc with ⟨a, b⟩ | ⟨a, b, d⟩
      · exact Or.inl ⟨a, ceV_cg hc (fun j x y => pk_un (by omega)) b⟩
      · refine Or.inr ⟨a, by rw [h72 c hc]; exact b, fun k hk => ?_⟩
        rw [pk_un (by omega), pk_un (by omega)]; exact d k hk
    · rw [pk_un (by omega)]
      rcases g3 t' ht' with ⟨a, b⟩ | b
      · exact Or.inl ⟨a, vwV_cg h72 b⟩
      · exact Or.inr b
    · by_cases q : l' = l
      · rw [q, pk_us]; exact Or.inl ⟨hl, vwV_cg h72 (hw g1)⟩
      · rw [pk_un (by omega)]
        rcases g4 l' hl' with ⟨a, b⟩ | b
        · exact Or.inl ⟨a, vwV_cg h72 b⟩
        · exact Or.inr b
    · rw [pk_un (by omega)]; exact vwV_cg h72 g5
theorem svw_fence (hS : SVw w nc nl nt N) (hw : w = 2 → vwV nc N v) (hw0 : w ≠ 2 → v = 0) : SVw w nc nl nt (upd N 232 v) := by
  have h72 : ∀ c, c < 8 → upd N 232 v (72 + c) = N (72 + c) := fun c hc => pk_un (by omega)
  rcases hS with ⟨g1, g2⟩ | ⟨g1, g2, g3, g4, g5⟩
  · refine Or.inl ⟨g1, fun j a b => ?_⟩
    by_cases q : j = 232
    · rw [q, pk_us]; exact hw0 g1
    · rw [pk_un q]; exact g2 j a b
  · refine Or.inr ⟨g1, fun c hc => ?_, fun t' ht' => ?_, fun l' hl' => ?_, ?_⟩
    · rcases g2 c hc with ⟨a, b⟩ | ⟨a, b, d⟩
      · exact Or.inl ⟨a, ceV_cg hc (fun j x y => pk_un (by omega)) b⟩
      · refine Or.inr ⟨a, by rw [h72 c hc]; exact b, fun k hk => ?_⟩
        rw [pk_un (by omega), pk_un (by omega)]; exact d k hk
    · rw [pk_un (by omega)]
      rcases g3 t' ht' with ⟨a, b⟩ | b
      · exact Or.inl ⟨a, vwV_cg h72 b⟩
      · exact Or.inr b
    · rw [pk_un (by omega)]
      rcases g4 l' hl' with ⟨a, b⟩ | b
      · exact Or.inl ⟨a, vwV_cg h72 b⟩
      · exact Or.inr b
    · rw [pk_us]; exact vwV_cg h72 (hw g1)
theorem svw_0 (hS : SVw w nc nl nt N) (hw : w ≠ 2) (h1 : 72 ≤ j) (h2 : j < 233) : N j = 0 := by
  rcases hS with ⟨-, g2⟩ | ⟨g1, -⟩
  · exact g2 j h1 h2
  · exact absurd g1 hw
theorem svw_t (hS : SVw w nc nl nt N) (hw : w = 2) (ht : t < nt) (ht4 : nt ≤ 4) : vwV nc N (N (224 + t)) := sv_vw hS hw (by omega) ht
theorem svw_l (hS : SVw w nc nl nt N) (hw : w = 2) (hl : l < nl) (hl4 : nl ≤ 4) : vwV nc N (N (228 + l)) := by
  rcases hS with ⟨g1, -⟩ | ⟨-, -, -, g4, -⟩
  · exact absurd hw g1
  · rcases g4 l (by omega) with ⟨-, b⟩ | ⟨a, -⟩
    · exact b
    · omega
theorem svw_f (hS : SVw w nc nl nt N) (hw : w = 2) : vwV nc N (N 232) := by
  rcases hS with ⟨g1, -⟩ | ⟨-, -, -, -, g5⟩
  · exact absurd hw g1
  · exact g5
theorem svw_lrn (hS : SVw w nc nl nt N) (ht : t < nt) (ht4 : nt ≤ 4) (hw : w = 2 → vwV nc N v) (hw0 : w ≠ 2 → v = 0) : SVw w nc nl nt (lrn N t v) := by
  refine svw_view hS ht ht4 (fun h => jn_V (svw_t hS h ht ht4) (hw h)) (fun h => ?_)
  rw [hw0 h, svw_0 hS h (by omega) (by omega)]
  exact jn_0
/-- a write more -/
theorem svw_wr (hS : SVw 2 nc nl nt N) (ht : t < nt) (ht4 : nt ≤ 4) (hc : c < nc) (hc8 : nc ≤ 8) (ha : N (72 + c) = nI a) (ha1 : 1 ≤ a) (ha9 : a < 9) (hv : inR v) {tel : Bool} : SVw 2 nc nl nt (wr1 2 N t c a v tel) := by
  rcases hS with ⟨g1, -⟩ | ⟨-, g2, g3, g4, g5⟩
  · exact absurd rfl g1
  have q : ∀ j, j ≠ 48 + c → j ≠ 72 + c → j ≠ 80 + c * 9 + a → j ≠ 224 + t → j ≠ 152 + c * 9 + a → wr1 2 N t c a v tel j = N j := fun j b1 b2 b3 b4 b5 => by
    unfold wr1 vew
    rw [pk_un b5, pk_un b4, pk_un b3, pk_un b2, pk_un b1]
  have q48 : wr1 2 N t c a v tel (48 + c) = v := by
    unfold wr1 vew
    rw [pk_un (by omega), pk_un (by omega), pk_un (by omega), pk_un (by omega), pk_us]
  have q72 : wr1 2 N t c a v tel (72 + c) = nI (a + 1) := by
    unfold wr1 vew
    rw [pk_un (by omega), pk_un (by omega), pk_un (by omega), pk_us]
  have q80 : wr1 2 N t c a v tel (80 + c * 9 + a) = v := by
    unfold wr1 vew
    rw [pk_un (by omega), pk_un (by omega), pk_us]
  have q224 : wr1 2 N t c a v tel (224 + t) = sn (N (224 + t)) c a := by
    unfold wr1 vew
    rw [pk_un (by omega), pk_us, pk_un (by omega), pk_un (by omega), pk_un (by omega)]
  have q152 : wr1 2 N t c a v tel (152 + c * 9 + a) = if tel then sn (N (224 + t)) c a else 0 := by
    unfold wr1; rw [pk_us]
  have mono : ∀ x, vwV nc N x → vwV nc (wr1 2 N t c a v tel) x := by
    intro x hx e he
    rcases hx e he with ⟨b1, b2⟩ | b
    · refine Or.inl ⟨b1, ?_⟩
      by_cases ec : e = c
      · rw [ec, q72, n_clp (by omega)]
        rw [ec, ha, n_clp (by omega)] at b2
        omega
      · rw [q _ (by omega) (by omega) (by omega) (by omega) (by omega)]; exact b2
    · exact Or.inr b
  have hvt : vwV nc N (N (224 + t)) := by
    rcases g3 t (by omega) with ⟨-, b⟩ | ⟨b, -⟩
    · exact b
    · omega
  have hnew : vwV nc (wr1 2 N t c a v tel) (sn (N (224 + t)) c a) := sn_V (mono _ hvt) hc hc8 (by rw [q72, n_clp (by omega)]; omega) (by omega)
  have hz : vwV nc (wr1 2 N t c a v tel) 0 := by
    intro e he
    by_cases h : e < nc
    · refine Or.inl ⟨h, ?_⟩
      rw [nb_0 he]
      by_cases ec : e = c
      · rw [ec, q72, n_clp (by omega)]; omega
      · rw [q _ (by omega) (by omega) (by omega) (by omega) (by omega)]
        rcases g2 e he with ⟨-, a', h1, h2, h3, -⟩ | ⟨b, -⟩
        · rw [h1, n_clp (by omega)]; omega
        · omega
    · exact Or.inr ⟨by omega, nb_0 he⟩
  refine Or.inr ⟨rfl, fun e he => ?_, fun t' ht' => ?_, fun l hl => ?_, ?_⟩
  · by_cases ec : e = c
    · subst ec
      rcases g2 e he with ⟨-, a', h1, h2, h3, h4, h5⟩ | ⟨b, -⟩
      · have : a' = a := by
          rw [ha] at h1
          exact ((nI_eq (by omega) (by omega)).mp h1).symm
        subst this
        refine Or.inl ⟨hc, a' + 1, q72, by omega, by omega, ?_, fun k hk => ?_⟩
        · rw [q48, show a' + 1 - 1 = a' by omega, q80]
        · by_cases hka : k = a'
          · subst hka
            rw [q80, q152]
            refine Or.inl ⟨by omega, hv, ?_⟩
            cases tel
            · exact hz
            · exact hnew
          · rw [q (80 + e * 9 + k) (by omega) (by omega) (by omega) (by omega) (by omega), q (152 + e * 9 + k) (by omega) (by omega) (by omega) (by omega) (by omega)]
            rcases h5 k hk with ⟨x1, x2, x3⟩ | ⟨x1, x2⟩
            · exact Or.inl ⟨by omega, x2, mono _ x3⟩
            · exact Or.inr ⟨by omega, x2⟩
      · omega
    · rcases g2 e he with ⟨b, a', h1, h2, h3, h4, h5⟩ | ⟨b, d1, d2⟩
      · refine Or.inl ⟨b, a', ?_, h2, h3, ?_, fun k hk => ?_⟩
        · rw [q _ (by omega) (by omega) (by omega) (by omega) (by omega)]; exact h1
        · rw [q _ (by omega) (by omega) (by omega) (by omega) (by omega), q (80 + e * 9 + (a' - 1)) (by omega) (by omega) (by omega) (by omega) (by omega)]; exact h4
        · rw [q (80 + e * 9 + k) (by omega) (by omega) (by omega) (by omega) (by omega), q (152 + e * 9 + k) (by omega) (by omega) (by omega) (by omega) (by omega)]
          rcases h5 k hk with ⟨x1, x2, x3⟩ | x
          · exact Or.inl ⟨x1, x2, mono _ x3⟩
          · exact Or.inr x
      · refine Or.inr ⟨b, ?_, fun k hk => ?_⟩
        · rw [q _ (by omega) (by omega) (by omega) (by omega) (by omega)]; exact d1
        · rw [q (80 + e * 9 + k) (by omega) (by omega) (by omega) (by omega) (by omega), q (152 + e * 9 + k) (by omega) (by omega) (by omega) (by omega) (by omega)]; exact d2 k hk
  · by_cases tt : t' = t
    · rw [tt, q224]; exact Or.inl ⟨ht, hnew⟩
    · rw [q _ (by omega) (by omega) (by omega) (by omega) (by omega)]
      rcases g3 t' ht' with ⟨b, d⟩ | b
      · exact Or.inl ⟨b, mono _ d⟩
      · exact Or.inr b
  · rw [q _ (by omega) (by omega) (by omega) (by omega) (by omega)]
    rcases g4 l hl with ⟨b, d⟩ | b
    · exact Or.inl ⟨b, mono _ d⟩
    · exact Or.inr b
  · rw [q _ (by omega) (by omega) (by omega) (by omega) (by omega)]
    exact mono _ g5
end SVP

