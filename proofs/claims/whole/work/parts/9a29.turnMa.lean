/-! THE RUN, the model's side: what holds of it between calls; a turn. -/
abbrev RMi (τ : qS) (P : Nat → fI) (w : Nat) (N : fI) (nc nl nt n len : Nat) (g : Nat → fI) : Prop := MB τ 3 P nc nl nt n ∧ MR w N (τ.1 191) ∧ (∀ u, u < nt → τ.1 192 u = N (8 + u)) ∧ (τ.1 151 12 = nI nc ∧ τ.1 151 16 = nI nl ∧ τ.1 151 18 = nI nt ∧ τ.1 151 76 = nI w ∧ τ.1 151 78 = nI len ∧ ¬ τ.1 151 74 = 0) ∧ (∀ k, k < 6 → τ.1 (193 + k) = g k) ∧ (∀ i, i < len → g 3 i ≠ 20 → τ.2.1 199 i = τ.2.1 180 (300 + clp (g 2 i)))
section TM
variable {en : pN} {d : Nat} {σ τ : qS} {X : fJ} {t ch w nc nl nt n len : Nat} {P g : Nat → fI} {K W F s y gg N R : fI} {D : Int64} {u v : Int32}
theorem kp_id' (h : ∀ k, k < 6 → τ.1 (193 + k) = g k) : kpS τ (τ.1 191) (τ.1 192) g (τ.2.1 199) = τ := by
  refine Prod.ext (funext fun a => funext fun k => ?_) (Prod.ext (funext fun a => funext fun k => ?_) rfl)
  · show (if a = 191 then τ.1 191 k else if a = 192 then τ.1 192 k else if 193 ≤ a ∧ a < 199 then g (a - 193) k else τ.1 a k) = τ.1 a k
    by_cases q : a = 191
    · rw [if_pos q, q]
    rw [if_neg q]
    by_cases z : a = 192
    · rw [if_pos z, z]
    rw [if_neg z]
    by_cases u : 193 ≤ a ∧ a < 199
    · rw [if_pos u, ← h (a - 193) (by omega), show 193 + (a - 193) = a by omega]
    · rw [if_neg u]
  · show (if a = 199 then τ.2.1 199 k else τ.2.1 a k) = τ.2.1 a k
    by_cases q : a = 199
    · rw [if_pos q, q]
    · rw [if_neg q]
theorem rm_pic (h : RMi τ P w N nc nl nt n len g) : mM (kpS τ (τ.1 191) (τ.1 192) g (τ.2.1 199)) (τ.1 151) (τ.1 187) (τ.1 188) (τ.1 189) (τ.2.1 151 72) = τ := by
  rw [kp_id' h.2.2.2.2.1]
  exact mM_id
theorem mk_g {r : Nat} (h : r < 6) : (mM (kpS σ K W g X) F s y gg D).1 (193 + r) = g r := by
  rw [mM_o (by omega) (by omega) (by omega) (by omega), kp_g h]
theorem mk_X : (mM (kpS σ K W g X) F s y gg D).2.1 199 = X := by
  rw [mM_J (by decide)]
  funext k
  show (if (199 : Nat) = 199 then X k else σ.2.1 199 k) = X k
  exact if_pos rfl
theorem mk_180 : (mM (kpS σ K W g X) F s y gg D).2.1 180 = σ.2.1 180 := by
  rw [mM_J (by decide)]
  funext k
  show (if (180 : Nat) = 199 then X k else σ.2.1 180 k) = σ.2.1 180 k
  exact if_neg (by decide)
theorem rm_mk (hB : MB σ 3 P nc nl nt n) (hR : MR w N K) (hW : ∀ u, u < nt → W u = N (8 + u)) (h12 : F 12 = nI nc) (h16 : F 16 = nI nl) (h18 : F 18 = nI nt) (h76 : F 76 = nI w) (h78 : F 78 = nI len) (h74 : ¬ F 74 = 0) (hX : ∀ i, i < len → g 3 i ≠ 20 → X i = σ.2.1 180 (300 + clp (g 2 i))) : RMi (mM (kpS σ K W g X) F s y gg D) P w N nc nl nt n len g := by
  refine ⟨mb_cg (fun a h1 h2 h3 => ?_) hB, ?_, ?_, ?_, fun k hk => mk_g hk, ?_⟩
  · rw [mM_o h3 (by omega) (by omega) (by omega), kp_o (by omega)]
  · rw [mk_K]; exact hR
  · rw [mk_W]; exact hW
  · rw [mM_F]; exact ⟨h12, h16, h18, h76, h78, h74⟩
  · rw [mk_X, mk_180]; exact hX
/-- what a call on the model's run may change -/
abbrev frM (σ τ : qS) : Prop := (∀ a, a ≠ 151 → (a < 187 ∨ 199 ≤ a) → τ.1 a = σ.1 a) ∧ (∀ k, (k < 58 ∨ 74 ≤ k) → k ≠ 76 → k ≠ 78 → τ.1 151 k = σ.1 151 k) ∧ (∀ a, a ≠ 151 → a ≠ 199 → τ.2.1 a = σ.2.1 a) ∧ (∀ k, k ≠ 72 → τ.2.1 151 k = σ.2.1 151 k) ∧ τ.2.2 = σ.2.2
theorem fm_pic (hF : ∀ k, (k < 58 ∨ 74 ≤ k) → k ≠ 76 → k ≠ 78 → F k = σ.1 151 k) : frM σ (mM (kpS (uIr σ 190 R) K W g X) F s y gg D) := by
  refine ⟨fun a h1 h2 => ?_, fun k hk h1 h2 => ?_, fun a h1 h2 => ?_, fun k hk => ?_, rfl⟩
  · rw [mM_o h1 (by omega) (by omega) (by omega), kp_o (by omega), uIr_ne (by omega)]
  · rw [mM_F]; exact hF k hk h1 h2
  · rw [mM_J h1]
    funext k
    exact if_neg h2
  · show (if (151 : Nat) = 151 ∧ k = 72 then D else if (151 : Nat) = 199 then X k else σ.2.1 151 k) = _
    rw [if_neg (fun w => hk w.2), if_neg (by decide)]
theorem rdl_len (hP : PV P nc nl nt n) (hS : SV P w nc nl nt n N) : (rdl P w N nt nt).length ≤ 40 := by
  have ht4 := hP.2.2.1.2
  have hlen : ∀ t, t ≤ nt → (rdl P w N nt t).length ≤ 10 * t := by
    intro t
    induction t with
    | zero => intro _; exact Nat.le_refl _
    | succ t ih =>
      intro ht
      have h1 := ih (by omega)
      have h2 := rdT_len (ch_le hP hS (show t < nt by omega))
      show (rdl P w N nt t ++ rdT P w N nt t).length ≤ _
      rw [List.length_append]
      omega
  have := hlen nt (Nat.le_refl _)
  omega
/-- what a turn comes to, the model's side -/
def trM (τ : qS) (P : Nat → fI) (w : Nat) (N : fI) (nc nl nt n len : Nat) (g : Nat → fI) (u v : Int32) (r : Int32) (τ' : qS) : Prop := frM τ τ' ∧
  ((¬ (∃ t ch, u = nI t ∧ v = nI ch ∧ ch < 10 ∧ rdS P w N t ch nt) ∧ r = -2 ∧ RMi τ' P w N nc nl nt n len g) ∨
   ∃ t ch, (u = nI t ∧ v = nI ch ∧ ch < 10 ∧ rdS P w N t ch nt) ∧ ((len = 200 ∧ r = -3 ∧ RMi τ' P w N nc nl nt n len g) ∨ (len < 200 ∧ r = nI (rdl P w (stp P w N t ch nt) nt nt).length ∧ ∃ F1 : fI, (F1 68 = lnA P N t ch ∧ F1 69 = acA P w N t ch nt ∧ (ch ≠ 9 → F1 70 = P 9 (clp (N (4 + t)))) ∧ (acA P w N t ch nt = 15 ∨ acA P w N t ch nt = 16 → F1 71 = exr (exv P 5 N (clp (N (4 + t)))))) ∧ RMi τ' P w (stp P w N t ch nt) nc nl nt n (len + 1) (stR g len (msV t ch F1)))))
end TM
