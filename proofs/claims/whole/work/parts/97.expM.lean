/-! THE MODEL'S EXPRESSIONS: what they give is what the class's give. -/
theorem pk_uu {f : fI} {k : Nat} {x z : Int32} : upd (upd f k x) k z = upd f k z := by
  funext j
  by_cases h : j = k
  · rw [h, pk_us, pk_us]
  · rw [pk_un h, pk_un h, pk_un h]
section MX3
variable {en : pN} {d t i n top k K w e r off : Nat} {v q : Int32} {σ : qS} {F s y g N O Q : fI} {P : Nat → fI} {D : Int64}
/-- nodes of both from i to e -/
abbrev ndsR (σ : qS) (O Q : fI) (t off i e : Nat) : Prop := ∀ j, i ≤ j → j < e → ∀ k, O j = nI k → k < 256 → ∃ K, σ.1 161 (off + j) = nI K ∧ ndR t k (Q j) K (σ.1 162 (off + j))
theorem m_exL (hR : MR w N s) (ht : t < 4) (he : off + e ≤ 900) (he4 : e ≤ 400) : ∀ (n i top : Nat) (f g F : fI), i + n = e → top ≤ i → dpk O Q 236 n i top → ndsR σ O Q t off i e → (∀ j, i ≤ j → j < e → σ.1 161 (off + j) = 21 → (F 64 = 0 ∨ F 64 = 1) ∧ N 234 = F 64) → (F 62 = 0 → ∀ j, j < top → g j = f j) → (top = 0 → f 0 = 0) → F 62 = 0 ∨ F 62 = 1 →
    ∃ (v' b' : Int32) (g' : fI), L_X12_worked_32 en (d + 3) (nI (off + e)) (nI t) (nI top) (nI (off + i)) (mM σ F s y g D) = some (some (.int v'), mM σ (upd F 62 b') s y g' D) ∧ (b' = 0 ∨ b' = 1) ∧ (F 62 = 1 → b' = 1) ∧ (F 62 = 0 → b' = exb (wk O Q N n i f top) ∧ (wk O Q N n i f top ≠ none → v' = exr (wk O Q N n i f top))) := by
  intro n
  induction n with
  | zero =>
    intro i top f g F hi htop hd hn hst hag h00 hb
    obtain rfl : i = e := by omega
    have eF : upd F 62 (F 62) = F := by
      funext j
      by_cases h : j = 62
      · rw [h, pk_us]
      · rw [pk_un h]
    refine ⟨if top = 0 then 0 else g 0, F 62, g, le_X12_worked_32 en (d + 3) _ _ _ _ _ _ ?_, hb, fun h => h, fun h => ⟨h, fun _ => ?_⟩⟩
    · rw [eF]
      simp (disch := omega) only [n_LE, if_pos, n_eq, mM_g]
      by_cases z : top = 0
      · rw [if_neg (not_not_intro z), if_pos z]
      · rw [if_pos z, if_neg z]
    · show _ = f 0
      by_cases z : top = 0
      · rw [if_pos z, h00 z]
      · rw [if_neg z, hag h 0 (by omega)]
  | succ n ih =>
    intro i top f g F hi htop hd hn hst hag h00 hb
    obtain ⟨⟨k, hk, hO, ha, h2, h3⟩, hd2⟩ := hd
    have hk' := op_lt k hk
    have hck : (O i).toNatClampNeg = k := by rw [hO]; exact n_cl (by omega)
    have a2 := @ar_le k
    rw [hck] at hd2
    obtain ⟨K, hK, hnd⟩ := hn i (Nat.le_refl _) (by omega) k hO hk'
    have hst' : K = 21 → (F 64 = 0 ∨ F 64 = 1) ∧ N 234 = F 64 := fun z => hst i (Nat.le_refl _) (by omega) (by rw [hK, z]; rfl)
    have hag' : F 62 = 0 → ap k (Q i) (g (top - ar k)) (g (top - ar k + 1)) N = ap k (Q i) (f (top - ar k)) (f (top - ar k + 1)) N := fun h => ap_ag hk ha (hag h)
    have hnx := ih (i + 1) (top - ar k + 1) (upd f (top - ar k) (ap k (Q i) (f (top - ar k)) (f (top - ar k + 1)) N)) (upd g (top - ar k) (ap k (Q i) (g (top - ar k)) (g (top - ar k + 1)) N)) (upd F 62 (if F 62 = 0 then (if 999 < ap k (Q i) (g (top - ar k)) (g (top - ar k + 1)) N ∨ ap k (Q i) (g (top - ar k)) (g (top - ar k + 1)) N < -999 then 1 else 0) else 1)) (by omega) (by omega) hd2
      (fun j a1 a2 => hn j (by omega) a2) (fun j a1 a2 a3 => by rw [pk_un (by decide)]; exact hst j (by omega) a2 a3) (fun h j hj => by
        rw [pk_us] at h
        have hF : F 62 = 0 := by
          by_cases z : F 62 = 0
          · exact z
          · rw [if_neg z] at h; exact absurd h (by decide)
        by_cases z : j = top - ar k
        · rw [z, pk_us, pk_us]; exact hag' hF
        · rw [pk_un z, pk_un z]; exact hag hF j (by omega)) (fun z => by omega) (by
        rw [pk_us]
        split
        · split
          · exact Or.inr rfl
          · exact Or.inl rfl
        · exact Or.inr rfl)
    obtain ⟨v', b', g', h1, h2', h3', h4⟩ := hnx
    rw [pk_uu, pk_us] at *
    refine ⟨v', b', g', ?_, h2', ?_, ?_⟩
    · refine m_wnd hR (show off + i < off + e by omega) he ht hK rfl hk ha (by omega) hnd hst' h2 hb ?_ rfl
      rw [show off + (i + 1) = off + i + 1 by omega, ← nI_1 (off + i)] at h1
      exact h1
    · intro z
      exact h3' (by rw [if_neg (by rw [z]; decide)])
    · intro z
      unfold wk
      dsimp only
      rw [hck, ← hag' z]
      rw [if_pos z] at h3' h4
      by_cases hx : 999 < ap k (Q i) (g (top - ar k)) (g (top - ar k + 1)) N ∨ ap k (Q i) (g (top - ar k)) (g (top - ar k + 1)) N < -999
      · rw [if_pos hx]
        refine ⟨h3' (if_pos hx), fun w => absurd rfl w⟩
      · rw [if_neg hx]
        have := h4 (if_neg hx)
        rw [← hag' z] at this
        exact this
/-- a line's expression of both -/
abbrev exM (σ : qS) (P : Nat → fI) (t r i : Nat) (a' e' : Int32) : Prop := ∃ a e, P (7 + r) i = nI a ∧ P (8 + r) i = nI e ∧ a ≤ e ∧ dpk (P 25) (P 26) 236 (e - a) a 0 ∧ ((a = e ∧ ∃ z, z ≤ 900 ∧ a' = nI z ∧ e' = nI z) ∨ (a' = nI a ∧ e' = nI e ∧ e ≤ 400 ∧ ndsR σ (P 25) (P 26) t 0 a e ∧ ∀ j, a ≤ j → j < e → σ.1 161 j ≠ 21) ∨ (e = a + 1 ∧ a < 500 ∧ ∃ k, k < 6 ∧ P 25 a = nI 2 ∧ P 26 a = nI (16 + t * 6 + k) ∧ a' = -1 - nI k))
theorem m_exp {a' e' : Int32} (hR : MR w N s) (ht : t < 4) (hx : exM σ P t r i a' e') (hin : ∀ k, k < 6 → inR (N (16 + t * 6 + k))) : ∃ (v' : Int32) (g' : fI), qev en (d + 4) 296 [.ref 151, .int a', .int e', .int (nI t)] (mM σ F s y g D) = some (some (.int v'), mM σ (upd F 62 (exb (exv P r N i))) s y g' D) ∧ (exv P r N i ≠ none → v' = exr (exv P r N i)) := by
  obtain ⟨a, e, ha, he, hae, hd, hc⟩ := hx
  have hclp : ∀ z, z < 2 ^ 31 → clp (nI z) = z := fun z hz => n_clp hz
  rcases hc with ⟨rfl, z, hz, rfl, rfl⟩ | ⟨rfl, rfl, he4, hn, h21⟩ | ⟨rfl, ha5, k, hk, hO, hQ, rfl⟩
  · have ev : exv P r N i = some 0 := by
      unfold exv evl
      rw [ha, he, Nat.sub_self]; rfl
    rw [ev]
    refine ⟨0, g, le_X12_worked en (d + 3) _ _ _ _ _ ?_, fun _ => rfl⟩
    have h0 : (0 : Int32) ≤ nI z := nI_pos' (by omega)
    simp only [nm_eq, mM_wF, h0, if_true]
    refine le_X12_worked_32 en (d + 3) _ _ _ _ _ _ ?_
    rw [if_pos (Int32.le_refl _), if_neg (not_not_intro rfl)]
    rfl
  · obtain ⟨v', b', g', h1, h2, h3, h4⟩ := m_exL (en := en) (d := d) (D := D) (y := y) hR ht (off := 0) (by omega) he4 (e - a) a 0 (fun _ => 0) g (upd F 62 0) (by omega) (Nat.zero_le _) hd hn (fun j a1 a2 a3 => absurd a3 (by rw [Nat.zero_add]; exact h21 j a1 a2)) (fun _ j hj => absurd hj (Nat.not_lt_zero _)) (fun _ => rfl) (Or.inl pk_us)
    have ev : wk (P 25) (P 26) N (e - a) a (fun _ => 0) 0 = exv P r N i := by
      unfold exv evl
      rw [ha, he, hclp a (by omega), hclp e (by omega)]
    rw [ev] at h4
    obtain ⟨h5, h6⟩ := h4 pk_us
    rw [pk_uu, h5, Nat.zero_add, Nat.zero_add] at h1
    refine ⟨v', g', le_X12_worked en (d + 3) _ _ _ _ _ ?_, h6⟩
    have h0 : (0 : Int32) ≤ nI a := nI_pos' (by omega)
    simp only [nm_eq, mM_wF, h0, if_true]
    exact h1
  · have hi := hin k hk
    have ev : exv P r N i = some (N (16 + t * 6 + k)) := by
      unfold exv evl
      rw [ha, he, hclp a (by omega), hclp (a + 1) (by omega), show a + 1 - a = 1 by omega]
      unfold wk
      dsimp only
      have e2 : (P 25 a).toNatClampNeg = 2 := by rw [hO]; rfl
      rw [e2, hQ]
      have e3 : ∀ x y : Int32, ap 2 (nI (16 + t * 6 + k)) x y N = N (16 + t * 6 + k) := fun x y => by
        show N (nI (16 + t * 6 + k)).toNatClampNeg = _
        rw [n_cl (by omega)]
      rw [e3, if_neg (fun z => z.elim (fun q => Int32.not_le.mpr q hi.2) (fun q => Int32.not_le.mpr q hi.1))]
      rfl
    rw [ev]
    refine ⟨N (16 + t * 6 + k), g, le_X12_worked en (d + 3) _ _ _ _ _ ?_, fun _ => rfl⟩
    have h0 : ¬ (0 : Int32) ≤ -1 - nI k := by
      rcases (show k = 0 ∨ k = 1 ∨ k = 2 ∨ k = 3 ∨ k = 4 ∨ k = 5 by omega) with rfl | rfl | rfl | rfl | rfl | rfl <;> decide
    have e1 : (((12 : Int32) + ((6 : Int32) * nI t)) - (1 : Int32)) - (-1 - nI k) = nI (12 + 6 * t + k) := by
      rcases (show k = 0 ∨ k = 1 ∨ k = 2 ∨ k = 3 ∨ k = 4 ∨ k = 5 by omega) with rfl | rfl | rfl | rfl | rfl | rfl <;> rcases (show t = 0 ∨ t = 1 ∨ t = 2 ∨ t = 3 by omega) with rfl | rfl | rfl | rfl <;> decide
    simp only [nm_eq, mM_wF, h0, if_false, e1]
    rw [gd_true (n_in (by omega) (by decide)), n_cl (by omega), mM_s, mr_lo hR (by omega) (by omega), show 12 + 6 * t + k + 4 = 16 + t * 6 + k by omega]
    rfl
end MX3
