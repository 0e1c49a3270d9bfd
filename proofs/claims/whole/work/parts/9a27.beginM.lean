/-! THE RUN, the model's side: its beginning. -/
section BG
variable {en : pN} {d v1 v2 m w nc nl nt n n' i : Nat} {σ τ : qS} {P : Nat → fI} {K W F s y gg N : fI} {g : Nat → fI} {X : fJ} {D : Int64}
theorem lnM_cp (h : ∀ r, (164 ≤ r ∧ r ≤ 179) → τ.1 r (100 * v2 + i) = σ.1 r (100 * v1 + i)) (h' : ∀ a, a = 161 ∨ a = 162 → τ.1 a = σ.1 a) (hL : lnM σ v1 P nt i) : lnM τ v2 P nt i := by
  obtain ⟨h1, h2, h3, h4, h5, h6, ⟨t, a1, a2, a3, a4⟩, h8, h9, h10⟩ := hL
  refine ⟨?_, ?_, ?_, ?_, ?_, ?_, ⟨t, a1, a2, ?_, ?_⟩, h8, h9, ?_⟩
  · rw [h 164 (by decide)]; exact h1
  · rw [h 166 (by decide)]; exact h2
  · rw [h 167 (by decide)]; exact h3
  · rw [h 173 (by decide), h 174 (by decide), h 172 (by decide)]; exact h4
  · rw [h 172 (by decide)]; exact h5
  · rw [h 174 (by decide)]; exact h6
  · rw [h 176 (by decide), h 177 (by decide)]; exact exM_cg h' a3
  · rw [h 178 (by decide), h 179 (by decide)]; exact exM_cg h' a4
  · intro r hr
    rw [h r (by omega)]
    exact h10 r hr
theorem MB_cp (hv2 : v2 ≤ 3) (hv : v1 ≠ v2) (hn : n ≤ n') (hB : MB σ v1 P nc nl nt n) : MB (cpT (cpS σ v1 v2 n') v1 v2 nt) v2 P nc nl nt n := by
  obtain ⟨-, b2, b3, b4⟩ := hB
  have o : ∀ a, a < 164 → (cpT (cpS σ v1 v2 n') v1 v2 nt).1 a = σ.1 a := fun a ha => by rw [cpT_o (by omega), cpS_o (by omega)]
  refine ⟨hv2, fun i hi => lnM_cp (fun r hr => ?_) (fun a ha => o a (by omega)) (b2 i hi), fun c hc => ?_, fun t ht => ?_⟩
  · rw [cpT_o (by omega)]
    show (if _ ∧ _ then _ else _) = _
    rw [if_pos ⟨hr, by omega, by omega⟩, show 100 * v2 + i - 100 * v2 + 100 * v1 = 100 * v1 + i by omega]
  · rw [o 154 (by decide), o 155 (by decide)]; exact b3 c hc
  · have e : (cpT (cpS σ v1 v2 n') v1 v2 nt).1 181 (4 * v2 + t) = σ.1 181 (4 * v1 + t) := by
      show (if _ ∧ _ then (cpS σ v1 v2 n').1 181 (4 * v2 + t - 4 * v2 + 4 * v1) else _) = _
      rw [if_pos ⟨rfl, by omega, by omega⟩, show 4 * v2 + t - 4 * v2 + 4 * v1 = 4 * v1 + t by omega, cpS_o (by decide)]
    rw [e, o 158 (by decide)]
    exact b4 t ht
theorem cp_mM : cpT (cpS (mM σ F s y gg D) v1 v2 n') v1 v2 m = mM (cpT (cpS σ v1 v2 n') v1 v2 m) F s y gg D := by
  refine Prod.ext (funext fun a => ?_) (Prod.ext (funext fun a => funext fun k => ?_) rfl)
  · by_cases q : 164 ≤ a ∧ a ≤ 181
    · have e : ∀ τ : qS, (mM τ F s y gg D).1 a = τ.1 a := fun τ => mM_o (by omega) (by omega) (by omega) (by omega)
      rw [e]
      funext k
      show (if a = 181 ∧ _ then (if _ ∧ _ then (mM σ F s y gg D).1 a _ else (mM σ F s y gg D).1 a _) else (if _ ∧ _ then (mM σ F s y gg D).1 a _ else (mM σ F s y gg D).1 a _)) = _
      rw [e]
      rfl
    · rw [cpT_o (by omega), cpS_o (by omega)]
      funext k
      show (if a = 151 then F k else if a = 187 then s k else if a = 188 then y k else if a = 189 then gg k else σ.1 a k) = (if a = 151 then F k else if a = 187 then s k else if a = 188 then y k else if a = 189 then gg k else (cpT (cpS σ v1 v2 n') v1 v2 m).1 a k)
      rw [cpT_o (by omega), cpS_o (by omega)]
  · show (if a = 180 ∧ 100 * v2 ≤ k ∧ k < 100 * v2 + n' then (if a = 151 ∧ k - 100 * v2 + 100 * v1 = 72 then D else σ.2.1 a (k - 100 * v2 + 100 * v1)) else (if a = 151 ∧ k = 72 then D else σ.2.1 a k)) = (if a = 151 ∧ k = 72 then D else if a = 180 ∧ 100 * v2 ≤ k ∧ k < 100 * v2 + n' then σ.2.1 a (k - 100 * v2 + 100 * v1) else σ.2.1 a k)
    by_cases q : a = 180 ∧ 100 * v2 ≤ k ∧ k < 100 * v2 + n'
    · rw [if_pos q, if_neg (by omega), if_neg (by omega), if_pos q]
    · rw [if_neg q, if_neg q]
theorem kp_id : kpS σ (σ.1 191) (σ.1 192) (fun r => σ.1 (193 + r)) (σ.2.1 199) = σ := by
  refine Prod.ext (funext fun a => funext fun k => ?_) (Prod.ext (funext fun a => funext fun k => ?_) rfl)
  · show (if a = 191 then σ.1 191 k else if a = 192 then σ.1 192 k else if 193 ≤ a ∧ a < 199 then σ.1 (193 + (a - 193)) k else σ.1 a k) = σ.1 a k
    by_cases q : a = 191
    · rw [if_pos q, q]
    rw [if_neg q]
    by_cases z : a = 192
    · rw [if_pos z, z]
    rw [if_neg z]
    by_cases u : 193 ≤ a ∧ a < 199
    · rw [if_pos u, show 193 + (a - 193) = a by omega]
    · rw [if_neg u]
  · show (if a = 199 then σ.2.1 199 k else σ.2.1 a k) = σ.2.1 a k
    by_cases q : a = 199
    · rw [if_pos q, q]
    · rw [if_neg q]
theorem m_beginRun (hB : MB σ v1 P nc nl nt n) (hv1 : v1 ≤ 2) (hw2 : w ≤ 2) (hc8 : nc ≤ 8) (ht4 : nt ≤ 4) (hF12 : F 12 = nI nc) (hF16 : F 16 = nI nl) (hF18 : F 18 = nI nt) (h32 : F 32 = nI n') (hn : n ≤ n') (hn' : n' ≤ 100) (hb : ∀ i, i < n' → vp_nar .boolean (σ.1 175 (100 * v1 + i)) = σ.1 175 (100 * v1 + i)) : ∃ (K' W' F' s' y' : fI), qev en (d + 4) 330 [.ref 151, .int (nI v1), .int (nI w)] (mM (kpS σ K W g X) F s y gg D) = some (none, mM (kpS (cpT (cpS σ v1 3 n') v1 3 nt) K' W' g X) F' s' y' gg D) ∧ MB (cpT (cpS σ v1 3 n') v1 3 nt) 3 P nc nl nt n ∧ MR w (fst0 P w nc nt N) K' ∧ (∀ u, u < nt → W' u = 0) ∧ F' 78 = 0 ∧ F' 74 = 1 ∧ F' 76 = nI w ∧ (∀ j, j ≠ 58 → j ≠ 59 → j ≠ 60 → j ≠ 74 → j ≠ 76 → j ≠ 78 → F' j = F j) := by
  have hB3 := MB_cp (v2 := 3) (n' := n') (by decide) (by omega) hn hB
  have ek : cpT (cpS (kpS σ K W g X) v1 3 n') v1 3 nt = kpS (cpT (cpS σ v1 3 n') v1 3 nt) K W g X := by
    refine Prod.ext (funext fun a => ?_) (Prod.ext (funext fun a => funext fun k => ?_) rfl)
    · by_cases q : a < 191 ∨ 199 ≤ a
      · rw [kp_o q]
        funext k
        show (if a = 181 ∧ _ then (if _ ∧ _ then (kpS σ K W g X).1 a _ else (kpS σ K W g X).1 a _) else (if _ ∧ _ then (kpS σ K W g X).1 a _ else (kpS σ K W g X).1 a _)) = _
        rw [kp_o q]
        rfl
      · rw [cpT_o (by omega), cpS_o (by omega)]
        funext k
        show (if a = 191 then K k else if a = 192 then W k else if 193 ≤ a ∧ a < 199 then g (a - 193) k else σ.1 a k) = (if a = 191 then K k else if a = 192 then W k else if 193 ≤ a ∧ a < 199 then g (a - 193) k else (cpT (cpS σ v1 3 n') v1 3 nt).1 a k)
        rw [cpT_o (by omega), cpS_o (by omega)]
    · show (if a = 180 ∧ 100 * 3 ≤ k ∧ k < 100 * 3 + n' then (if a = 199 then X (k - 100 * 3 + 100 * v1) else σ.2.1 a (k - 100 * 3 + 100 * v1)) else (if a = 199 then X k else σ.2.1 a k)) = (if a = 199 then X k else if a = 180 ∧ 100 * 3 ≤ k ∧ k < 100 * 3 + n' then σ.2.1 a (k - 100 * 3 + 100 * v1) else σ.2.1 a k)
      by_cases q : a = 180 ∧ 100 * 3 ≤ k ∧ k < 100 * 3 + n'
      · rw [if_pos q, if_neg (by omega), if_neg (by omega), if_pos q]
      · rw [if_neg q, if_neg q]
  have e1 := m_copyP (en := en) (d := d + 2) (σ := mM (kpS σ K W g X) F s y gg D) (v1 := v1) (v2 := 3) (n := n') (nt := nt) (by omega) (by omega) (by decide) (by rw [mM_F]; exact h32) hn' (by rw [mM_F]; exact hF18) ht4 (fun i hi => by
    have e : (mM (kpS σ K W g X) F s y gg D).1 175 = σ.1 175 := by rw [mM_o (by decide) (by decide) (by decide) (by decide), kp_o (by decide)]
    rw [e]
    exact hb i hi)
  rw [cp_mM, ek] at e1
  obtain ⟨s', y', e2, hR, hy⟩ := m_first (en := en) (d := d) (s := s) (y := y) (g := gg) (D := D) (N := N) (kp_MB (K := K) (W := W) (g := g) (X := X) hB3) hw2 hc8 ht4 hF12 hF16 hF18
  generalize hF1 : upd (upd (upd F 59 (nI 3)) 58 (nI w)) 60 (nI (wid w)) = F1 at e2
  have e3 := m_keepRun (en := en) (d := d + 2) (σ := cpT (cpS σ v1 3 n') v1 3 nt) (K := K) (W := W) (F := upd (upd F1 78 0) 74 1) (s := s') (y := y') (gg := gg) (g := g) (X := X) (D := D)
  refine ⟨cpf K s' 216, cpf W y' 4, upd (upd (upd F1 78 0) 74 1) 76 ((upd (upd F1 78 0) 74 1) 58), s', y', le_X12_beginRun en (d + 3) _ _ _ _ ?_, hB3, MR_cpf hR, fun u hu => ?_, ?_, ?_, ?_, fun j j1 j2 j3 j4 j5 j6 => ?_⟩
  · rw [show (3 : Int32) = nI 3 from rfl, e1, bV_some, e2, bV_some]
    simp only [nm_eq, mM_wF]
    rw [e3, bV_some]
  · rw [cpf_l (by omega)]; exact hy u hu
  · rw [pk_un (by decide), pk_un (by decide), pk_us]
  · rw [pk_un (by decide), pk_us]
  · rw [pk_us, pk_un (by decide), pk_un (by decide), ← hF1, pk_un (by decide), pk_us]
  · rw [pk_un j5, pk_un j4, pk_un j6, ← hF1, pk_un j3, pk_un j1, pk_un j2]
end BG
