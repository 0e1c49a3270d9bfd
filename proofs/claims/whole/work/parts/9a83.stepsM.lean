/-! ALL TURNS, the model's side: a state's steps tried. -/
section MV
variable {en : pN} {d w nc nl nt n t u k a l : Nat} {P : Nat → fI} {v1 v2 : Int32}
theorem qtF_10 {N : fI} : ∀ (m t a : Nat), qtF P N m t = some a → ∃ u, u < m + t ∧ a = 10 * u := by
  intro m
  induction m with
  | zero => intro t a h; cases h
  | succ m ih =>
    intro t a h
    unfold qtF at h
    split at h
    · cases h; exact ⟨t, by omega, rfl⟩
    · obtain ⟨u, h1, h2⟩ := ih (t + 1) a h; exact ⟨u, by omega, h2⟩
theorem m_triesAll (hP : PV P nc nl nt n) (hw2 : w ≤ 2) {S0 : fI} {L : List Nat} {v5 : Int32} {o : Option Nat} (hL : ∀ a ∈ L, a ∈ rdl P w S0 nt nt) (hl40 : L.length ≤ 40) (ho : (o = none ∧ v5 = -2) ∨ ∃ t, t < 4 ∧ o = some (10 * t) ∧ v5 = nI t) :
    ∀ (m j : Nat) (x : xT) (σ : qS) (F s y g : fI) (D : Int64), j + m = L.length → XV P w nc nl nt n x → mcI P w nc nl nt n x σ F → k < xN x → xS x k = S0 → (∀ (j : Nat) (h : j < L.length), σ.1 226 j = nI L[j]) →
      (tryL P w nl nt (limS w) k o (L.drop j) x = none ∧ ∃ (σ' : qS) (F' s' y' g' : fI) (D' : Int64), L_X12_tryAll_296 en (d + 7) v1 v2 (nI k) v5 (nI L.length) (nI j) (mM σ F s y g D) = some (some (.int (-3)), mM σ' F' s' y' g' D') ∧ fTm (xN x) σ σ' F F') ∨
      (∃ z, tryL P w nl nt (limS w) k o (L.drop j) x = some z ∧ XV P w nc nl nt n z ∧ (xN x ≤ xN z ∧ ∀ i, i < xN x → xS z i = xS x i ∧ xF z i = xF x i ∧ xWh z i = xWh x i) ∧ xA z = xA x ∧ ∃ (σ' : qS) (F' s' y' g' : fI) (D' : Int64), (∀ r, L_X12_tryAll_147 en (d + 7) v1 v2 (nI (k + 1)) (mM σ' F' s' y' g' D') = some r → L_X12_tryAll_296 en (d + 7) v1 v2 (nI k) v5 (nI L.length) (nI j) (mM σ F s y g D) = some r) ∧ mcI P w nc nl nt n z σ' F' ∧ fTm (xN x) σ σ' F F' ∧ ∀ i, xN x ≤ i → i < xN z → σ'.1 216 i = 0 ∧ σ'.1 217 i = -2) := by
  have hlim := @lim_le w
  intro m
  induction m with
  | zero =>
    intro j x σ F s y g D hj hX hI hk hS0 h226
    obtain rfl : j = L.length := by omega
    right
    refine ⟨x, by rw [List.drop_length]; rfl, hX, ⟨Nat.le_refl _, fun _ _ => ⟨rfl, rfl, rfl⟩⟩, rfl, σ, F, s, y, g, D, fun r hh => le_X12_tryAll_296 en _ _ _ _ _ _ _ _ _ ?_, hI, ⟨fun _ _ _ => rfl, fun _ _ => ⟨rfl, rfl⟩, fun _ _ _ _ => rfl, rfl⟩, fun i h1 h2 => absurd h2 (by omega)⟩
    rw [if_pos (Int32.le_refl _), n_ar]
    exact hh
  | succ m ih =>
    intro j x σ F s y g D hj hX hI hk hS0 h226
    have hjl : j < L.length := by omega
    have haL : L[j] ∈ L := List.getElem_mem hjl
    have hard : L[j] ∈ rdl P w (xS x k) nt nt := by rw [hS0]; exact hL _ haL
    have a40 : L[j] < 40 := rdl_lt hP (hX.2.1 k hk) hard
    rw [List.drop_eq_getElem_cons hjl]
    have eL : tryL P w nl nt (limS w) k o (L[j] :: L.drop (j + 1)) x = if o = none ∨ o = some L[j] then (match tryS P w nl nt (limS w) k x L[j] with
      | none => none
      | some y => tryL P w nl nt (limS w) k o (L.drop (j + 1)) y) else tryL P w nl nt (limS w) k o (L.drop (j + 1)) x := rfl
    have e226 : (mM σ F s y g D).1 226 (nI j).toNatClampNeg = nI L[j] := by
      rw [mM_o (by decide) (by decide) (by decide) (by decide), n_cl (by omega)]; exact h226 j hjl
    have start : ∀ r, (if v5 = (-2 : Int32) then L_X12_tryAll_328 en (d + 7) v1 v2 (nI k) v5 (nI L.length) (nI j) (mM σ F s y g D) else if nI L[j] = ((10 : Int32) * v5) then L_X12_tryAll_328 en (d + 7) v1 v2 (nI k) v5 (nI L.length) (nI j) (mM σ F s y g D) else L_X12_tryAll_296 en (d + 7) v1 v2 (nI k) v5 (nI L.length) (nI (j + 1)) (mM σ F s y g D)) = some r → L_X12_tryAll_296 en (d + 7) v1 v2 (nI k) v5 (nI L.length) (nI j) (mM σ F s y g D) = some r := by
      intro r hh
      refine le_X12_tryAll_296 en _ _ _ _ _ _ _ _ _ ?_
      rw [if_neg (by rw [n_LE (by omega) (by omega)]; omega), gd_true (n_in (by omega) (by decide)), e226, n_ar]
      exact hh
    by_cases q : o = none ∨ o = some L[j]
    · rw [eL, if_pos q]
      have start2 : ∀ r, L_X12_tryAll_328 en (d + 7) v1 v2 (nI k) v5 (nI L.length) (nI j) (mM σ F s y g D) = some r → L_X12_tryAll_296 en (d + 7) v1 v2 (nI k) v5 (nI L.length) (nI j) (mM σ F s y g D) = some r := by
        intro r hh
        refine start r ?_
        rcases ho with ⟨o1, o2⟩ | ⟨t, a1, a2, a3⟩
        · rw [if_pos o2]; exact hh
        · have : 10 * t = L[j] := by
            rcases q with q | q
            · rw [a2] at q; cases q
            · rw [a2] at q; exact Option.some.inj q
          rw [if_neg (by rw [a3, n_m2 (by omega)]; exact id), if_pos (by rw [a3, n_ml, this])]
          exact hh
      rcases m_tryOne (en := en) (d := d) (v1 := v1) (v2 := v2) (v5 := v5) (v6 := nI L.length) (s := s) (y := y) (g := g) (D := D) hP hw2 hX hI hk hard (h226 j hjl) (by omega) with ⟨t1, σ', F', s', y', g', D', t2, t3⟩ | ⟨x', t1, σ', F', s', y', g', D', t2, t3, t4, t5⟩
      · left
        rw [t1]
        exact ⟨rfl, σ', F', s', y', g', D', start2 _ t2, t3⟩
      · obtain ⟨X1, X2, X3, X4, X5, X6⟩ := XV_try hP hw2 hX hk hard rfl t1
        rw [t1]
        rcases ih (j + 1) x' σ' F' s' y' g' D' (by omega) X1 t3 (by omega) ((X3 k hk).1.trans hS0) (fun i hi => by rw [t4.1 226 (by decide) (by decide)]; exact h226 i hi) with ⟨r1, σ'', F'', s'', y'', g'', D'', r2, r3⟩ | ⟨z, r1, r2, r3, r4, σ'', F'', s'', y'', g'', D'', r5, r6, r7, r8⟩
        · left
          exact ⟨r1, σ'', F'', s'', y'', g'', D'', start2 _ (t2 _ r2), t4.tr X2 r3⟩
        · right
          refine ⟨z, r1, r2, ⟨Nat.le_trans X2 r3.1, fun i hi => ?_⟩, r4.trans X6, σ'', F'', s'', y'', g'', D'', fun r hh => start2 r (t2 r (r5 r hh)), r6, t4.tr X2 r7, fun i h1 h2 => ?_⟩
          · have h1 := r3.2 i (by omega)
            have h2 := X3 i hi
            exact ⟨h1.1.trans h2.1, h1.2.1.trans h2.2.1, h1.2.2.trans h2.2.2⟩
          · by_cases c : i < xN x'
            · rw [(r7.2.1 i c).1, (r7.2.1 i c).2]; exact t5 i h1 c
            · exact r8 i (by omega) h2
    · rw [eL, if_neg q]
      have step : ∀ r, L_X12_tryAll_296 en (d + 7) v1 v2 (nI k) v5 (nI L.length) (nI (j + 1)) (mM σ F s y g D) = some r → L_X12_tryAll_296 en (d + 7) v1 v2 (nI k) v5 (nI L.length) (nI j) (mM σ F s y g D) = some r := by
        intro r hh
        refine start r ?_
        rcases ho with ⟨o1, o2⟩ | ⟨t, a1, a2, a3⟩
        · exact absurd (Or.inl o1) q
        · rw [if_neg (by rw [a3, n_m2 (by omega)]; exact id), if_neg (fun z => q (Or.inr (by rw [a2]; rw [a3, n_ml, n_EQ (by omega) (by omega)] at z; rw [z])))]
          exact hh
      rcases ih (j + 1) x σ F s y g D (by omega) hX hI hk hS0 h226 with ⟨r1, σ'', F'', s'', y'', g'', D'', r2, r3⟩ | ⟨z, r1, r2, r3, r4, σ'', F'', s'', y'', g'', D'', r5, r6, r7, r8⟩
      · left
        exact ⟨r1, σ'', F'', s'', y'', g'', D'', step _ r2, r3⟩
      · right
        exact ⟨z, r1, r2, r3, r4, σ'', F'', s'', y'', g'', D'', fun r hh => step r (r5 r hh), r6, r7, r8⟩
/-- steps copied -/
theorem m_copy226 {σ : qS} {F s y g : fI} {D : Int64} {len : Nat} {R : fI} (hl : len ≤ 40) (h190 : σ.1 190 = R) : ∃ T : fI, (∀ j, j < len → T j = R j) ∧ ∀ (v4 v5 : Int32) r, L_X12_tryAll_296 en d v1 v2 v4 v5 (nI len) 0 (mM (uIr σ 226 T) F s y g D) = some r → L_X12_tryAll_266 en d v1 v2 v4 v5 (nI len) (nI 0) (mM σ F s y g D) = some r := by
  have loop : ∀ (m j : Nat) (T : fI), j + m = len → (∀ i, i < j → T i = R i) → ∃ T' : fI, (∀ j, j < len → T' j = R j) ∧ ∀ (v4 v5 : Int32) r, L_X12_tryAll_296 en d v1 v2 v4 v5 (nI len) 0 (mM (uIr σ 226 T') F s y g D) = some r → L_X12_tryAll_266 en d v1 v2 v4 v5 (nI len) (nI j) (mM (uIr σ 226 T) F s y g D) = some r := by
    intro m
    induction m with
    | zero =>
      intro j T hj hT
      obtain rfl : j = len := by omega
      refine ⟨T, hT, fun v4 v5 r hr => le_X12_tryAll_266 en _ _ _ _ _ _ _ _ _ ?_⟩
      rw [if_pos (Int32.le_refl _)]
      exact hr
    | succ m ih =>
      intro j T hj hT
      obtain ⟨T', h1, h2⟩ := ih (j + 1) (upd T j (R j)) (by omega) (fun i hi => by
        by_cases q : i = j
        · rw [q, pk_us]
        · rw [pk_un q]; exact hT i (by omega))
      refine ⟨T', h1, fun v4 v5 r hr => le_X12_tryAll_266 en _ _ _ _ _ _ _ _ _ ?_⟩
      rw [if_neg (by rw [n_LE (by omega) (by omega)]; omega), gd_true (n_in (by omega) (by decide)), n_cl (by omega), nm_eq, mM_wo (by decide) (by decide) (by decide) (by decide), uIr_u, mM_o (by decide) (by decide) (by decide) (by decide), uIr_ne (by decide), h190, n_ar]
      exact h2 v4 v5 r hr
  obtain ⟨T, h1, h2⟩ := loop len 0 (σ.1 226) (by omega) (fun i hi => absurd hi (Nat.not_lt_zero i))
  rw [uIr_i] at h2
  exact ⟨T, h1, h2⟩
end MV
