/-! ALL TURNS, the model's side: the states one after another. -/
section MR2
variable {en : pN} {d w nc nl nt n t u k a l : Nat} {P : Nat → fI} {v1 v2 : Int32} {σ σ' : qS} {F F' s y g N : fI} {D : Int64} {x : xT} {fw : Bool}
theorem fRm.tr {σ σ' σ'' : qS} {F F' F'' : fI} (h : fRm σ σ' F F') (g : fRm σ' σ'' F' F'') : fRm σ σ'' F F'' := ⟨fun c h1 h2 => (g.1 c h1 h2).trans (h.1 c h1 h2), fun j h1 h2 h3 h4 h5 => (g.2.1 j h1 h2 h3 h4 h5).trans (h.2.1 j h1 h2 h3 h4 h5), g.2.2.trans h.2.2⟩
theorem fTm.R {m : Nat} (h : fTm m σ σ' F F') : fRm σ σ' F F' := ⟨fun c h1 h2 => h.1 c h2 (by omega), fun j h1 h2 h3 _ _ => h.2.2.1 j h1 h2 h3, h.2.2.2⟩
theorem mcD.fr {z : xT} (h : mcD P w nl nt k x σ F) (hS : ∀ i, i < k → xS z i = xS x i ∧ xA z i = xA x i) (h1 : ∀ c, c = 215 ∨ c = 218 ∨ (221 ≤ c ∧ c ≤ 225) → σ'.1 c = σ.1 c) (h2 : ∀ i, i < k → σ'.1 216 i = σ.1 216 i ∧ σ'.1 217 i = σ.1 217 i) (h3 : F' 103 = F 103 ∧ F' 115 = F 115) (h4 : ∀ i, k ≤ i → i < xN z → σ'.1 216 i = 0 ∧ σ'.1 217 i = -2) : mcD P w nl nt k z σ' F' := by
  obtain ⟨d1, d2, d3, d4, d5, d6, d7⟩ := h
  have eS : ∀ i, i < k → xS z i = xS x i := fun i hi => (hS i hi).1
  have eL : outL P w nt (xS z) k = outL P w nt (xS x) k := outL_cg k eS
  have hlt : ∀ i, i < (outL P w nt (xS x) k).length → (outL P w nt (xS x) k).getD i 0 < k := fun i hi => outL_lt k _ (getD_mem hi)
  refine ⟨fun i hi => by rw [h1 218 (by omega), (hS i hi).2]; exact d1 i hi, fun i hi => ?_, by rw [h3.1, endN_cg k eS]; exact d3, ?_, fun q hq => by rw [h1 223 (by omega), fsR_cg (f' := fun i => hasR P w (xS x i) nt q) k (fun i hi => by rw [eS i hi])]; exact d5 q hq, fun c hc => by rw [h1 224 (by omega), guS_cg k eS]; exact d6 c hc, h4⟩
  · rw [h1 215 (by omega), (h2 i hi).1, (h2 i hi).2, eS i hi, outN_cg (fun j hj => eS j (by omega))]
    exact d2 i hi
  · rw [eL]
    refine ⟨by rw [h3.2]; exact d4.1, fun j hj => ?_, by rw [h1 222 (by omega)]; exact tb_hcg (fun i hi => by dsimp only; rw [eS _ (hlt i hi)]) d4.2.2⟩
    have := d4.2.1 j hj
    dsimp only at this ⊢
    rw [h1 221 (by omega), h1 225 (by omega), eS _ (hlt j hj)]
    exact this
theorem m_exAll (hP : PV P nc nl nt n) (hw2 : w ≤ 2) :
    ∀ (m k : Nat) (x : xT) (σ : qS) (F s y g : fI) (D : Int64), k + m = 20000 → k ≤ xN x → XV P w nc nl nt n x → mcI P w nc nl nt n x σ F → mcD P w nl nt k x σ F →
      (exK P w nl nt (limS w) fw m k x = none ∧ ∃ (σ' : qS) (F' s' y' g' : fI) (D' : Int64), L_X12_tryAll_147 en (d + 7) v1 (bt fw) (nI k) (mM σ F s y g D) = some (some (.int (-3)), mM σ' F' s' y' g' D') ∧ fRm σ σ' F F') ∨
      (∃ z, exK P w nl nt (limS w) fw m k x = some z ∧ XV P w nc nl nt n z ∧ ∃ (σ' : qS) (F' s' y' g' : fI) (D' : Int64), (∀ r, L_X12_tryAll_147 en (d + 7) v1 (bt fw) (nI (xN z)) (mM σ' F' s' y' g' D') = some r → L_X12_tryAll_147 en (d + 7) v1 (bt fw) (nI k) (mM σ F s y g D) = some r) ∧ mcI P w nc nl nt n z σ' F' ∧ mcD P w nl nt (xN z) z σ' F' ∧ fRm σ σ' F F') := by
  have hlim := @lim_le w
  intro m
  induction m with
  | zero =>
    intro k x σ F s y g D hk hkx hX hI hD
    have hxN := hX.1.2
    obtain rfl : k = xN x := by omega
    exact Or.inr ⟨x, rfl, hX, σ, F, s, y, g, D, fun r hh => hh, hI, hD, ⟨fun _ _ _ => rfl, fun _ _ _ _ _ _ => rfl, rfl⟩⟩
  | succ m ih =>
    intro k x σ F s y g D hk hkx hX hI hD
    have hxN := hX.1.2
    have eK : exK P w nl nt (limS w) fw (m + 1) k x = if k < xN x then (match runK P w nl nt (limS w) fw x k with
      | none => none
      | some y => exK P w nl nt (limS w) fw m (k + 1) y) else some x := rfl
    by_cases q : k < xN x
    · obtain ⟨v5, σ1, F1, s1, y1, g1, D1, o1, o2, o3, o4, o5, o6⟩ := m_look (en := en) (d := d) (v1 := v1) (fw := fw) (s := s) (y := y) (g := g) (D := D) hP hw2 hX hI hD q
      have hX1 : XV P w nc nl nt n (begK x k) := hX
      rw [eK, if_pos q]
      have eR : runK P w nl nt (limS w) fw x k = tryL P w nl nt (limS w) k (onlS P nt fw x k) ((rdl P w (xS x k) nt nt).drop 0) (begK x k) := rfl
      rw [eR]
      rcases m_triesAll (en := en) (d := d) (k := k) (v1 := v1) (v2 := bt fw) (L := rdl P w (xS x k) nt nt) (v5 := v5) (o := onlS P nt fw x k) hP hw2 (S0 := xS x k) (fun a ha => ha) (rdl_len hP (hX.2.1 k q)) o1 (rdl P w (xS x k) nt nt).length 0 (begK x k) σ1 F1 s1 y1 g1 D1 (by omega) hX1 o3 q rfl o5 with ⟨r1, σ2, F2, s2, y2, g2, D2, r2, r3⟩ | ⟨z, r1, r2, r3, r4, σ2, F2, s2, y2, g2, D2, r5, r6, r7, r8⟩
      · left
        rw [r1]
        exact ⟨rfl, σ2, F2, s2, y2, g2, D2, o2 _ r2, o6.tr (fTm.R r3)⟩
      · rw [r1]
        have hz : xN x ≤ xN z := r3.1
        have hD2 : mcD P w nl nt (k + 1) z σ2 F2 := by
          refine o4.fr (fun i hi => ⟨(r3.2 i (by show i < xN x; omega)).1, by rw [r4]⟩) (fun c hc => r7.1 c (by omega) (by omega)) (fun i hi => r7.2.1 i (by show i < xN x; omega)) ⟨r7.2.2.1 103 (by decide) (by decide) (by decide), r7.2.2.1 115 (by decide) (by decide) (by decide)⟩ (fun i h1 h2 => ?_)
          by_cases c : i < xN x
          · rw [(r7.2.1 i c).1, (r7.2.1 i c).2]
            exact o4.2.2.2.2.2.2 i h1 c
          · exact r8 i (by show xN x ≤ i; omega) h2
        rcases ih (k + 1) z σ2 F2 s2 y2 g2 D2 (by omega) (by omega) r2 r6 hD2 with ⟨t1, σ3, F3, s3, y3, g3, D3, t2, t3⟩ | ⟨z', t1, t2, σ3, F3, s3, y3, g3, D3, t3, t4, t5, t6⟩
        · left
          exact ⟨t1, σ3, F3, s3, y3, g3, D3, o2 _ (r5 _ t2), (o6.tr (fTm.R r7)).tr t3⟩
        · right
          exact ⟨z', t1, t2, σ3, F3, s3, y3, g3, D3, fun r hh => o2 _ (r5 _ (t3 r hh)), t4, t5, (o6.tr (fTm.R r7)).tr t6⟩
    · obtain rfl : k = xN x := by omega
      exact Or.inr ⟨x, by rw [eK, if_neg q], hX, σ, F, s, y, g, D, fun r hh => hh, hI, hD, ⟨fun _ _ _ => rfl, fun _ _ _ _ _ _ => rfl, rfl⟩⟩
end MR2
