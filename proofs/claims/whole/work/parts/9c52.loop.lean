/-! THE TOP: the law's loop, but for sound. -/
section LOOP
variable {L d d' k i n N j r v u m : Nat} {xs : Nat → Int32} {σ : qS} {a1 a2 a3 a4 a5 v3 : Int32}
/-- both calls of sound answer alike -/
abbrev sndA (L : Nat) (xs : Nat → Int32) (d : Nat) : Prop := ∀ (a1 : Int32) (s t : qS), IV0 s t → ∃ (v : Int32) (s' t' : qS), qev (L, xs) (d + 200) 236 [.ref 0, .int a1] s = some (some (.int v), s') ∧ qev (L, xs) (d + 200) 405 [.ref 151, .int a1] t = some (some (.int v), t') ∧ IV0 s' t'
theorem okA_gdp {p : Prop} [Decidable p] {X : Option qR} (h : p) (g : okA X) : okA (gd p X) := by
  rw [gd_true h]
  exact g
theorem fX0 : frT sX [.ref 0] := frT.cons (show (0 : Nat) < 151 by decide) (fun _ h => by cases h)
theorem fX1 : frT sX [.ref 0, .int a1] := frT.cons (show (0 : Nat) < 151 by decide) (frT.cons trivial (fun _ h => by cases h))
theorem fX2 : frT sX [.ref 0, .int a1, .int a2] := frT.cons (show (0 : Nat) < 151 by decide) (frT.cons trivial (frT.cons trivial (fun _ h => by cases h)))
theorem fX3 : frT sX [.ref 0, .int a1, .int a2, .int a3] := frT.cons (show (0 : Nat) < 151 by decide) (frT.cons trivial (frT.cons trivial (frT.cons trivial (fun _ h => by cases h))))
theorem fX5 : frT sX [.ref 0, .int a1, .int a2, .int a3, .int a4, .int a5] := frT.cons (show (0 : Nat) < 151 by decide) (frT.cons trivial (frT.cons trivial (frT.cons trivial (frT.cons trivial (frT.cons trivial (fun _ h => by cases h))))))
theorem fM0 : frT sM [.ref 151] := frT.cons (show 151 ≤ (151 : Nat) by decide) (fun _ h => by cases h)
theorem fM1 : frT sM [.ref 151, .int a1] := frT.cons (show 151 ≤ (151 : Nat) by decide) (frT.cons trivial (fun _ h => by cases h))
theorem fM2 : frT sM [.ref 151, .int a1, .int a2] := frT.cons (show 151 ≤ (151 : Nat) by decide) (frT.cons trivial (frT.cons trivial (fun _ h => by cases h)))
theorem fM3 : frT sM [.ref 151, .int a1, .int a2, .int a3] := frT.cons (show 151 ≤ (151 : Nat) by decide) (frT.cons trivial (frT.cons trivial (frT.cons trivial (fun _ h => by cases h))))
theorem fM5 : frT sM [.ref 151, .int a1, .int a2, .int a3, .int a4, .int a5] := frT.cons (show 151 ≤ (151 : Nat) by decide) (frT.cons trivial (frT.cons trivial (frT.cons trivial (frT.cons trivial (frT.cons trivial (fun _ h => by cases h))))))
theorem pair_al {q1 q2 : Nat} {as1 as2 : List Value} (h : IV σ) (hf1 : frT sX as1) (hf2 : frT sM as2) (next : ∀ σ2, IV σ2 → okA (L_law_18 (L, xs) (d + 200) v3 σ2)) (hal : ∀ s t : qS, IV0 s t → ∃ (v : Int32) (s' t' : qS), qev (L, xs) (d + 200) q1 as1 s = some (some (.int v), s') ∧ qev (L, xs) (d + 200) q2 as2 t = some (some (.int v), t') ∧ IV0 s' t') : okA (bI (qev (L, xs) (d + 200) q1 as1 σ) (fun w s => bI (qev (L, xs) (d + 200) q2 as2 s) (fun w' s' => if w = w' then L_law_18 (L, xs) (d + 200) v3 s' else some (some (.int 0), s')))) := by
  obtain ⟨v, σ1, σ2, e1, e2, i⟩ := step_al h hf1 hf2 hal
  rw [e1, bI_some, e2, bI_some, if_pos rfl]
  exact next σ2 i
theorem loop_exp (h : IV σ) (hb : p_inB (v3 + (1 : Int32)) L = true) (hb2 : p_inB (v3 + (2 : Int32)) L = true) (fw : Bool) (hfw : xs (v3 + (2 : Int32)).toNatClampNeg = 0 ↔ fw = false) (next : ∀ σ2, IV σ2 → okA (L_law_18 (L, xs) (d + 200) (v3 + (6 : Int32)) σ2)) : okA (L_law_745 (L, xs) (d + 200) v3 (xs (v3 + (1 : Int32)).toNatClampNeg) (bt fw) σ) := by
  obtain ⟨v, σ1, σ2, e1, e2, i⟩ := step_al (q1 := 220) (q2 := 366) (D1 := d + 200) (D2 := d + 200) (en := (L, xs)) (as1 := [.ref 0, .int (xs (v3 + (1 : Int32)).toNatClampNeg), .int (bt fw)]) (as2 := [.ref 151, .int (xs (v3 + (1 : Int32)).toNatClampNeg), .int (bt fw)]) h fX2 fM2 (fun s t q => al_explore q)
  have k : okA (L_law_767 (L, xs) (d + 200) v3 v (xs (v3 + (1 : Int32)).toNatClampNeg) (bt fw) σ1) := by
    refine okA_le (le_law_767 (L, xs) (d + 200) v3 v _ (bt fw) σ1) ?_
    rw [e2, bI_some, if_pos rfl]
    exact next σ2 i
  refine okA_le (le_law_745 (L, xs) (d + 200) v3 _ (bt fw) σ) ?_
  rw [e1, bI_some]
  refine okA_gdp hb (okA_gdp hb2 ?_)
  cases fw with
  | false => rw [if_pos (hfw.mpr rfl)]; exact k
  | true => rw [if_neg (fun z => by have := hfw.mp z; cases this)]; exact k
set_option maxHeartbeats 4000000 in
set_option maxRecDepth 100000 in
theorem law_loop (hL : L ≤ 3072) (hsnd : sndA L xs d) : ∀ (z k : Nat) (σ : qS), L ≤ 6 * k + z → 6 * k ≤ L → IV σ → okA (L_law_18 (L, xs) (d + 200) (nI (6 * k)) σ) := by
  intro z
  induction z using Nat.strongRecOn with
  | ind z ih =>
    intro k σ hz hk h
    refine okA_le (le_law_18 (L, xs) (d + 200) (nI (6 * k)) σ) ?_
    by_cases c : L < 6 * k + 6
    · refine ⟨σ, if_pos ?_⟩
      show nI L - (6 : Int32) < nI (6 * k)
      by_cases c6 : 6 ≤ L
      · rw [show nI L - (6 : Int32) = nI (L - 6) from n_sr c6, n_LT (by omega) (by omega)]
        omega
      · have k0 : k = 0 := by omega
        subst k0
        have : L = 0 ∨ L = 1 ∨ L = 2 ∨ L = 3 ∨ L = 4 ∨ L = 5 := by omega
        rcases this with rfl | rfl | rfl | rfl | rfl | rfl <;> decide
    · have hb : ∀ o : Nat, o < 6 → p_inB (nI (6 * k + o)) L = true := fun o ho => n_in (by omega) (by omega)
      have b0 : p_inB (nI (6 * k)) L = true := hb 0 (by decide)
      have b1 : p_inB (nI (6 * k) + (1 : Int32)) L = true := by rw [n_ar]; exact hb 1 (by decide)
      have b2 : p_inB (nI (6 * k) + (2 : Int32)) L = true := by rw [n_ar]; exact hb 2 (by decide)
      have b3 : p_inB (nI (6 * k) + (3 : Int32)) L = true := by rw [n_ar]; exact hb 3 (by decide)
      have b4 : p_inB (nI (6 * k) + (4 : Int32)) L = true := by rw [n_ar]; exact hb 4 (by decide)
      have b5 : p_inB (nI (6 * k) + (5 : Int32)) L = true := by rw [n_ar]; exact hb 5 (by decide)
      have next : ∀ σ2, IV σ2 → okA (L_law_18 (L, xs) (d + 200) (nI (6 * k) + (6 : Int32)) σ2) := fun σ2 i => by
        rw [show nI (6 * k) + (6 : Int32) = nI (6 * (k + 1)) from by rw [n_ar, show 6 * (k + 1) = 6 * k + 6 by omega]]
        exact ih (z - 6) (by omega) (k + 1) σ2 (by omega) (by omega) i
      refine okA_neg (show ¬ nI L - (6 : Int32) < nI (6 * k) by rw [show nI L - (6 : Int32) = nI (L - 6) from n_sr (by omega), n_LT (by omega) (by omega)]; omega) (okA_gdp b0 (swI_all (next σ h) _ _ ?_))
      refine List.forall_mem_cons.mpr ⟨okA_gdp b1 (okA_gdp b2 (okA_gdp b3 (okA_gdp b4 (okA_gdp b5 (pair_al h fX5 fM5 next (fun s t q => al_feed q)))))), ?_⟩
      refine List.forall_mem_cons.mpr ⟨okA_gdp b1 (pair_al h fX1 fM1 next (fun s t q => al_end q)), ?_⟩
      refine List.forall_mem_cons.mpr ⟨pair_al h fX0 fM0 next (fun s t q => al_program q), ?_⟩
      refine List.forall_mem_cons.mpr ⟨okA_gdp b1 (pair_al h fX1 fM1 next (fun s t q => al_count q)), ?_⟩
      refine List.forall_mem_cons.mpr ⟨okA_gdp b1 (okA_gdp b2 (pair_al h fX2 fM2 next (fun s t q => al_line q))), ?_⟩
      refine List.forall_mem_cons.mpr ⟨okA_gdp b1 (pair_al h fX1 fM1 next (fun s t q => al_begin q)), ?_⟩
      refine List.forall_mem_cons.mpr ⟨okA_gdp b1 (pair_al h fX1 fM1 next (fun s t q => al_ready q)), ?_⟩
      refine List.forall_mem_cons.mpr ⟨okA_gdp b1 (okA_gdp b2 (pair_al h fX2 fM2 next (fun s t q => al_turn q))), ?_⟩
      refine List.forall_mem_cons.mpr ⟨okA_gdp b1 (okA_gdp b2 (pair_al h fX2 fM2 next (fun s t q => al_thread q))), ?_⟩
      refine List.forall_mem_cons.mpr ⟨okA_gdp b1 (okA_gdp b2 (pair_al h fX2 fM2 next (fun s t q => al_local q))), ?_⟩
      refine List.forall_mem_cons.mpr ⟨okA_gdp b1 (pair_al h fX1 fM1 next (fun s t q => al_cell q)), ?_⟩
      refine List.forall_mem_cons.mpr ⟨okA_gdp b1 (okA_gdp b2 (pair_al h fX2 fM2 next (fun s t q => al_seen q))), ?_⟩
      refine List.forall_mem_cons.mpr ⟨okA_gdp b1 (okA_gdp b2 (pair_al h fX2 fM2 next (fun s t q => al_held q))), ?_⟩
      refine List.forall_mem_cons.mpr ⟨okA_gdp b1 (okA_gdp b2 (pair_al h fX2 fM2 next (fun s t q => al_step q))), ?_⟩
      refine List.forall_mem_cons.mpr ⟨okA_gdp b1 (okA_gdp b2 (pair_al h fX2 fM2 next (fun s t q => al_before q))), ?_⟩
      refine List.forall_mem_cons.mpr ⟨okA_gdp b1 (okA_gdp b2 (pair_al h fX2 fM2 next (fun s t q => al_runRace q))), ?_⟩
      refine List.forall_mem_cons.mpr ⟨okA_gdp b1 (pair_al h fX1 fM1 next (fun s t q => al_linear q)), ?_⟩
      refine List.forall_mem_cons.mpr ⟨okA_gdp b1 (pair_al h fX1 fM1 next (fun s t q => al_ordered q)), ?_⟩
      refine List.forall_mem_cons.mpr ⟨okA_gdp b1 (okA_gdp b2 ?_), ?_⟩
      · by_cases c2 : xs (nI (6 * k) + (2 : Int32)).toNatClampNeg = 0
        · rw [if_pos c2]
          exact loop_exp h b1 b2 false ⟨fun _ => rfl, fun _ => c2⟩ next
        · rw [if_neg c2]
          exact loop_exp h b1 b2 true ⟨fun q => absurd q c2, fun q => by cases q⟩ next
      refine List.forall_mem_cons.mpr ⟨okA_gdp b1 (pair_al h fX1 fM1 next (fun s t q => al_explored q)), ?_⟩
      refine List.forall_mem_cons.mpr ⟨okA_gdp b1 (okA_gdp b2 (pair_al h fX2 fM2 next (fun s t q => al_outcome q))), ?_⟩
      refine List.forall_mem_cons.mpr ⟨okA_gdp b1 (okA_gdp b2 (pair_al h fX2 fM2 next (fun s t q => al_outcomeCell q))), ?_⟩
      refine List.forall_mem_cons.mpr ⟨okA_gdp b1 (okA_gdp b2 (okA_gdp b3 (pair_al h fX3 fM3 next (fun s t q => al_outcomeLocal q)))), ?_⟩
      refine List.forall_mem_cons.mpr ⟨okA_gdp b1 (okA_gdp b2 (pair_al h fX2 fM2 next (fun s t q => al_schedule q))), ?_⟩
      refine List.forall_mem_cons.mpr ⟨okA_gdp b1 (pair_al h fX1 fM1 next (fun s t q => al_replay q)), ?_⟩
      refine List.forall_mem_cons.mpr ⟨okA_gdp b1 (okA_gdp b2 (okA_gdp b3 (pair_al h fX3 fM3 next (fun s t q => al_chances q)))), ?_⟩
      refine List.forall_mem_cons.mpr ⟨okA_gdp b1 (okA_gdp b2 (pair_al h fX2 fM2 next (fun s t q => al_race q))), ?_⟩
      refine List.forall_mem_cons.mpr ⟨okA_gdp b1 (pair_al h fX1 fM1 next (fun s t q => al_guard q)), ?_⟩
      refine List.forall_mem_cons.mpr ⟨okA_gdp b1 (pair_al h fX1 fM1 next (fun s t q => al_ring q)), ?_⟩
      refine List.forall_mem_cons.mpr ⟨okA_gdp b1 (okA_gdp b2 (pair_al h fX2 fM2 next (fun s t q => al_order q))), ?_⟩
      refine List.forall_mem_cons.mpr ⟨pair_al h fX0 fM0 next (fun s t q => al_judge q), ?_⟩
      refine List.forall_mem_cons.mpr ⟨pair_al h fX0 fM0 next (fun s t q => al_where q), ?_⟩
      refine List.forall_mem_cons.mpr ⟨okA_gdp b1 (okA_gdp b2 (pair_al h fX2 fM2 next (fun s t q => al_rewrite q))), ?_⟩
      refine List.forall_mem_cons.mpr ⟨pair_al h fX0 fM0 next (fun s t q => al_drop q), ?_⟩
      refine List.forall_mem_cons.mpr ⟨okA_gdp b1 (pair_al h fX1 fM1 next (fun s t q => hsnd _ s t q)), ?_⟩
      refine List.forall_mem_cons.mpr ⟨pair_al h fX0 fM0 next (fun s t q => al_gained q), ?_⟩
      exact fun _ hA => by cases hA
theorem law_run (hL : L ≤ 3072) : lawRun L xs := by
  obtain ⟨τ, hτ⟩ := law_loop (d := 8) hL (fun _ _ _ q => al_sound q) L 0 s0 (by omega) (by omega) IV_0
  exact ⟨201, τ, by decide, hτ⟩
end LOOP
