/-! THE RUN: what a thread may see, the model's side. -/
section QG
variable {en : pN} {d : Nat} {σ : qS} {w nc nl nt n len t i c k : Nat} {P g : Nat → fI} {N : fI} {u v : Int32}
theorem m_seenQ (hm : RMi σ P w N nc nl nt n len g) (hP : PV P nc nl nt n) (hS : SV P w nc nl nt n N) (hw2 : w ≤ 2) : ∃ σ', qev en (d + 8) 340 [.ref 151, .int u, .int v] σ = some (some (.int (snR P w N nt u v)), σ') ∧ frM σ σ' ∧ RMi σ' P w N nc nl nt n len g := by
  have hm0 := hm
  have hpic := rm_pic hm
  have ht4 := hP.2.2.1.2
  have hn := hP.2.2.2.1.2
  have hc8 := hP.1.2
  obtain ⟨hB, hR, hW, ⟨h12, h16, h18, h76, h78, h74⟩, hg, hX⟩ := hm
  have fr0 : frM σ σ := ⟨fun _ _ _ => rfl, fun _ _ _ _ => rfl, fun _ _ _ => rfl, fun _ _ => rfl, rfl⟩
  have irid : uIr σ 190 (σ.1 190) = σ := by
    refine Prod.ext (funext fun a => funext fun k => ?_) rfl
    show (if a = 190 then σ.1 190 k else σ.1 a k) = σ.1 a k
    by_cases q : a = 190
    · rw [if_pos q, q]
    · rw [if_neg q]
  unfold snR
  by_cases a0 : u < 0
  · refine ⟨σ, le_X12_seen en (d + 7) _ _ _ _ ?_, fr0, hm0⟩
    rw [if_neg h74, m_isThread h18, bI_some, if_pos a0, if_pos a0]
    exact if_neg (by decide)
  rw [if_neg a0]
  by_cases a1 : u < nI nt
  · obtain ⟨t, ht, rfl⟩ := nI_of a0
    have a2 := a1
    rw [n_LT (by omega) (by omega)] at a1
    rw [if_pos a2, show clp (nI t) = t from n_clp (by omega)]
    have e1 := m_takeRun (en := en) (d := d + 5) (σ := σ) (K := σ.1 191) (W := σ.1 192) (F := σ.1 151) (s := σ.1 187) (y := σ.1 188) (gg := σ.1 189) (g := g) (X := σ.2.1 199) (D := σ.2.1 151 72) h76 hw2
    rw [hpic] at e1
    generalize hF1 : upd (upd (upd (σ.1 151) 58 (nI w)) 60 (nI (wid w))) 59 3 = F1 at e1
    generalize hs1 : cpf (σ.1 187) (σ.1 191) 216 = s1 at e1
    have f1 : ∀ j, j < 58 ∨ 74 ≤ j → F1 j = σ.1 151 j := by
      intro j hj
      rw [← hF1, pk_un (by omega), pk_un (by omega), pk_un (by omega)]
    have hM : MF F1 w 3 nc nl nt := by
      refine ⟨?_, ?_, ?_, ?_, ?_⟩
      · rw [f1 12 (by decide)]; exact h12
      · rw [f1 16 (by decide)]; exact h16
      · rw [f1 18 (by decide)]; exact h18
      · rw [← hF1, pk_un (by decide), pk_un (by decide), pk_us]
      · rw [← hF1, pk_us]; rfl
    have hR1 : MR w N s1 := by rw [← hs1]; exact MR_cpf hR
    have post : ∀ (F2 g2 : fI), (∀ j, j ≠ 62 → F2 j = F1 j) → frM σ (mM (kpS σ (σ.1 191) (σ.1 192) g (σ.2.1 199)) F2 s1 (σ.1 188) g2 (σ.2.1 151 72)) ∧ RMi (mM (kpS σ (σ.1 191) (σ.1 192) g (σ.2.1 199)) F2 s1 (σ.1 188) g2 (σ.2.1 151 72)) P w N nc nl nt n len g := by
      intro F2 g2 h2
      have h3 : ∀ j, j < 58 ∨ 74 ≤ j → F2 j = σ.1 151 j := fun j hj => (h2 j (by omega)).trans (f1 j hj)
      refine ⟨?_, rm_mk hB hR hW ((h3 12 (by decide)).trans h12) ((h3 16 (by decide)).trans h16) ((h3 18 (by decide)).trans h18) ((h3 76 (by decide)).trans h76) ((h3 78 (by decide)).trans h78) (by rw [h3 74 (by decide)]; exact h74) hX⟩
      have := fm_pic (σ := σ) (R := σ.1 190) (K := σ.1 191) (W := σ.1 192) (g := g) (X := σ.2.1 199) (F := F2) (s := s1) (y := σ.1 188) (gg := g2) (D := σ.2.1 151 72) (fun k hk _ _ => h3 k hk)
      rw [irid] at this
      exact this
    have es : (mM (kpS σ (σ.1 191) (σ.1 192) g (σ.2.1 199)) F1 s1 (σ.1 188) (σ.1 189) (σ.2.1 151 72)).1 187 t = N t := by rw [mM_s]; exact mr_st hR1 (by omega)
    have e336 := m_isThread (en := en) (d := d + 6) (u := nI t) h18
    rw [if_neg a0, if_pos a2] at e336
    by_cases n1 : N t = 1
    · obtain ⟨⟨i, hi, z, -⟩, -⟩ := sv_run (hS.1.1 t a1) n1
      have ec : clp (N (4 + t)) = i := by rw [z]; exact n_clp (by omega)
      obtain ⟨⟨hk, hkk⟩, -⟩ := hP.2.2.2.2.1 i hi
      have hl := hB.2.1 i hi
      have e164 : ∀ (F2 g2 : fI), (mM (kpS σ (σ.1 191) (σ.1 192) g (σ.2.1 199)) F2 s1 (σ.1 188) g2 (σ.2.1 151 72)).1 164 (300 + i) = P 7 i := fun F2 g2 => by
        rw [mM_o (by decide) (by decide) (by decide) (by decide), kp_o (by decide)]
        exact hl.1
      have e166 : ∀ (F2 g2 : fI), (mM (kpS σ (σ.1 191) (σ.1 192) g (σ.2.1 199)) F2 s1 (σ.1 188) g2 (σ.2.1 151 72)).1 166 (300 + i) = P 9 i := fun F2 g2 => by
        rw [mM_o (by decide) (by decide) (by decide) (by decide), kp_o (by decide)]
        exact hl.2.1
      have eln := m_line (en := en) (d := d + 6) (y := σ.1 188) (g := σ.1 189) (D := σ.2.1 151 72) (σ := kpS σ (σ.1 191) (σ.1 192) g (σ.2.1 199)) hM hR1 (show t < 4 by omega) (by decide : (3 : Nat) ≤ 3) z (by omega)
      rw [ec]
      have top : ∀ r : qR, ((if ¬ P 7 i = 1 then some (some (Value.int (-1000 : Int32)), mM (kpS σ (σ.1 191) (σ.1 192) g (σ.2.1 199)) F1 s1 (σ.1 188) (σ.1 189) (σ.2.1 151 72)) else if v < 0 then some (some (Value.int (-1000 : Int32)), mM (kpS σ (σ.1 191) (σ.1 192) g (σ.2.1 199)) F1 s1 (σ.1 188) (σ.1 189) (σ.2.1 151 72)) else bI (qev en (d + 7) 312 [.ref 151, .int (nI t)] (mM (kpS σ (σ.1 191) (σ.1 192) g (σ.2.1 199)) F1 s1 (σ.1 188) (σ.1 189) (σ.2.1 151 72))) (fun w17 s18 => if v < w17 then bI (qev en (d + 7) 303 [.ref 151, .int (nI t)] s18) (fun w21 s22 => gd (p_inB w21 400 = true) (bI (qev en (d + 7) 321 [.ref 151, .int (nI t), .int (s22.1 166 w21.toNatClampNeg), .int v] s22) (fun w25 s26 => some (some (.int w25), s26)))) else some (some (.int (-1000 : Int32)), s18))) : Option qR) = some r → qev en (d + 8) 340 [.ref 151, .int (nI t), .int v] σ = some r := by
        intro r hh
        refine le_X12_seen en (d + 7) _ _ _ _ ?_
        rw [if_neg h74, e336, bI_some, if_pos (by decide), e1, bV_some, n_al, gd_true (n_in (by show 0 + t < 216; omega) (by decide)), n_cl (by show 0 + t < _; omega), show (OfNat.ofNat 0 : Nat) + t = t from Nat.zero_add t, es, n1, if_neg (fun q => q rfl), eln, bI_some, gd_true (n_in (by omega) (by decide)), n_cl (by omega), e164]
        exact hh
      by_cases k1 : kd P i = 1
      · have p71 : P 7 i = 1 := by rw [hk, k1]; rfl
        by_cases v0 : v < 0
        · rw [if_neg (fun q => q.2.2.1 v0)]
          obtain ⟨p1, p2⟩ := post F1 (σ.1 189) (fun _ _ => rfl)
          exact ⟨_, top _ (by rw [if_neg (fun q => q p71), if_pos v0]), p1, p2⟩
        obtain ⟨k, hk', rfl⟩ := nI_of v0
        rw [show clp (nI k) = k from n_clp (by omega)]
        obtain ⟨F2, g2, e2, f2⟩ := m_choices (en := en) (d := d + 1) (y := σ.1 188) (g := σ.1 189) (D := σ.2.1 151 72) (kp_MB (K := σ.1 191) (W := σ.1 192) (g := g) (X := σ.2.1 199) hB) hP hS hM hR1 hw2 a1
        have hle := ch_le hP hS a1
        obtain ⟨p1, p2⟩ := post F2 g2 f2
        by_cases kc : k < chs P w N t nt
        · obtain ⟨s1', s2, s3, s4, q, q1, q2, q3⟩ := sn_fact hP hS a1 n1 z hi k1 kc
          have hM2 : MF F2 w 3 nc nl nt := by
            obtain ⟨b1, b2, b3, b4, b5⟩ := hM
            exact ⟨(f2 12 (by decide)).trans b1, (f2 16 (by decide)).trans b2, (f2 18 (by decide)).trans b3, (f2 58 (by decide)).trans b4, (f2 59 (by decide)).trans b5⟩
          have eln2 := m_line (en := en) (d := d + 6) (y := σ.1 188) (g := g2) (D := σ.2.1 151 72) (σ := kpS σ (σ.1 191) (σ.1 192) g (σ.2.1 199)) hM2 hR1 (show t < 4 by omega) (by decide : (3 : Nat) ≤ 3) z (by omega)
          have hv155 : (kpS σ (σ.1 191) (σ.1 192) g (σ.2.1 199)).1 155 (ob P i) = bt (vol P (ob P i)) := by
            rw [kp_o (by decide)]
            exact (hB.2.2.1 _ s2).2
          have e3 := m_loaded (en := en) (d := d + 5) (y := σ.1 188) (g := g2) (D := σ.2.1 151 72) hv155 hM2 hR1 hw2 (show t < 4 by omega) (show ob P i < 8 by omega) q1 q2 q3 s3
          rw [if_pos ⟨n1, k1, v0, kc⟩]
          refine ⟨_, top _ ?_, p1, p2⟩
          rw [if_neg (fun q => q p71), if_neg v0, e2, bI_some, if_pos (by rw [n_LT (by omega) (by omega)]; exact kc), eln2, bI_some, gd_true (n_in (by omega) (by decide)), n_cl (by omega), e166, s1', e3, bI_some]
        · rw [if_neg (fun q => kc q.2.2.2)]
          refine ⟨_, top _ ?_, p1, p2⟩
          rw [if_neg (fun q => q p71), if_neg v0, e2, bI_some, if_neg (by rw [n_LT (by omega) (by omega)]; exact kc)]
      · have p71 : ¬ P 7 i = 1 := by
          rw [hk]
          exact fun q => k1 ((nI_eq (b := 1) (by omega) (by decide)).mp q)
        rw [if_neg (fun q => k1 q.2.1)]
        obtain ⟨p1, p2⟩ := post F1 (σ.1 189) (fun _ _ => rfl)
        exact ⟨_, top _ (by rw [if_pos p71]), p1, p2⟩
    · rw [if_neg (fun q => n1 q.1)]
      obtain ⟨p1, p2⟩ := post F1 (σ.1 189) (fun _ _ => rfl)
      refine ⟨_, le_X12_seen en (d + 7) _ _ _ _ ?_, p1, p2⟩
      rw [if_neg h74, e336, bI_some, if_pos (by decide), e1, bV_some, n_al, gd_true (n_in (by show 0 + t < 216; omega) (by decide)), n_cl (by show 0 + t < _; omega), show (OfNat.ofNat 0 : Nat) + t = t from Nat.zero_add t, es, if_pos n1]
  · rw [if_neg a1]
    refine ⟨σ, le_X12_seen en (d + 7) _ _ _ _ ?_, fr0, hm0⟩
    rw [if_neg h74, m_isThread h18, bI_some, if_neg a0, if_neg a1]
    exact if_neg (by decide)
end QG
