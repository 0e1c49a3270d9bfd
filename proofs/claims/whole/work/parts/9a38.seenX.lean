/-! THE RUN: what a thread may see, both sides. -/
section QF
variable {en : pN} {d : Nat} {σ τ : qS} {p w nc nl nt n len t i c k : Nat} {P f g : Nat → fI} {N : fI} {u v : Int32}
/-- what a thread may load, of choices k -/
def snR (P : Nat → fI) (w : Nat) (N : fI) (nt : Nat) (u v : Int32) : Int32 := if u < 0 then -1000 else if u < nI nt then (if N (clp u) = 1 ∧ kd P (clp (N (4 + clp u))) = 1 ∧ ¬ v < 0 ∧ clp v < chs P w N (clp u) nt then ldb w P N (clp u) (ob P (clp (N (4 + clp u)))) (clp v) else -1000) else -1000
/-- what is needed of a load that is ready -/
theorem sn_fact (hP : PV P nc nl nt n) (hS : SV P w nc nl nt n N) (ht : t < nt) (h1 : N t = 1) (hi : N (4 + t) = nI i) (hin : i < n) (hk : kd P i = 1) (hv : k < chs P w N t nt) : P 9 i = nI (ob P i) ∧ ob P i < nc ∧ (w = 2 → vol P (ob P i) = false → nb (N (224 + t)) (ob P i) + k < 9) ∧ k < 9 ∧ ∃ q, N (56 + t) = nI q ∧ q ≤ 3 ∧ (w ≠ 1 → q = 0) := by
  have hle := ch_le hP hS ht
  have hn := hP.2.2.2.1.2
  have ht4 := hP.2.2.1.2
  have hc8 := hP.1.2
  obtain ⟨o1, o2⟩ := (hP.2.2.2.2.1 i hin).2.2.1 (by omega) (by omega)
  have ec : clp (N (4 + t)) = i := by rw [hi]; exact n_clp (by omega)
  refine ⟨o1, o2, fun hw hvo => ?_, by omega, ?_⟩
  · have e : chs P w N t nt = chK P w N t nt i (ob P i) (kd P i) := by
      unfold chs
      rw [h1, if_neg (by decide), if_pos rfl, ec]
    rw [e, hk] at hv
    unfold chK at hv
    rw [if_neg (fun z => by have := z.2; omega), if_pos rfl, if_pos ⟨hw, hvo⟩] at hv
    rcases hS.2.2.2.2.2 with ⟨z, -⟩ | ⟨-, hc, -⟩
    · exact absurd hw z
    · rcases hc (ob P i) (by omega) with ⟨-, a, ea, a1, a9, -⟩ | ⟨z, -⟩
      · rw [ea, show clp (nI a) = a from n_clp (by omega)] at hv
        omega
      · omega
  · rcases hS.2.2.2.2.1 t (by omega) with ⟨w1, -, q, e, q3, -⟩ | ⟨-, e, -⟩
    · exact ⟨q, e, q3, fun z => absurd w1 z⟩
    · exact ⟨0, e, by decide, fun _ => rfl⟩
theorem x_seenQ (h : RXi τ p P w N len f) (h11 : τ.1 11 11 = nI nt) (hP : PV P nc nl nt n) (hS : SV P w nc nl nt n N) (hw2 : w ≤ 2) : ∃ τ', qev en (d + 7) 213 [.ref 0, .int u, .int v] τ = some (some (.int (snR P w N nt u v)), τ') ∧ frX τ τ' ∧ RXi τ' p P w N len f := by
  have h0 := h
  have hpic := rx_pic h
  have ht4 := hP.2.2.1.2
  have hn := hP.2.2.2.1.2
  have hc8 := hP.1.2
  obtain ⟨hB, hN, hw, hl, hv, hf, hA⟩ := h
  have e0 : rnS τ (nI len) f (τ.2.1 124) = rnS (uIr τ 115 (τ.1 115)) (nI len) f (τ.2.1 124) := by rw [ir_id]
  have fr0 : frX τ τ := ⟨fun _ _ _ _ _ _ _ _ => rfl, fun _ _ => rfl, fun _ _ => rfl, fun _ _ => rfl, rfl⟩
  unfold snR
  by_cases a0 : u < 0
  · refine ⟨τ, le_X11_seen en (d + 6) _ _ _ _ ?_, fr0, h0⟩
    rw [if_neg hv, if_pos a0, if_pos a0]
  rw [if_neg a0]
  by_cases a1 : u < nI nt
  · obtain ⟨t, ht, rfl⟩ := nI_of a0
    have a2 := a1
    rw [n_LT (by omega) (by omega)] at a1
    rw [if_pos a2, show clp (nI t) = t from n_clp (by omega)]
    have hB' : XB (rnS τ (nI len) f (τ.2.1 124)) 112 p P := rn_XB hB
    -- a load that may not be
    have no : (N (4 + t) < 0 ∨ ∃ i, i < n ∧ N (4 + t) = nI i ∧ (¬ P 7 i = 1 ∨ v < 0)) → qev en (d + 6) 65 [.ref 112, .int (nI t), .int v] τ = some (some (.int 0), τ) := by
      intro hh
      refine le_X3_mayLoad en (d + 5) 112 _ _ _ _ ?_
      rw [gd_true (by rfl), n_al, gd_true (n_in (by show 4 + t < 236; omega) (by decide)), nm_eq, n_cl (by show 4 + t < _; omega), show (112 : Nat) + 1 = 113 from rfl, hN, show N ((OfNat.ofNat 4 : Nat) + t) = N (4 + t) from rfl]
      rcases hh with z | ⟨i, hi, z, y⟩
      · rw [if_pos z]
      · have r7 : τ.2.2 112 7 = p + 1 := hB.2.2.1
        have e7 : τ.1 (p + 7) = P 7 := hB.2.2.2.1 7 (by decide)
        rw [z, if_neg (nI_pos (by omega)), r7, gd_true ⟨by omega, xb_lp hB⟩, nm_eq, show p + 1 - 1 = p from rfl, gd_true (n_in (by omega) (by decide)), e7, n_cl (by omega)]
        by_cases y1 : P 7 i = 1
        · rw [if_neg (fun q => q y1), if_pos (y.resolve_left (fun q => q y1))]
        · rw [if_pos y1]
    have noE : qev en (d + 6) 65 [.ref 112, .int (nI t), .int v] τ = some (some (.int 0), τ) → qev en (d + 7) 213 [.ref 0, .int (nI t), .int v] τ = some (some (.int (-1000)), τ) := by
      intro e
      refine le_X11_seen en (d + 6) _ _ _ _ ?_
      rw [if_neg hv, if_neg (nI_pos (by omega)), h11, if_pos a2, e, bI_some]
      exact if_pos rfl
    rcases ln_two hS a1 with z | ⟨i, hi, z⟩
    · have n1 : ¬ N t = 1 := by
        intro q
        obtain ⟨⟨i, hi, e, -⟩, -⟩ := sv_run (hS.1.1 t a1) q
        rw [z] at e
        exact nI_pos (show i < 2 ^ 31 by omega) (by rw [← e]; decide)
      rw [if_neg (fun q => n1 q.1)]
      exact ⟨τ, noE (no (Or.inl (by rw [z]; decide))), fr0, h0⟩
    · have ec : clp (N (4 + t)) = i := by rw [z]; exact n_clp (by omega)
      obtain ⟨⟨hk, hkk⟩, -⟩ := hP.2.2.2.2.1 i hi
      rw [ec]
      by_cases k1 : kd P i = 1
      · have n1 : N t = 1 := by
          rcases hS.1.1 t a1 with ⟨-, q, -⟩ | ⟨q, -⟩ | ⟨-, ⟨i', hi', q, -, q7⟩, -⟩ | ⟨-, q, -⟩
          · rw [z] at q; exact absurd (show nI i < 0 by rw [q]; decide) (nI_pos (by omega))
          · exact q
          · rw [z] at q
            have := (nI_eq (by omega) (by omega)).mp q
            subst this
            omega
          · rw [z] at q; exact absurd (show nI i < 0 by rw [q]; decide) (nI_pos (by omega))
        have p71 : P 7 i = 1 := by rw [hk, k1]; rfl
        by_cases v0 : v < 0
        · rw [if_neg (fun q => q.2.2.1 v0)]
          exact ⟨τ, noE (no (Or.inr ⟨i, hi, z, Or.inr v0⟩)), fr0, h0⟩
        obtain ⟨k, hk', rfl⟩ := nI_of v0
        rw [show clp (nI k) = k from n_clp (by omega)]
        obtain ⟨G1, b1, ech⟩ := x_choices (en := en) (d := d) (σ := rnS τ (nI len) f (τ.2.1 124)) (m := 112) (F := τ.1 112) (G := τ.1 10) (b := τ.1 7 4) hB' hP hS hw hw2 a1
        rw [hpic] at ech
        have hle := ch_le hP hS a1
        have e65 : ∀ x : Int32, (if nI (chs P w N t nt) ≤ nI k then (0 : Int32) else 1) = x → qev en (d + 6) 65 [.ref 112, .int (nI t), .int (nI k)] τ = some (some (.int x), mS (rnS τ (nI len) f (τ.2.1 124)) 112 (τ.1 112) N b1 G1) := by
          intro x hx
          refine le_X3_mayLoad en (d + 5) 112 _ _ _ _ ?_
          have r7 : τ.2.2 112 7 = p + 1 := hB.2.2.1
          have e7 : τ.1 (p + 7) = P 7 := hB.2.2.2.1 7 (by decide)
          rw [gd_true (by rfl), n_al, gd_true (n_in (by show 4 + t < 236; omega) (by decide)), nm_eq, n_cl (by show 4 + t < _; omega), show (112 : Nat) + 1 = 113 from rfl, hN, show N ((OfNat.ofNat 4 : Nat) + t) = N (4 + t) from rfl, z, if_neg (nI_pos (by omega)), r7, gd_true ⟨by omega, xb_lp hB⟩, nm_eq, show p + 1 - 1 = p from rfl, gd_true (n_in (by omega) (by decide)), e7, n_cl (by omega), if_neg (fun q => q p71), if_neg v0, ech, bI_some]
          by_cases y : nI (chs P w N t nt) ≤ nI k
          · rw [if_pos y] at hx ⊢; rw [hx]
          · rw [if_neg y] at hx ⊢; rw [hx]
        have hpost : RXi (mS (rnS τ (nI len) f (τ.2.1 124)) 112 (τ.1 112) N b1 G1) p P w N len f := by
          rw [e0]; exact rx_mkR hB hw hv hA
        have fpost : frX τ (mS (rnS τ (nI len) f (τ.2.1 124)) 112 (τ.1 112) N b1 G1) := by
          rw [e0]; exact fx_pic
        by_cases kc : k < chs P w N t nt
        · obtain ⟨s1, s2, s3, s4, q, q1, q2, q3⟩ := sn_fact hP hS a1 n1 z hi k1 kc
          rw [if_pos ⟨n1, k1, v0, kc⟩]
          refine ⟨_, le_X11_seen en (d + 6) _ _ _ _ ?_, fpost, hpost⟩
          rw [if_neg hv, if_neg (nI_pos (by omega)), h11, if_pos a2, e65 1 (if_neg (by rw [n_LE (by omega) (by omega)]; omega)), bI_some, if_neg (by decide), x_ldb (en := en) (d := d + 4) hB' (by omega) z (by omega) s1 (by omega) hw hw2 q1 q2 s3 (by omega), bI_some]
        · rw [if_neg (fun q => kc q.2.2.2)]
          refine ⟨_, le_X11_seen en (d + 6) _ _ _ _ ?_, fpost, hpost⟩
          rw [if_neg hv, if_neg (nI_pos (by omega)), h11, if_pos a2, e65 0 (if_pos (by rw [n_LE (by omega) (by omega)]; omega)), bI_some]
          exact if_pos rfl
      · have p71 : ¬ P 7 i = 1 := by
          rw [hk]
          exact fun q => k1 ((nI_eq (b := 1) (by omega) (by decide)).mp q)
        rw [if_neg (fun q => k1 q.2.1)]
        exact ⟨τ, noE (no (Or.inr ⟨i, hi, z, Or.inl p71⟩)), fr0, h0⟩
  · rw [if_neg a1]
    refine ⟨τ, le_X11_seen en (d + 6) _ _ _ _ ?_, fr0, h0⟩
    rw [if_neg hv, if_neg a0, h11, if_neg a1]
end QF
