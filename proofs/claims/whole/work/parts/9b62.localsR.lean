/-! THE READER: the local at hand, on both sides. -/
/-- names (V: cells from 0, locks from 8, threads from 12) and locals (U, cl many) of both -/
abbrev nmR (s t : qS) (V : Nat → Nat) (U : Nat → Nat → Nat) (cl : Nat → Nat) (nc nl nt : Nat) : Prop := (nc ≤ 8 ∧ nl ≤ 4 ∧ nt ≤ 4) ∧ (s.1 11 9 = nI nc ∧ s.1 11 10 = nI nl ∧ s.1 11 11 = nI nt) ∧ (t.1 151 12 = nI nc ∧ t.1 151 16 = nI nl ∧ t.1 151 18 = nI nt) ∧
  ((∀ j, j < 16 → s.2.1 12 j = Int64.ofNat (V j) ∧ V j < 128 ^ 8) ∧ (∀ j, j < 16 → V j ≠ 0 → j < nc ∨ (8 ≤ j ∧ j < 8 + nl) ∨ (12 ≤ j ∧ j < 12 + nt)) ∧ ∀ i j, i < 16 → j < 16 → V i = V j → V i ≠ 0 → i = j) ∧
  ((∀ c, c < nc → t.2.1 153 c = Int64.ofNat (w8 8 (V c)) ∧ V c ≠ 0) ∧ (∀ l, l < nl → t.2.1 156 l = Int64.ofNat (w8 8 (V (8 + l))) ∧ V (8 + l) ≠ 0) ∧ ∀ u, u < nt → t.2.1 157 u = Int64.ofNat (w8 8 (V (12 + u))) ∧ V (12 + u) ≠ 0) ∧
  ∀ u, u < 4 → s.1 14 u = nI (cl u) ∧ ((u < nt → t.1 159 u = nI (cl u)) ∧ (nt ≤ u → cl u = 0)) ∧ cl u ≤ 6 ∧ ∀ j, j < cl u → s.2.1 13 (u * 6 + j) = Int64.ofNat (U u j) ∧ t.2.1 160 (6 * u + j) = Int64.ofNat (w8 8 (U u j)) ∧ U u j < 128 ^ 8
section LCR
variable {en : pN} {d d' v k i u c n nc nl nt : Nat} {V cl : Nat → Nat} {U : Nat → Nat → Nat} {s t : qS} {B : Nat → Nat}
theorem w8_of {a b : Nat} (ha : a < 128 ^ 8) (hb : b < 128 ^ 8) : Int64.ofNat (w8 8 a) = Int64.ofNat (w8 8 b) ↔ a = b := by
  have h1 := @w8_lt a 8
  have h2 := @w8_lt b 8
  rw [i64_inj (by omega) (by omega)]
  exact ⟨fun h => w8_inj 8 a b ha hb h, fun h => by rw [h]⟩
theorem id_of {a b : Nat} (ha : a < 128 ^ 8) (hb : b < 128 ^ 8) : Int64.ofNat (id a) = Int64.ofNat (id b) ↔ a = b := by
  have h1 : a < 2 ^ 64 := by omega
  have h2 : b < 2 ^ 64 := by omega
  exact i64_inj h1 h2
theorem tk_val (hi : i < tkL B n) : (tkN B n i).2.2.1 < 128 ^ 8 := by
  obtain ⟨-, -, h, -⟩ := aL_next (n + 1) 0 i _ (by omega) (by omega) (tk_at (B := B) hi)
  obtain ⟨-, -, -, e⟩ := tokX_is (K := fun i => Int64.ofNat (KN.getD i 0)) (B := B) (n := n) (p := (tkN B n i).1) (fun _ _ => rfl)
  rw [h]
  exact e
/-- the local at hand: known, new, or one too many -/
theorem local_alike (hn : nmR s t V U cl nc nl nt) (hc : cL s B n i) (hm : mtL t B n i) (hk : tkK B n i = 2) (hu : s.1 65 14 = nI u) (hnt : nt = u + 1) :
    (∃ (j : Nat) (s' t' : qS) (U' : Nat → Nat → Nat) (cl' : Nat → Nat), qev en (d + 2) 128 [.ref 65] s = some (some (.int (nI j)), s') ∧ qev en (d' + 3) 261 [.ref 151] t = some (some (.int (nI j)), t') ∧ j < 6 ∧ nmR s' t' V U' cl' nc nl nt ∧ ((∀ a, a ≠ 14 → s'.1 a = s.1 a) ∧ (∀ a, a ≠ 13 → s'.2.1 a = s.2.1 a) ∧ s'.2.2 = s.2.2) ∧ ((∀ a, a ≠ 159 → t'.1 a = t.1 a) ∧ (∀ a, a ≠ 160 → t'.2.1 a = t.2.1 a) ∧ t'.2.2 = t.2.2) ∧ (∀ w, cl w ≤ cl' w) ∧ j < cl' u) ∨
    (∃ t' : qS, qev en (d + 2) 128 [.ref 65] s = some (some (.int (-1)), bmS s 4) ∧ qev en (d' + 3) 261 [.ref 151] t = some (some (.int (-1)), t') ∧ mtD t' 4 (tkN B n i).1 ∧ mvF t t') := by
  obtain ⟨⟨hnc, hnl, hnt4⟩, ⟨s9, s10, s11⟩, ⟨t12, t16, t18⟩, hV, hT, hL⟩ := id hn
  obtain ⟨hi, c1, c2, c3⟩ := cL_at hc
  obtain ⟨⟨mX, mn, -⟩, m7, m4, mk1, m2, m3, m5, m6⟩ := id hm
  have hv := tk_val (B := B) (n := n) hi
  have cw := c3 (by omega)
  have mw := m5 (Or.inl hk)
  generalize hval : (tkN B n i).2.2.1 = v at *
  have hu4 : u < 4 := by omega
  obtain ⟨l1, ⟨l2, -⟩, l3, l4⟩ := hL u hu4
  have l2 := l2 (by omega)
  have e83 : qev en (d + 1) 83 [.ref 13, .int (nI (u * 6)), .int (nI (cl u)), .long (Int64.ofNat v)] s = some (some (.int (fnN (U u) v (cl u) 0)), s) := by
    rw [c_find (a := 13) rfl (by show u * 6 + cl u ≤ 24; omega) (by decide)]
    rw [show Int64.ofNat v = Int64.ofNat (id v) from rfl, fnd_N (e := id) (V := U u) (fun a b => id_of) hv (cl u) 0 (fun j a b => by
      obtain ⟨g1, g2, g3⟩ := l4 j (by omega)
      exact ⟨g1, g3⟩)]
  have e259 : qev en (d' + 2) 259 [.ref 151, .int (nI u), .long (Int64.ofNat (w8 8 v))] t = some (some (.int (fnN (U u) v (cl u) 0)), t) := by
    rw [m_localOf hu4 l2 l3]
    rw [fnd_N (e := w8 8) (V := U u) (fun a b => w8_of) hv (cl u) 0 (fun j a b => by
      obtain ⟨g1, g2, g3⟩ := l4 j (by omega)
      exact ⟨g2, g3⟩)]
  have e6 : nI u * (6 : Int32) = nI (u * 6) := n_mr
  have e18 : t.1 151 18 - (1 : Int32) = nI u := by rw [t18, hnt]; exact n_sr (by omega)
  have preX : ∀ r, (if fnN (U u) v (cl u) 0 < (0 : Int32) then gd (p_inB (nI u) 4 = true) (if nI (cl u) < (6 : Int32) then bI (qev en (d + 1) 98 [.ref 11, .int (nI u), .long (Int64.ofNat v)] s) (fun w8 s9 => some (some (.int w8), s9)) else bV (qev en (d + 1) 114 [.ref 65, .int (4 : Int32)] s) (fun s12 => some (some (.int (-1 : Int32)), s12))) else some (some (.int (fnN (U u) v (cl u) 0)), s)) = some r → qev en (d + 2) 128 [.ref 65] s = some r := by
    intro r hr
    refine le_X6_localHere en _ _ _ ?_
    rw [hu, gd_in (by omega) (by decide), e6, n_cl (by omega), l1, cw, e83, bI_some, hu, n_cl (by omega), l1, cw]
    exact hr
  have preM : ∀ r, (if ¬ fnN (U u) v (cl u) 0 = (-1 : Int32) then some (some (.int (fnN (U u) v (cl u) 0)), t) else if (6 : Int32) ≤ nI (cl u) then L_X12_takeLocal_39 en (d' + 2) (nI u) (fnN (U u) v (cl u) 0) (0 : Int32) t else L_X12_takeLocal_39 en (d' + 2) (nI u) (fnN (U u) v (cl u) 0) (1 : Int32) t) = some r → qev en (d' + 3) 261 [.ref 151] t = some r := by
    intro r hr
    refine le_X12_takeLocal en _ _ _ ?_
    rw [e18, nm_eq, mw, e259, bI_some, gd_in (by omega) (by decide), n_cl (by omega), l2]
    exact hr
  rcases fnN_is (V := U u) (v := v) (cl u) 0 with ⟨h1, h2⟩ | ⟨j, h1, h2, h3, h4, h5⟩
  · rw [h1] at preX preM
    by_cases q : cl u < 6
    · -- a new one
      left
      let s' : qS := uI (uJ s 13 (u * 6 + cl u) (Int64.ofNat v)) 14 u (nI (cl u + 1))
      let t' : qS := uI (uJ t 160 (6 * u + cl u) (Int64.ofNat (w8 8 v))) 159 u (nI (cl u + 1))
      have sJ : ∀ a k, (uJ s 13 (u * 6 + cl u) (Int64.ofNat v)).2.1 a k = if a = 13 ∧ k = u * 6 + cl u then Int64.ofNat v else s.2.1 a k := fun a k => rfl
      have tJ : ∀ a k, (uJ t 160 (6 * u + cl u) (Int64.ofNat (w8 8 v))).2.1 a k = if a = 160 ∧ k = 6 * u + cl u then Int64.ofNat (w8 8 v) else t.2.1 a k := fun a k => rfl
      refine ⟨cl u, s', t', at1 U u (at1 (U u) (cl u) v), at1 cl u (cl u + 1), preX _ ?_, preM _ ?_, by omega, ⟨⟨hnc, hnl, hnt4⟩, ⟨s9, s10, s11⟩, ⟨t12, t16, t18⟩, hV, hT, fun a ha => ?_⟩, ⟨fun a ha => uI_ne ha, fun a ha => ?_, rfl⟩, ⟨fun a ha => uI_ne ha, fun a ha => ?_, rfl⟩, fun a => ?_, by rw [at1_s]; omega⟩
      · rw [if_pos (by decide), gd_in (by omega) (by decide), if_pos (by rw [n_gt (by decide) (by omega)]; exact q)]
        have e98 : qev en (d + 1) 98 [.ref 11, .int (nI u), .long (Int64.ofNat v)] s = some (some (.int (nI (cl u))), s') := by
          refine le_X5_addLocal en _ _ _ _ _ _ ?_
          have e11 : lc 11 = 5 := rfl
          rw [gd_true e11, gd_in (by omega) (by decide), e6, n_cl (show u < 2 ^ 31 by omega), show s.1 (11 + 3) u = nI (cl u) from l1, show nI (u * 6) + nI (cl u) = nI (u * 6 + cl u) from nI_add _ _, gd_in (by omega) (by decide), n_cl (by omega), nm_eq, show (uJ s (11 + 2) (u * 6 + cl u) (Int64.ofNat v)).1 (11 + 3) u = nI (cl u) from l1, show nI (cl u) + (1 : Int32) = nI (cl u + 1) from n_ar, nm_eq]
          show some (some (Value.int ((uI (uJ s 13 (u * 6 + cl u) (Int64.ofNat v)) 14 u (nI (cl u + 1))).1 14 u - (1 : Int32))), s') = _
          rw [rdU, if_pos ⟨rfl, rfl⟩, show nI (cl u + 1) - (1 : Int32) = nI (cl u) from n_sr (by omega)]
        rw [e98, bI_some]
      · rw [if_neg (not_not_intro rfl), if_neg (by rw [n_le (by decide) (by omega)]; omega)]
        refine le_X12_takeLocal_39 en _ _ _ _ _ _ ?_
        rw [m_needT, bV_some, m_goodL m7, bI_some, if_neg (by decide), gd_in (by omega) (by decide), n_cl (by omega), l2, nm_eq, n_ml, show nI ((6 : Nat) * u) + nI (cl u) = nI (6 * u + cl u) from nI_add _ _, gd_in (by omega) (by decide), n_cl (by omega), mw, nm_eq, show (uJ t 160 (6 * u + cl u) (Int64.ofNat (w8 8 v))).1 159 u = nI (cl u) from l2, show nI (cl u) + (1 : Int32) = nI (cl u + 1) from n_ar, nm_eq]
      · obtain ⟨g1, g2, g3, g4⟩ := hL a ha
        by_cases qa : a = u
        · subst qa
          rw [at1_s]
          refine ⟨by show (uI _ 14 a _).1 14 a = _; rw [rdU, if_pos ⟨rfl, rfl⟩], ⟨fun _ => by show (uI _ 159 a _).1 159 a = _; rw [rdU, if_pos ⟨rfl, rfl⟩], fun z => absurd hnt (by omega)⟩, by omega, fun j hj => ?_⟩
          rw [at1_s]
          show (uJ s 13 (a * 6 + cl a) (Int64.ofNat v)).2.1 13 (a * 6 + j) = _ ∧ (uJ t 160 (6 * a + cl a) (Int64.ofNat (w8 8 v))).2.1 160 (6 * a + j) = _ ∧ _
          rw [sJ, tJ]
          by_cases qj : j = cl a
          · rw [qj, if_pos ⟨rfl, rfl⟩, if_pos ⟨rfl, rfl⟩, at1_s]; exact ⟨rfl, rfl, hv⟩
          · rw [if_neg (by omega), if_neg (by omega), at1_n qj]; exact g4 j (by omega)
        · rw [at1_n qa]
          refine ⟨by show (uI _ 14 u _).1 14 a = _; rw [rdU, if_neg (fun z => qa z.2)]; exact g1, ⟨fun y => by show (uI _ 159 u _).1 159 a = _; rw [rdU, if_neg (fun z => qa z.2)]; exact g2.1 y, g2.2⟩, g3, fun j hj => ?_⟩
          rw [at1_n qa]
          show (uJ s 13 (u * 6 + cl u) (Int64.ofNat v)).2.1 13 (a * 6 + j) = _ ∧ (uJ t 160 (6 * u + cl u) (Int64.ofNat (w8 8 v))).2.1 160 (6 * a + j) = _ ∧ _
          rw [sJ, tJ, if_neg (by omega), if_neg (by omega)]; exact g4 j hj
      · funext k
        show (uJ s 13 (u * 6 + cl u) (Int64.ofNat v)).2.1 a k = _
        rw [sJ, if_neg (fun z => ha z.1)]
      · funext k
        show (uJ t 160 (6 * u + cl u) (Int64.ofNat (w8 8 v))).2.1 a k = _
        rw [tJ, if_neg (fun z => ha z.1)]
      · by_cases qa : a = u
        · rw [qa, at1_s]; omega
        · rw [at1_n qa]; exact Nat.le_refl _
    · right
      obtain ⟨t', w1, w2, w3⟩ := m_needF (en := en) (d := d') (k := 4) m7 m4 ⟨by decide, by decide⟩
      refine ⟨t', preX _ ?_, preM _ ?_, w2, w3⟩
      · rw [if_pos (by decide), gd_in (by omega) (by decide), if_neg (by rw [n_gt (by decide) (by omega)]; exact q), x_blame, bV_some]
      · rw [if_neg (not_not_intro rfl), if_pos (by rw [n_le (by decide) (by omega)]; omega)]
        refine le_X12_takeLocal_39 en _ _ _ _ _ _ ?_
        have w1' : qev en (d' + 2) 245 [.ref 151, .int (0 : Int32), .int (4 : Int32)] t = some (none, t') := w1
        rw [w1', bV_some, m_goodD w2, bI_some, if_pos rfl]
  · left
    rw [h3] at preX preM
    refine ⟨j, s, t, U, cl, preX _ ?_, preM _ ?_, by omega, hn, ⟨fun _ _ => rfl, fun _ _ => rfl, rfl⟩, ⟨fun _ _ => rfl, fun _ _ => rfl, rfl⟩, fun _ => Nat.le_refl _, by omega⟩
    · rw [if_neg (by rw [n_gt (by decide) (by omega)]; omega)]
    · rw [if_pos (by rw [n_m1 (by omega)]; exact id)]
end LCR
