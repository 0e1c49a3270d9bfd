/-! SWITCHES, the model's side: the steps from a node. -/
/-- the tables of steps that the count reads -/
abbrev mwE (P : Nat → fI) (w nt : Nat) (X : xT) (s : qS) : Prop := (∀ e, e < xM X → s.1 219 e = nI (xE X e).1 ∧ s.1 220 e = nI (xE X e).2) ∧ (∀ i, i < xN X + 1 → s.1 218 i = nI (xA X i)) ∧ ∀ i, i < xN X → s.1 215 i = rdM P w (xS X i) nt nt ∧ s.1 216 i = bt (endC P w (xS X i) nt) ∧ s.1 217 i = if endC P w (xS X i) nt = true then nI (outN P w nt (xS X) i) else -2
section MW2
variable {en : pN} {d w nc nl nt n D D' v f m b t e k l oN : Nat} {P : Nat → fI} {s s' s'' τ : qS} {X : xT} {T T' Q Q' G G' : Nat → Nat} {x : Option Nat} {N : fI}
theorem mwE.fr (h : mwE P w nt X s) (g : mwF s s') : mwE P w nt X s' := ⟨fun e he => by rw [g.1 219 (by decide) (by decide) (by decide), g.1 220 (by decide) (by decide) (by decide)]; exact h.1 e he, fun i hi => by rw [g.1 218 (by decide) (by decide) (by decide)]; exact h.2.1 i hi, fun i hi => by rw [g.1 215 (by decide) (by decide) (by decide), g.1 216 (by decide) (by decide) (by decide), g.1 217 (by decide) (by decide) (by decide)]; exact h.2.2 i hi⟩
theorem rdT_any (hc : chs P w N t nt ≤ 9) : (rdT P w N nt t).any (fun a => decide (a / 10 = l)) = (decide (0 < chs P w N t nt ∨ ¬ N (56 + t) = 0) && decide (l = t)) := by
  by_cases q : l = t
  · subst q
    rw [decide_eq_true (rfl : l = l), Bool.and_true]
    by_cases c : 0 < chs P w N l nt ∨ ¬ N (56 + l) = 0
    · rw [decide_eq_true c]
      refine List.any_eq_true.mpr ?_
      unfold rdT
      by_cases c1 : 0 < chs P w N l nt
      · exact ⟨10 * l + 0, List.mem_append_left _ (List.mem_map.mpr ⟨0, List.mem_range.mpr c1, rfl⟩), decide_eq_true (by omega)⟩
      · have c2 := c.resolve_left c1
        refine ⟨10 * l + 9, List.mem_append_right _ ?_, decide_eq_true (by omega)⟩
        rw [if_neg c2]
        exact List.mem_singleton.mpr rfl
    · rw [decide_eq_false c]
      have c1 : chs P w N l nt = 0 := by
        have : ¬ 0 < chs P w N l nt := fun z => c (Or.inl z)
        omega
      have c2 : N (56 + l) = 0 := Classical.not_not.mp (fun z => c (Or.inr z))
      unfold rdT
      rw [c1, if_pos c2]
      rfl
  · rw [decide_eq_false q, Bool.and_false]
    refine List.any_eq_false.mpr fun a ha => ?_
    have : a / 10 = t := by
      unfold rdT at ha
      rcases List.mem_append.mp ha with h | h
      · obtain ⟨k, hk, rfl⟩ := List.mem_map.mp h
        have := List.mem_range.mp hk
        omega
      · by_cases c2 : N (56 + t) = 0
        · rw [if_pos c2] at h; exact absurd h List.not_mem_nil
        · rw [if_neg c2] at h
          have := List.mem_singleton.mp h
          omega
    rw [this]
    exact fun z => q (of_decide_eq_true z).symm
/-- threads that are ready, as bits -/
theorem rdM_bit (hP : PV P nc nl nt n) (hS : SV P w nc nl nt n N) (hl : l < 32) : ∀ t, t ≤ nt → (rdM P w N nt t).toBitVec.getLsbD l = (rdl P w N nt t).any (fun a => decide (a / 10 = l)) := by
  have ht4 := hP.2.2.1.2
  intro t
  induction t with
  | zero =>
    intro _
    show (0 : Int32).toBitVec.getLsbD l = false
    rw [show (0 : Int32) = nI 0 from rfl, nI_bit (by decide), Nat.zero_testBit]
  | succ t ih =>
    intro ht
    have ih := ih (by omega)
    have hc := ch_le hP hS (show t < nt by omega)
    have e : rdl P w N nt (t + 1) = rdl P w N nt t ++ rdT P w N nt t := rfl
    rw [e, List.any_append, ← ih, rdT_any hc]
    show (rdM P w N nt t ||| (if 0 < chs P w N t nt ∨ ¬ N (56 + t) = 0 then (1 : Int32) <<< (nI t &&& 31) else 0)).toBitVec.getLsbD l = _
    by_cases c : 0 < chs P w N t nt ∨ ¬ N (56 + t) = 0
    · rw [if_pos c, orb (by omega) hl, decide_eq_true c, Bool.true_and]
    · rw [if_neg c, Int32.or_zero, decide_eq_false c, Bool.false_and, Bool.or_false]
theorem msk19 {z : Nat} (h : z < 524288) : nI z &&& (524287 : Int32) = nI z := by
  have := nI_and (p := z) (k := 19) (by omega) (by decide)
  rw [show nI (2 ^ 19 - 1) = (524287 : Int32) from rfl, Nat.mod_eq_of_lt (by omega)] at this
  exact this
theorem m_edges (hP : PV P nc nl nt n) (hX : XV P w nc nl nt n X) (hJ : XJ X (xN X + 1)) (hv : v < 5 * xN X) (hv4 : v % 5 = 4 → v = 4) :
    ∀ (c e : Nat) (s : qS) (T Q : Nat → Nat) (f b : Nat), e + c = xA X (v / 5 + 1) → xA X (v / 5) ≤ e → mwE P w nt X s → mwP X oN s T Q G f b → mwI P w nt X oN (some v) D T Q G f m b → (T v = D ∨ clV P w nt X T v) → (∀ e', xA X (v / 5) ≤ e' → e' < e → T (5 * (xE X e').1 + (xE X e').2 / 10) ≤ T v + cs5 P w nt X (v / 5) (v % 5) ((xE X e').2 / 10)) →
    ∃ (s' : qS) (T' Q' : Nat → Nat) (f' b' : Nat), mwF s s' ∧ mwP X oN s' T' Q' G f' b' ∧ mwI P w nt X oN (some v) D T' Q' G f' m b' ∧ clV P w nt X T' v ∧ T' v = T v ∧ mwM X D T' f' b' ≤ mwM X D T f b ∧ ∀ r, L_X12_layWays_90 en d (nI f') (nI b') s' = some r → L_X12_layWays_178 en d (nI f) (nI b) (nI v) (nI (v / 5)) (nI (v % 5)) (nI e) s = some r := by
  have hlim := @lim_le w
  have hxN := hX.1
  have hxM := hX.2.2.2.1
  have hk : v / 5 < xN X := by omega
  have hJm := hJ.2.1 (v / 5 + 1) (by omega)
  intro c
  induction c with
  | zero =>
    intro e s T Q f b he hke hE hP' hI hT hr
    refine ⟨s, T, Q, f, b, mwF.rf, hP', hI, fun e' a1 a2 => hr e' a1 (by omega), rfl, Nat.le_refl _, fun r hh => le_X12_layWays_178 en _ _ _ _ _ _ _ _ _ ?_⟩
    rw [show nI (v / 5) + (1 : Int32) = nI (v / 5 + 1) from n_ar, gd_true (n_in (by omega) (by decide)), n_cl (by omega), hE.2.1 (v / 5 + 1) (by omega), if_pos (by rw [n_LE (by omega) (by omega)]; omega)]
    exact hh
  | succ c ih =>
    intro e s T Q f b he hke hE hP' hI hT hr
    have hD := mw_D ⟨hxN.1, by omega⟩ hI
    obtain ⟨eN, e40⟩ := hX.2.2.2.2.1 e (by omega)
    obtain ⟨e219, e220⟩ := hE.1 e (by omega)
    have hu : 5 * (xE X e).1 + (xE X e).2 / 10 < 5 * xN X := by omega
    have hu4 : ¬ (5 * (xE X e).1 + (xE X e).2 / 10) % 5 = 4 := by omega
    have hfm := hI.2.2.1.1
    have hb' := hI.2.2.2.2.2.2.1
    -- the cost
    have hc1 : cs5 P w nt X (v / 5) (v % 5) ((xE X e).2 / 10) ≤ 1 := by unfold cs5 cstS; split; omega; split <;> omega
    have tov : ∀ r, L_X12_layWays_238 en d (nI f) (nI b) (nI v) (nI (v / 5)) (nI (v % 5)) (nI e) (nI ((xE X e).2 / 10)) (nI (cs5 P w nt X (v / 5) (v % 5) ((xE X e).2 / 10))) s = some r → L_X12_layWays_178 en d (nI f) (nI b) (nI v) (nI (v / 5)) (nI (v % 5)) (nI e) s = some r := fun r hh => by
      refine le_X12_layWays_178 en _ _ _ _ _ _ _ _ _ ?_
      rw [show nI (v / 5) + (1 : Int32) = nI (v / 5 + 1) from n_ar, gd_true (n_in (by omega) (by decide)), n_cl (by omega), hE.2.1 (v / 5 + 1) (by omega), if_neg (by rw [n_LE (by omega) (by omega)]; omega), gd_true (n_in (by omega) (by decide)), n_cl (by omega), e220, n_d10 (by omega), nm_eq]
      by_cases q4 : v % 5 = 4
      · have ec : cs5 P w nt X (v / 5) (v % 5) ((xE X e).2 / 10) = 0 := if_pos q4
        rw [ec] at hh
        rw [if_pos (by rw [q4]; rfl)]
        exact hh
      have ec : cs5 P w nt X (v / 5) (v % 5) ((xE X e).2 / 10) = cstS P w nt X (v / 5) (v % 5) ((xE X e).2 / 10) := if_neg q4
      rw [ec] at hh
      rw [if_neg (by rw [show (4 : Int32) = nI 4 from rfl, n_EQ (by omega) (by omega)]; exact q4)]
      by_cases q5 : v % 5 = (xE X e).2 / 10
      · have ec2 : cstS P w nt X (v / 5) (v % 5) ((xE X e).2 / 10) = 0 := if_neg (fun z => z.1 q5)
        rw [ec2] at hh
        rw [if_pos (by rw [q5])]
        exact hh
      rw [if_neg (by rw [n_EQ (by omega) (by omega)]; exact q5), gd_true (n_in (by omega) (by decide)), n_cl (by omega), (hE.2.2 (v / 5) hk).1, bitI (by omega), rdM_bit hP (hX.2.1 (v / 5) hk) (by omega) nt (Nat.le_refl _)]
      by_cases q6 : (rdl P w (xS X (v / 5)) nt nt).any (fun a => decide (a / 10 = v % 5)) = true
      · have ec2 : cstS P w nt X (v / 5) (v % 5) ((xE X e).2 / 10) = 1 := if_pos ⟨q5, q6⟩
        rw [ec2] at hh
        rw [if_pos q6, if_neg (not_not_intro rfl)]
        exact hh
      · have ec2 : cstS P w nt X (v / 5) (v % 5) ((xE X e).2 / 10) = 0 := if_neg (fun z => q6 z.2)
        rw [ec2] at hh
        rw [if_neg q6, if_pos (by decide)]
        exact hh
    have hsU : T v = D → ∀ U, clT P w nt X U → (∀ k, k < xN X → ∀ l, l < 4 → U k l ≤ 100000) → U ((5 * (xE X e).1 + (xE X e).2 / 10) / 5) ((5 * (xE X e).1 + (xE X e).2 / 10) % 5) ≤ D + cs5 P w nt X (v / 5) (v % 5) ((xE X e).2 / 10) := fun hTD U hU hb => by
      rw [show (5 * (xE X e).1 + (xE X e).2 / 10) / 5 = (xE X e).1 by omega, show (5 * (xE X e).1 + (xE X e).2 / 10) % 5 = (xE X e).2 / 10 by omega]
      by_cases q4 : v % 5 = 4
      · have := hv4 q4
        subst this
        have := hU.1 e (by
          have : (4 : Nat) / 5 = 0 := rfl
          rw [this] at hke; exact hke) (by
          have : (4 : Nat) / 5 + 1 = 1 := rfl
          rw [this] at he; omega)
        omega
      · have h1 := hU.2 (v / 5) hk (v % 5) (by omega) e hke (by omega)
        have h2 := hI.2.1 U hU hb (v / 5) hk (v % 5) (by omega)
        rw [show 5 * (v / 5) + v % 5 = v by omega, hTD] at h2
        have ec : cs5 P w nt X (v / 5) (v % 5) ((xE X e).2 / 10) = cstS P w nt X (v / 5) (v % 5) ((xE X e).2 / 10) := if_neg q4
        rw [ec]
        omega
    generalize hcc : cs5 P w nt X (v / 5) (v % 5) ((xE X e).2 / 10) = cc at hc1 tov hsU
    generalize hut : 5 * (xE X e).1 + (xE X e).2 / 10 = u at hu hu4 hsU
    have e238 : ∀ r, (if nI (T u) ≤ nI (T v + cc) then L_X12_layWays_178 en d (nI f) (nI b) (nI v) (nI (v / 5)) (nI (v % 5)) (nI (e + 1)) s else nm (uI s 227 u (nI (T v + cc))) (fun s6 => if ¬ nI cc = (0 : Int32) then gd (p_inB (nI b) 524288 = true) (nm (uI s6 228 b (nI u)) (fun s9 => nm ((nI b + (1 : Int32)) &&& (524287 : Int32)) (fun z10 => L_X12_layWays_178 en d (nI f) z10 (nI v) (nI (v / 5)) (nI (v % 5)) (nI (e + 1)) s9))) else nm ((nI f - (1 : Int32)) &&& (524287 : Int32)) (fun z11 => gd (p_inB z11 524288 = true) (nm (uI s6 228 (z11.toNatClampNeg) (nI u)) (fun s13 => L_X12_layWays_178 en d z11 (nI b) (nI v) (nI (v / 5)) (nI (v % 5)) (nI (e + 1)) s13))))) = some r → L_X12_layWays_178 en d (nI f) (nI b) (nI v) (nI (v / 5)) (nI (v % 5)) (nI e) s = some r := fun r hh => by
      refine tov r (le_X12_layWays_238 en _ _ _ _ _ _ _ _ _ _ _ ?_)
      rw [gd_true (n_in (by omega) (by decide)), n_cl (by omega), e219, n_ml, nI_add, nm_eq, show (5 : Nat) * (xE X e).1 + (xE X e).2 / 10 = u from hut, gd_true (n_in (by omega) (by decide)), gd_true (n_in (by omega) (by decide)), n_cl (by omega), hP'.1 u hu, n_cl (by omega), hP'.1 v hv, nI_add, show nI e + (1 : Int32) = nI (e + 1) from n_ar, n_cl (show b < 2 ^ 31 by omega)]
      exact hh
    have hTu : T u ≤ 100000 := by rcases hI.1 u hu with z | z <;> omega
    have hTvv : T v ≤ 100000 := by rcases hI.1 v hv with z | z <;> omega
    by_cases q : T u ≤ T v + cc
    · obtain ⟨s', T', Q', f', b', r1, r2, r3, r4, r5, r6, r7⟩ := ih (e + 1) s T Q f b (by omega) (by omega) hE hP' hI hT (fun e' a1 a2 => by
        by_cases z : e' = e
        · rw [z, hut, hcc]; exact q
        · exact hr e' a1 (by omega))
      refine ⟨s', T', Q', f', b', r1, r2, r3, r4, r5, r6, fun r hh => e238 r ?_⟩
      rw [if_pos (by rw [n_LE (by omega) (by omega)]; exact q)]
      exact r7 r hh
    -- fresh
    have hTD : T v = D := by
      rcases hT with z | z
      · exact z
      · have := z e hke (by omega)
        rw [hut, hcc] at this
        exact absurd this q
    have huv : u ≠ v := fun z => q (by rw [z]; omega)
    obtain ⟨p0, p1⟩ := mw_push ⟨hxN.1, by omega⟩ hI hu hu4 hc1 (by rw [← hTD]; exact q) (fun y hy => by cases hy; exact Ne.symm huv) (hsU hTD)
    have e227 : ∀ x j, j < 5 * xN X → upd (s.1 227) u (nI x) j = nI (at1 T u x j) := fun x j hj => by
      by_cases z : j = u
      · rw [z, pk_us, at1_s]
      · rw [pk_un z, at1_n z]; exact hP'.1 j hj
    have c1 := cqL_le (T := T) (b := D) (5 * xN X)
    have c2 := cqL_le (T := T) (b := D + 1) (5 * xN X)
    have hrest : ∀ x, x ≤ T v + cc → ∀ e', xA X (v / 5) ≤ e' → e' < e + 1 → at1 T u x (5 * (xE X e').1 + (xE X e').2 / 10) ≤ at1 T u x v + cs5 P w nt X (v / 5) (v % 5) ((xE X e').2 / 10) := fun x hx e' a1 a2 => by
      rw [at1_n (Ne.symm huv)]
      by_cases z : e' = e
      · rw [z, hut, hcc, at1_s]; exact hx
      · have h1 := hr e' a1 (by omega)
        by_cases y : 5 * (xE X e').1 + (xE X e').2 / 10 = u
        · rw [y] at h1 ⊢
          rw [at1_s]
          omega
        · rw [at1_n y]; exact h1
    rcases Nat.lt_or_ge cc 1 with z0 | z1
    · -- at the front
      have z0 : cc = 0 := by omega
      subst z0
      obtain ⟨hf1, hI1⟩ := p0 rfl
      have hup := cqL_up (T := T) (b := D) (x := D) (5 * xN X) hu (by omega) (by omega)
      have hdn := cqL_dn (T := T) (v := u) (x := D) (b := D + 1) (n := 5 * xN X) (by omega)
      let s1 : qS := uI (uI s 227 u (nI (T v + 0))) 228 (f - 1) (nI u)
      have f1 : mwF s s1 := ⟨fun c a1 a2 a3 => by show (uI (uI s 227 u _) 228 _ _).1 c = _; rw [uI_ne a2, uI_ne a1], rfl⟩
      have P1 : mwP X oN s1 (at1 T u D) (at1 Q (f - 1) u) G (f - 1) b := ⟨fun j hj => by
        show (uI (uI s 227 u _) 228 _ _).1 227 j = _
        rw [uI_ne (by decide), uI_row, ← hTD]; exact e227 _ j hj, fun i a1 a2 => by
        show (uI (uI s 227 u _) 228 _ _).1 228 i = _
        rw [uI_row]
        by_cases z : i = f - 1
        · rw [z, pk_us, at1_s]
        · rw [pk_un z, at1_n z, uI_ne (by decide)]; exact hP'.2.1 i (by omega) a2, fun o ho => by
        show (uI (uI s 227 u _) 228 _ _).1 229 o = _
        rw [uI_ne (by decide), uI_ne (by decide)]; exact hP'.2.2 o ho⟩
      obtain ⟨s', T', Q', f', b', r1, r2, r3, r4, r5, r6, r7⟩ := ih (e + 1) s1 (at1 T u D) (at1 Q (f - 1) u) (f - 1) b (by omega) (by omega) (hE.fr f1) P1 hI1 (Or.inl (by rw [at1_n (Ne.symm huv)]; exact hTD)) (hrest D (by omega))
      refine ⟨s', T', Q', f', b', f1.tr r1, r2, r3, r4, by rw [r5, at1_n (Ne.symm huv)], Nat.le_trans r6 ?_, fun r hh => e238 r ?_⟩
      · unfold mwM
        have c3 := cqL_le (T := at1 T u D) (b := D) (5 * xN X)
        have c4 := cqL_le (T := at1 T u D) (b := D + 1) (5 * xN X)
        omega
      · rw [if_neg (by rw [n_LE (by omega) (by omega)]; exact q), nm_eq, if_neg (not_not_intro (show nI 0 = (0 : Int32) from rfl)), n_sr (by show 1 ≤ f; omega), show f - (OfNat.ofNat 1 : Nat) = f - 1 from rfl, msk19 (by omega), nm_eq, gd_true (n_in (by omega) (by decide)), nm_eq, n_cl (by omega)]
        exact r7 r hh
    · -- behind the queue
      have z1 : cc = 1 := by omega
      subst z1
      have hI1 := p1 rfl
      have hTu' : T u = 100000 := by rcases hI.1 u hu with z | z <;> omega
      have hup := cqL_up (T := T) (b := D + 1) (x := D + 1) (5 * xN X) hu (by omega) (by omega)
      have hdn := cqL_dn (T := T) (v := u) (x := D + 1) (b := D) (n := 5 * xN X) (by omega)
      let s1 : qS := uI (uI s 227 u (nI (T v + 1))) 228 b (nI u)
      have f1 : mwF s s1 := ⟨fun c a1 a2 a3 => by show (uI (uI s 227 u _) 228 _ _).1 c = _; rw [uI_ne a2, uI_ne a1], rfl⟩
      have P1 : mwP X oN s1 (at1 T u (D + 1)) (at1 Q b u) G f (b + 1) := ⟨fun j hj => by
        show (uI (uI s 227 u _) 228 _ _).1 227 j = _
        rw [uI_ne (by decide), uI_row, ← hTD]; exact e227 _ j hj, fun i a1 a2 => by
        show (uI (uI s 227 u _) 228 _ _).1 228 i = _
        rw [uI_row]
        by_cases z : i = b
        · rw [z, pk_us, at1_s]
        · rw [pk_un z, at1_n z, uI_ne (by decide)]; exact hP'.2.1 i a1 (by omega), fun o ho => by
        show (uI (uI s 227 u _) 228 _ _).1 229 o = _
        rw [uI_ne (by decide), uI_ne (by decide)]; exact hP'.2.2 o ho⟩
      obtain ⟨s', T', Q', f', b', r1, r2, r3, r4, r5, r6, r7⟩ := ih (e + 1) s1 (at1 T u (D + 1)) (at1 Q b u) f (b + 1) (by omega) (by omega) (hE.fr f1) P1 hI1 (Or.inl (by rw [at1_n (Ne.symm huv)]; exact hTD)) (hrest (D + 1) (by omega))
      refine ⟨s', T', Q', f', b', f1.tr r1, r2, r3, r4, by rw [r5, at1_n (Ne.symm huv)], Nat.le_trans r6 ?_, fun r hh => e238 r ?_⟩
      · unfold mwM
        have c3 := cqL_le (T := at1 T u (D + 1)) (b := D) (5 * xN X)
        have c4 := cqL_le (T := at1 T u (D + 1)) (b := D + 1) (5 * xN X)
        omega
      · rw [if_neg (by rw [n_LE (by omega) (by omega)]; exact q), nm_eq, if_pos (show ¬ nI 1 = (0 : Int32) by decide), gd_true (n_in (by omega) (by decide)), nm_eq, show nI b + (1 : Int32) = nI (b + 1) from n_ar, msk19 (by omega), nm_eq]
        exact r7 r hh
end MW2
