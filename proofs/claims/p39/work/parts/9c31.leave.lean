/-! REWRITINGS: a line left out, on both sides. -/
section LEV
variable {en : pN} {d d' k i n N j r v u m nc nl nt key a : Nat} {th K : Nat → Nat} {bl : Nat → List Nat} {go go' : Nat → Bool} {s s' t t' : qS} {A C L' : List Nat} {z zM : Int32} {lo : Option Nat}
def lvX (s : qS) (lo : Option Nat) (key i : Nat) (z : Int32) : qS := uI (uI (ptX s lo key z) 53 i (-1)) 60 i 1
def lvM (t : qS) (lo : Option Nat) (key i : Nat) (z : Int32) : qS := uI (uI (ptM t lo key z) 171 (100 + i) (-2)) 175 (100 + i) 1
theorem lvX_nx : (lvX s lo key i z).1 53 a = if a = i then -1 else if lo = some a then z else s.1 53 a := by
  unfold lvX
  rw [uI_ne (by decide), rdU]
  by_cases q : a = i
  · rw [if_pos ⟨rfl, q⟩, if_pos q]
  · rw [if_neg (fun y => q y.2), if_neg q, ptX_nx]
theorem lvM_nx : (lvM t lo key i z).1 171 (100 + a) = if a = i then -2 else if lo = some a then z else t.1 171 (100 + a) := by
  unfold lvM
  rw [uI_ne (by decide), rdU]
  by_cases q : a = i
  · rw [if_pos ⟨rfl, by rw [q]⟩, if_pos q]
  · rw [if_neg (fun y => q (by have := y.2; omega)), if_neg q, ptM_nx]
theorem lvX_hd : hdK ((lvX s lo key i z).1 41) ((lvX s lo key i z).1 56) ((lvX s lo key i z).1 57) k = if lo = none ∧ k = key then z else hdK (s.1 41) (s.1 56) (s.1 57) k := by
  unfold lvX
  rw [uI_ne (show 41 ≠ 60 by decide), uI_ne (show 56 ≠ 60 by decide), uI_ne (show 57 ≠ 60 by decide), uI_ne (show 41 ≠ 53 by decide), uI_ne (show 56 ≠ 53 by decide), uI_ne (show 57 ≠ 53 by decide)]
  exact ptX_hd
theorem lvM_hd : hdK (fun j => (lvM t lo key i z).1 181 (4 + j)) (fun j => (lvM t lo key i z).1 172 (100 + j)) (fun j => (lvM t lo key i z).1 173 (100 + j)) k = if lo = none ∧ k = key then z else hdK (fun j => t.1 181 (4 + j)) (fun j => t.1 172 (100 + j)) (fun j => t.1 173 (100 + j)) k := by
  unfold lvM
  rw [uI_ne (show 181 ≠ 175 by decide), uI_ne (show 172 ≠ 175 by decide), uI_ne (show 173 ≠ 175 by decide), uI_ne (show 181 ≠ 171 by decide), uI_ne (show 172 ≠ 171 by decide), uI_ne (show 173 ≠ 171 by decide)]
  exact ptM_hd
theorem lvX_rw : rwX s (lvX s lo key i z) := ⟨fun c c1 c2 c3 c4 c5 => by
  unfold lvX
  rw [uI_ne c5, uI_ne c2]
  exact ptX_o c1 c2 c3 c4, rfl⟩
theorem lvM_rw (hi : i < 100) (hlo : ∀ l, lo = some l → l < 100) (hk : key < 4 + 2 * 100) : rwM t (lvM t lo key i z) := ⟨fun c c1 c2 c3 c4 c5 => by
  unfold lvM
  rw [uI_ne c4, uI_ne c1]
  exact ptM_o c1 c2 c3 c5, fun c hc a ha => by
  unfold lvM
  rw [rdU, if_neg (by omega), rdU, if_neg (by omega)]
  by_cases q : c = 175
  · rw [q, ptM_o (by decide) (by decide) (by decide) (by decide)]
  · exact ptM_lo hlo hk (by omega) ha, fun a ha => by
  unfold lvM
  rw [uI_ne (by decide), uI_ne (by decide)]
  exact ptM_lo2 ha, ptM_2⟩
theorem lvX_60 : (lvX s lo key i z).1 60 a = if a = i then 1 else s.1 60 a := by
  unfold lvX
  rw [rdU]
  by_cases q : a = i
  · rw [if_pos ⟨rfl, q⟩, if_pos q]
  · rw [if_neg (fun y => q y.2), if_neg q, uI_ne (by decide), ptX_o (by decide) (by decide) (by decide) (by decide)]
theorem lvM_175 : (lvM t lo key i z).1 175 (100 + a) = if a = i then 1 else t.1 175 (100 + a) := by
  unfold lvM
  rw [rdU]
  by_cases q : a = i
  · rw [if_pos ⟨rfl, by rw [q]⟩, if_pos q]
  · rw [if_neg (fun y => q (by have := y.2; omega)), if_neg q, uI_ne (by decide), ptM_o (by decide) (by decide) (by decide) (by decide)]
theorem TG_leave (hG : TG s t nt N K th bl go) (hN : N ≤ 100) (hnt : nt ≤ 4) (hi : i < N) (hL : bl (K i) = A ++ i :: C) : TG (lvX s A.getLast? (K i) i (s.1 53 i)) (lvM t A.getLast? (K i) i (t.1 171 (100 + i))) nt N K th (at1 bl (K i) (A ++ C)) (at1 go i true) := by
  obtain ⟨h1, h2, h3, h4, h5, h6, h7⟩ := id hG
  have hnd := h4 (K i)
  have hlt : ∀ x, x ∈ bl (K i) → x < N := fun x hx => (h2 _ x hx).1
  have him : i ∈ bl (K i) := by rw [hL]; simp
  rw [hL] at hnd
  have nA := List.nodup_append.mp hnd
  have hiA : A.getLast? ≠ some i := fun z => nA.2.2 i (List.mem_of_getLast? z) i List.mem_cons_self rfl
  have hiA' : i ∉ A := fun z => nA.2.2 i z i List.mem_cons_self rfl
  have hiC : i ∉ C := (List.nodup_cons.mp nA.2.1).1
  have hAe : A.getLast? = none ↔ A = [] := List.getLast?_eq_none_iff
  have ky := TG_ky hG hi
  have hkey : K i < 4 + 2 * 100 := by rcases ky with y | y <;> have := (h5 i hi).1.1 <;> omega
  have hlA : ∀ l, A.getLast? = some l → l < 100 := fun l hl => by
    have := hlt l (by rw [hL]; exact List.mem_append_left _ (List.mem_of_getLast? hl))
    omega
  have sX : rwX s (lvX s A.getLast? (K i) i (s.1 53 i)) := lvX_rw
  have sM : rwM t (lvM t A.getLast? (K i) i (t.1 171 (100 + i))) := lvM_rw (by omega) hlA hkey
  refine TG_upd hG (fun k hk hne => ⟨fun a ha => ?_, ?_, ?_⟩) (fun hk => ?_) (fun x => ?_) ?_ (fun x h => ?_) (fun x hx h1 h2 => ?_) (fun c hc => sX.1 c (by omega) (by omega) (by omega) (by omega) (by omega)) (fun c hc => sM.1 c (by omega) (by omega) (by omega) (by omega) (by omega)) (fun x hx => ?_) (fun p _ h => by rw [sM.1 164 (by decide) (by decide) (by decide) (by decide) (by decide)]; exact h)
  · have hKa := (h2 k a ha).2.1
    have ha2 : a ≠ i := fun z => hne (by rw [← hKa, z])
    have ha3 : A.getLast? ≠ some a := fun z => hne (by
      rw [← hKa]
      exact (h2 (K i) a (by rw [hL]; exact List.mem_append_left _ (List.mem_of_getLast? z))).2.1)
    exact ⟨by rw [lvX_nx, if_neg ha2, if_neg ha3], by rw [lvM_nx, if_neg ha2, if_neg ha3]⟩
  · rw [lvX_hd, if_neg (fun y => hne y.2)]
  · rw [lvM_hd, if_neg (fun y => hne y.2)]
  · obtain ⟨b1, b2⟩ := h1 (K i) hk
    rw [hL] at b1 b2
    constructor
    · refine lkd_rem A _ _ b1 hnd (fun a a1 a3 => by rw [lvX_nx, if_neg a1, if_neg a3]) (fun l hl => ?_) ?_
      · rw [lvX_nx, if_neg (fun (y : l = i) => hiA (by rw [← y]; exact hl)), if_pos hl]
      · rw [lvX_hd]
        by_cases q : A = []
        · rw [if_pos ⟨hAe.mpr q, rfl⟩, if_pos q]
        · rw [if_neg (fun y => q (hAe.mp y.1)), if_neg q]
    · refine lkd_rem A _ _ b2 hnd (fun a a1 a3 => ?_) (fun l hl => ?_) ?_
      · show (lvM t _ _ _ _).1 171 (100 + a) = _
        rw [lvM_nx, if_neg a1, if_neg a3]
      · show (lvM t _ _ _ _).1 171 (100 + l) = _
        rw [lvM_nx, if_neg (fun (y : l = i) => hiA (by rw [← y]; exact hl)), if_pos hl]
      · rw [lvM_hd]
        by_cases q : A = []
        · rw [if_pos ⟨hAe.mpr q, rfl⟩, if_pos q]
        · rw [if_neg (fun y => q (hAe.mp y.1)), if_neg q]
  · rw [hL]
    simp only [List.mem_append, List.mem_cons]
    constructor
    · intro y
      have hx : x ∈ bl (K i) := by
        rw [hL]
        rcases y with y | y
        · exact List.mem_append_left _ y
        · exact List.mem_append_right _ (List.mem_cons_of_mem _ y)
      have hxi : x ≠ i := fun z => by
        rcases y with y | y
        · exact hiA' (z ▸ y)
        · exact hiC (z ▸ y)
      refine ⟨?_, by rw [at1_n hxi]; exact (h2 _ x hx).2.2⟩
      rcases y with y | y
      · exact Or.inl y
      · exact Or.inr (Or.inr y)
    · rintro ⟨y, g⟩
      have hxi : x ≠ i := fun z => by rw [z, at1_s] at g; cases g
      rcases y with y | y | y
      · exact Or.inl y
      · exact absurd y hxi
      · exact Or.inr y
  · have p1 : (A ++ i :: C).Perm (i :: (A ++ C)) := List.perm_middle
    exact (List.nodup_cons.mp (p1.nodup_iff.mp hnd)).2
  · by_cases q : x = i
    · rw [q, at1_s] at h; cases h
    · rw [at1_n q] at h; exact h
  · by_cases q : x = i
    · rw [q]
    · rw [at1_n q, h1] at h2; cases h2
  · obtain ⟨y1, y2, y3⟩ := h6 x hx
    rw [lvX_60, lvM_175, lvX_nx, lvM_nx]
    by_cases q : x = i
    · rw [if_pos q, if_pos q, if_pos q, if_pos q, q, at1_s]
      exact ⟨rfl, rfl, fun _ => ⟨rfl, rfl⟩⟩
    · rw [if_neg q, if_neg q, if_neg q, if_neg q, at1_n q]
      refine ⟨y1, y2, fun hgx => ?_⟩
      have hxA : A.getLast? ≠ some x := fun z => by
        have := (h2 (K i) x (by rw [hL]; exact List.mem_append_left _ (List.mem_of_getLast? z))).2.2
        rw [this] at hgx
        cases hgx
      rw [if_neg hxA, if_neg hxA]
      exact y3 hgx
/-- the class leaves a line out -/
theorem x_leaveG (hG : TG s t nt N K th bl go) (hN : N ≤ 100) (hnt : nt ≤ 4) (hi : i < N) (hg : go i = false) (hL : bl (K i) = A ++ i :: C) (h17 : s.1 43 i ≠ 17) (h18 : s.1 43 i ≠ 18) : qev en (d + 3) 108 [.ref 36, .int (nI i)] s = some (some (.int 1), lvX s A.getLast? (K i) i (s.1 53 i)) := by
  have e36 : lc 36 = 5 := rfl
  obtain ⟨h1, h2, h3, h4, h5, h6, h7⟩ := id hG
  have hlt : ∀ x, x ∈ bl (K i) → x < N := fun x hx => (h2 _ x hx).1
  have eA := x_ahead (en := en) (d := d + 1) hG hN hnt hi hL
  have f67 : ∀ s2 : qS, L_X5_leaveOut_67 en (d + 2) 36 (nI i) s2 = some (some (.int 1), uI s2 60 i 1) := fun s2 => by
    refine le_X5_leaveOut_67 en _ _ _ _ _ ?_
    rw [gd_true e36, gd_in (by omega) (by decide), n_cl (by omega), nm_eq]
  have f23 : ∀ s2 : qS, L_X5_unlink_23 en (d + 1) 36 (nI i) s2 = some (none, uI s2 53 i (-1)) := fun s2 => by
    refine le_X5_unlink_23 en _ _ _ _ _ ?_
    rw [gd_true e36, gd_in (by omega) (by decide), n_cl (by omega), nm_eq]
  have f52 : ∀ (z w : Int32) (s2 : qS), qev en (d + 2) 109 [.ref 36, .int (nI i), .int w, .int z] s = some (none, uI s2 53 i (-1)) → L_X5_leaveOut_52 en (d + 2) 36 (nI i) z w s = some (some (.int 1), uI (uI s2 53 i (-1)) 60 i 1) := fun z w s2 h => by
    refine le_X5_leaveOut_52 en _ _ _ _ _ _ _ ?_
    rw [gd_true e36, h, bV_some]
    exact f67 _
  have f109 : ∀ (z w : Int32), (if z < (0 : Int32) then gd (p_inB w 100 = true) (nm (uI s (36 + 17) (w.toNatClampNeg) (-1 : Int32)) (fun s3 => L_X5_unlink_23 en (d + 1) 36 (nI i) s3)) else bV (qev en (d + 1) 100 [.ref 36, .int w, .int z] s) (fun s5 => L_X5_unlink_23 en (d + 1) 36 (nI i) s5)) = some (none, uI (ptX s A.getLast? (K i) (s.1 53 i)) 53 i (-1)) → qev en (d + 2) 109 [.ref 36, .int (nI i), .int w, .int z] s = some (none, uI (ptX s A.getLast? (K i) (s.1 53 i)) 53 i (-1)) := fun z w h => by
    refine le_X5_unlink en _ _ _ _ _ _ _ ?_
    rw [gd_true e36]
    exact h
  refine le_X5_leaveOut en _ _ _ _ _ ?_
  rw [gd_true e36, gd_in (by omega) (by decide), n_cl (by omega), show s.1 (36 + 7) i = s.1 43 i from rfl, if_neg h17, if_pos h18, nm_eq, eA, bI_some, show s.1 (36 + 17) i = s.1 53 i from rfl]
  rcases TG_nx hG hi hL with ⟨hC, n1, n2⟩ | ⟨j, C', hC, n1, n2⟩
  · rw [if_neg (by rw [n1]; decide)]
    cases hq : A.getLast? with
    | some l =>
      have hl : l < N := hlt l (by rw [hL]; exact List.mem_append_left _ (List.mem_of_getLast? hq))
      have e : lstX A (-1) = nI l := by unfold lstX; rw [hq]
      rw [e, if_neg (by rw [n_gt (by decide) (by omega)]; omega)]
      have := f52 (s.1 53 i) (nI l) _ (f109 _ _ (by
        rw [if_pos (by rw [n1]; decide), gd_in (by omega) (by decide), n_cl (by omega), nm_eq, f23, hq, n1]
        rfl))
      rw [hq] at this
      exact this
    | none =>
      have hA : A = [] := List.getLast?_eq_none_iff.mp hq
      have e : lstX A (-1) = -1 := by unfold lstX; rw [hq]
      rw [e, if_pos (by decide)]
      have e54 : ∀ p : Nat, p < 100 → ∀ z : Nat, z = 13 ∨ z = 14 → L_X5_empty_54 en (d + 1) (nI p) 36 (nI z) s = some (none, uI s (43 + z) p (-1)) := fun p hp z hz => by
        refine le_X5_empty_54 en _ _ _ _ _ _ ?_
        rw [gd_true e36, gd_in (by omega) (by decide), gd_in (by omega) (by decide), n_cl (by omega), n_cl (by omega), nm_eq, show 36 + 7 + z = 43 + z by omega]
      have e110 : qev en (d + 2) 110 [.ref 36, .int (nI i)] s = some (none, ptX s none (K i) (-1)) := by
        refine le_X5_empty en _ _ _ _ _ ?_
        unfold ptX lkA
        dsimp only
        rw [gd_true e36, gd_in (by omega) (by decide), n_cl (by omega), nm_eq]
        obtain ⟨⟨g1, g2, -⟩, g3⟩ := h5 i hi
        rcases g3 with ⟨k1, k2, -⟩ | ⟨p, b, k1, k2, k3, k4, -, -, k5, -⟩
        · rw [show s.1 (36 + 18) i = -1 from k2, if_neg (by decide), show s.1 (36 + 8) i = nI (th i) from g2, gd_in (by omega) (by decide), n_cl (by omega), nm_eq, if_pos (by omega), k1]
        · rw [show s.1 (36 + 18) i = nI p from k4, if_pos (by rw [n_le (by decide) (by omega)]; omega), show s.1 (36 + 19) i = nI b from k5, if_neg (show ¬ K i < 4 by omega)]
          by_cases hb : b = 0
          · subst hb
            rw [if_neg (show ¬ ¬ nI 0 = (0 : Int32) from not_not_intro rfl), if_pos (show (K i - 4) % 2 = 0 by omega), show (K i - 4) / 2 = p by omega]
            exact e54 p (by omega) 13 (Or.inl rfl)
          · rw [if_pos (by rw [n_eq (by decide) (by omega)]; exact hb), if_neg (show ¬ (K i - 4) % 2 = 0 by omega), show (K i - 4) / 2 = p by omega]
            exact e54 p (by omega) 14 (Or.inr rfl)
      rw [e110, bV_some, f67, n1]
      have e53 : (ptX s none (K i) (-1)).1 53 i = -1 := by rw [ptX_nx, if_neg (by intro y; cases y)]; exact n1
      unfold lvX
      rw [uI_eq e53]
  · have hjm : j ∈ bl (K i) := by rw [hL, hC]; simp
    have hj : j < N := hlt j hjm
    have hKj : K j = K i := (h2 _ j hjm).2.1
    have xl := x_linkG (en := en) (d := d) (lo := A.getLast?) hN hnt hj (by
      obtain ⟨⟨g1, g2, -⟩, g3⟩ := h5 j hj
      refine ⟨⟨g1, g2⟩, ?_⟩
      rcases g3 with ⟨k1, k2, -⟩ | ⟨p, b, k1, k2, k3, k4, -, -, k5, -⟩
      · exact Or.inl ⟨k1, k2⟩
      · exact Or.inr ⟨p, b, k1, k2, k3, k4, k5⟩) (fun l hl => hlt l (by rw [hL]; exact List.mem_append_left _ (List.mem_of_getLast? hl)))
    rw [hKj] at xl
    rw [if_pos (by rw [n1, n_le (by decide) (by omega)]; omega)]
    exact f52 _ _ _ (f109 _ _ (by
      rw [if_neg (by rw [n1, n_gt (by decide) (by omega)]; omega), n1, show qev en (d + 1) 100 [.ref 36, .int (lstX A (-1)), .int (nI j)] s = _ from xl, bV_some, f23]))
end LEV

