/-! REWRITINGS, the class's own: lines exchanged. -/
section SWC
variable {en : pN} {d d' k i n N j r v u m nc nl nt key a : Nat} {th K : Nat → Nat} {bl : Nat → List Nat} {go go' : Nat → Bool} {s s' t t' : qS} {A C L' : List Nat} {z : Int32} {lo : Option Nat} {nn h : Int32}
theorem x_swapC (hG : TG s t nt N K th bl go) (hN : N ≤ 100) (hnt : nt ≤ 4) (hi : i < N) (hg : go i = false) : qev en (d + 2) 107 [.ref 36, .int (nI i)] s = some (some (.int 0), s) ∨ (∃ s' t' A j C', bl (K i) = A ++ i :: j :: C' ∧ qev en (d + 2) 107 [.ref 36, .int (nI i)] s = some (some (.int 1), s') ∧ rwX s s' ∧ TG s' t' nt N K th (at1 bl (K i) (A ++ j :: i :: C')) go) := by
  have e36 : lc 36 = 5 := rfl
  obtain ⟨A, C, hL⟩ := TG_at hG hi hg
  have eA := x_ahead (en := en) (d := d) hG hN hnt hi hL
  rcases TG_nx hG hi hL with ⟨-, n1, n2⟩ | ⟨j, C', hC, n1, n2⟩
  · refine Or.inl (le_X5_swap en _ _ _ _ _ ?_)
    rw [gd_true e36, gd_in (by omega) (by decide), n_cl (by omega), show s.1 (36 + 17) i = -1 from n1, nm_eq, if_neg (by decide)]
  · right
    subst hC
    obtain ⟨h1, h2, h3, h4, h5, h6, h7⟩ := id hG
    have hnd := h4 (K i)
    have hlt : ∀ x, x ∈ bl (K i) → x < N := fun x hx => (h2 _ x hx).1
    have hjm : j ∈ bl (K i) := by rw [hL]; simp
    have hj : j < N := hlt j hjm
    have hKj : K j = K i := (h2 _ j hjm).2.1
    rw [hL] at hnd
    have nA := List.nodup_append.mp hnd
    have hij : i ≠ j := fun z => (List.nodup_cons.mp nA.2.1).1 (z ▸ List.mem_cons_self)
    have hiA : A.getLast? ≠ some i := fun z => nA.2.2 i (List.mem_of_getLast? z) i List.mem_cons_self rfl
    have hjA : A.getLast? ≠ some j := fun z => nA.2.2 j (List.mem_of_getLast? z) j (List.mem_cons_of_mem _ List.mem_cons_self) rfl
    have hlA : ∀ l, A.getLast? = some l → l < N := fun l hl => hlt l (by rw [hL]; exact List.mem_append_left _ (List.mem_of_getLast? hl))
    have hAe : A.getLast? = none ↔ A = [] := List.getLast?_eq_none_iff
    have ky := TG_ky hG hi
    have hkey : K i < 4 + 2 * 100 := by rcases ky with y | y <;> omega
    have xl := x_linkG (en := en) (d := d) (lo := A.getLast?) hN hnt hj (by
      obtain ⟨⟨g1, g2, -⟩, g3⟩ := h5 j hj
      refine ⟨⟨g1, g2⟩, ?_⟩
      rcases g3 with ⟨k1, k2, -⟩ | ⟨p, b, k1, k2, k3, k4, -, -, k5, -⟩
      · exact Or.inl ⟨k1, k2⟩
      · exact Or.inr ⟨p, b, k1, k2, k3, k4, k5⟩) hlA
    rw [hKj] at xl
    let s1 : qS := ptX s A.getLast? (K i) (nI j)
    let t1 : qS := ptM t A.getLast? (K i) (nI j)
    have s1j : s1.1 53 j = s.1 53 j := by show (ptX s _ _ _).1 53 j = _; rw [ptX_nx, if_neg hjA]
    let s3 : qS := uI (uI s1 53 i (s1.1 53 j)) 53 j (nI i)
    let t3 : qS := uI (uI t1 171 (100 + j) (nI i)) 171 (100 + i) (t.1 171 (100 + j))
    have f53 : ∀ a, s3.1 53 a = if a = j then nI i else if a = i then s.1 53 j else if A.getLast? = some a then nI j else s.1 53 a := fun a => by
      show (uI (uI s1 53 i (s1.1 53 j)) 53 j (nI i)).1 53 a = _
      rw [rdU, rdU, s1j]
      by_cases q : a = j
      · rw [if_pos ⟨rfl, q⟩, if_pos q]
      rw [if_neg (fun y => q y.2), if_neg q]
      by_cases q2 : a = i
      · rw [if_pos ⟨rfl, q2⟩, if_pos q2]
      rw [if_neg (fun y => q2 y.2), if_neg q2]
      exact ptX_nx
    have f171 : ∀ a, t3.1 171 (100 + a) = if a = j then nI i else if a = i then t.1 171 (100 + j) else if A.getLast? = some a then nI j else t.1 171 (100 + a) := fun a => by
      show (uI (uI t1 171 (100 + j) (nI i)) 171 (100 + i) (t.1 171 (100 + j))).1 171 (100 + a) = _
      rw [rdU, rdU]
      by_cases q2 : a = i
      · rw [if_pos ⟨rfl, by rw [q2]⟩, if_neg (fun y => hij (q2.symm.trans y)), if_pos q2]
      rw [if_neg (fun y => q2 (by have := y.2; omega)), if_neg q2]
      by_cases q : a = j
      · rw [if_pos ⟨rfl, by rw [q]⟩, if_pos q]
      rw [if_neg (fun y => q (by have := y.2; omega)), if_neg q]
      exact ptM_nx
    have hdX : ∀ k, hdK (s3.1 41) (s3.1 56) (s3.1 57) k = if A.getLast? = none ∧ k = K i then nI j else hdK (s.1 41) (s.1 56) (s.1 57) k := fun k => by
      have o : ∀ c, c ≠ 53 → s3.1 c = s1.1 c := fun c hc => by show (uI (uI s1 53 i (s1.1 53 j)) 53 j (nI i)).1 c = _; rw [uI_ne hc, uI_ne hc]
      rw [o 41 (by decide), o 56 (by decide), o 57 (by decide)]
      exact ptX_hd
    have hdM : ∀ k, hdK (fun j => t3.1 181 (4 + j)) (fun j => t3.1 172 (100 + j)) (fun j => t3.1 173 (100 + j)) k = if A.getLast? = none ∧ k = K i then nI j else hdK (fun j => t.1 181 (4 + j)) (fun j => t.1 172 (100 + j)) (fun j => t.1 173 (100 + j)) k := fun k => by
      have o : ∀ c, c ≠ 171 → t3.1 c = t1.1 c := fun c hc => by show (uI (uI t1 171 (100 + j) (nI i)) 171 (100 + i) _).1 c = _; rw [uI_ne hc, uI_ne hc]
      rw [o 181 (by decide), o 172 (by decide), o 173 (by decide)]
      exact ptM_hd
    have sX : rwX s s3 := ⟨fun c c1 c2 c3 c4 c5 => by
      show (uI (uI s1 53 i (s1.1 53 j)) 53 j (nI i)).1 c = _
      rw [uI_ne c2, uI_ne c2]
      exact ptX_o c1 c2 c3 c4, rfl⟩
    have sM : rwM t t3 := ⟨fun c c1 c2 c3 c4 c5 => by
      show (uI (uI t1 171 (100 + j) (nI i)) 171 (100 + i) _).1 c = _
      rw [uI_ne c1, uI_ne c1]
      exact ptM_o c1 c2 c3 c5, fun c hc a ha => by
      show (uI (uI t1 171 (100 + j) (nI i)) 171 (100 + i) _).1 c a = _
      rw [rdU, if_neg (by omega), rdU, if_neg (by omega)]
      by_cases q : c = 175
      · rw [q]; show (ptM t _ _ _).1 175 a = _; rw [ptM_o (by decide) (by decide) (by decide) (by decide)]
      · exact ptM_lo (fun l hl => by have := hlA l hl; omega) hkey (by omega) ha, fun a ha => by
      show (uI (uI t1 171 (100 + j) (nI i)) 171 (100 + i) _).1 181 a = _
      rw [uI_ne (by decide), uI_ne (by decide)]
      exact ptM_lo2 ha, ptM_2⟩
    refine ⟨s3, t3, A, j, C', hL, le_X5_swap en _ _ _ _ _ ?_, sX, ?_⟩
    · rw [gd_true e36, gd_in (by omega) (by decide), n_cl (by omega), show s.1 (36 + 17) i = nI j from n1, nm_eq, if_pos (by rw [n_le (by decide) (by omega)]; omega), eA, bI_some, show qev en (d + 1) 100 [.ref 36, .int (lstX A (-1)), .int (nI j)] s = _ from xl, bV_some, gd_in (by omega) (by decide), n_cl (by omega), nm_eq, nm_eq]
    · refine TG_upd hG (fun k hk hne => ⟨fun a ha => ?_, ?_, ?_⟩) (fun hk => ?_) (fun x => ?_) ?_ (fun _ h => h) (fun x _ h1 h2 => by rw [h1] at h2; cases h2) (fun c hc => sX.1 c (by omega) (by omega) (by omega) (by omega) (by omega)) (fun c hc => sM.1 c (by omega) (by omega) (by omega) (by omega) (by omega)) (fun x hx => ?_) (fun p _ h => by rw [sM.1 164 (by decide) (by decide) (by decide) (by decide) (by decide)]; exact h)
      · have hKa := (h2 k a ha).2.1
        have ha1 : a ≠ j := fun z => hne (by rw [← hKa, z, hKj])
        have ha2 : a ≠ i := fun z => hne (by rw [← hKa, z])
        have ha3 : A.getLast? ≠ some a := fun z => hne (by
          rw [← hKa]
          exact (h2 (K i) a (by rw [hL]; exact List.mem_append_left _ (List.mem_of_getLast? z))).2.1)
        exact ⟨by rw [f53, if_neg ha1, if_neg ha2, if_neg ha3], by rw [f171, if_neg ha1, if_neg ha2, if_neg ha3]⟩
      · rw [hdX, if_neg (fun y => hne y.2)]
      · rw [hdM, if_neg (fun y => hne y.2)]
      · obtain ⟨b1, b2⟩ := h1 (K i) hk
        rw [hL] at b1 b2
        constructor
        · refine lkd_swap A _ _ b1 hnd (fun a a1 a2 a3 => by rw [f53, if_neg a2, if_neg a1, if_neg a3]) (fun l hl => ?_) (by rw [f53, if_pos rfl]) (by rw [f53, if_neg hij, if_pos rfl]) ?_
          · rw [f53, if_neg (fun (y : l = j) => hjA (by rw [← y]; exact hl)), if_neg (fun (y : l = i) => hiA (by rw [← y]; exact hl)), if_pos hl]
          · rw [hdX]
            by_cases q : A = []
            · rw [if_pos ⟨hAe.mpr q, rfl⟩, if_pos q]
            · rw [if_neg (fun y => q (hAe.mp y.1)), if_neg q]
        · refine lkd_swap A _ _ b2 hnd (fun a a1 a2 a3 => ?_) (fun l hl => ?_) ?_ ?_ ?_
          · show t3.1 171 (100 + a) = _
            rw [f171, if_neg a2, if_neg a1, if_neg a3]
          · show t3.1 171 (100 + l) = _
            rw [f171, if_neg (fun (y : l = j) => hjA (by rw [← y]; exact hl)), if_neg (fun (y : l = i) => hiA (by rw [← y]; exact hl)), if_pos hl]
          · show t3.1 171 (100 + j) = _
            rw [f171, if_pos rfl]
          · show t3.1 171 (100 + i) = _
            rw [f171, if_neg hij, if_pos rfl]
          · rw [hdM]
            by_cases q : A = []
            · rw [if_pos ⟨hAe.mpr q, rfl⟩, if_pos q]
            · rw [if_neg (fun y => q (hAe.mp y.1)), if_neg q]
      · have e : x ∈ A ++ j :: i :: C' ↔ x ∈ bl (K i) := by
          rw [hL]
          simp only [List.mem_append, List.mem_cons]
          constructor
          · rintro (y | y | y | y)
            · exact Or.inl y
            · exact Or.inr (Or.inr (Or.inl y))
            · exact Or.inr (Or.inl y)
            · exact Or.inr (Or.inr (Or.inr y))
          · rintro (y | y | y | y)
            · exact Or.inl y
            · exact Or.inr (Or.inr (Or.inl y))
            · exact Or.inr (Or.inl y)
            · exact Or.inr (Or.inr (Or.inr y))
        rw [e]
        exact ⟨fun y => ⟨y, (h2 _ x y).2.2⟩, fun y => y.1⟩
      · have p1 : (A ++ i :: j :: C').Perm (A ++ j :: i :: C') := List.Perm.append_left A (List.Perm.swap j i C')
        exact p1.nodup_iff.mp hnd
      · obtain ⟨y1, y2, y3⟩ := h6 x hx
        refine ⟨by rw [show s3.1 60 = s.1 60 from by show (uI (uI s1 53 i _) 53 j _).1 60 = _; rw [uI_ne (by decide), uI_ne (by decide)]; exact ptX_o (by decide) (by decide) (by decide) (by decide)]; exact y1, by rw [show t3.1 175 = t.1 175 from by show (uI (uI t1 171 _ _) 171 _ _).1 175 = _; rw [uI_ne (by decide), uI_ne (by decide)]; exact ptM_o (by decide) (by decide) (by decide) (by decide)]; exact y2, fun hgx => ?_⟩
        have hxi : x ≠ i := fun z => by rw [z, hg] at hgx; cases hgx
        have hxj : x ≠ j := fun z => by rw [z, (h2 _ j hjm).2.2] at hgx; cases hgx
        have hxA : A.getLast? ≠ some x := fun z => by
          have := (h2 (K i) x (by rw [hL]; exact List.mem_append_left _ (List.mem_of_getLast? z))).2.2
          rw [this] at hgx
          cases hgx
        rw [f53, f171, if_neg hxj, if_neg hxi, if_neg hxA, if_neg hxj, if_neg hxi, if_neg hxA]
        exact y3 hgx
end SWC
