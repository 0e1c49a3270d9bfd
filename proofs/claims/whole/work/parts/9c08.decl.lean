/-! THE READER: between declarations, on both sides: what stands, what is added. -/
/-- the cells' first values, and which are volatile -/
abbrev clR (s t : qS) (nc : Nat) : Prop := ∀ c, c < 8 → (c < nc ∧ t.1 154 c = s.1 15 c ∧ inR (s.1 15 c) ∧ t.1 155 c = bt ((s.1 11 7).toBitVec.getLsbD c)) ∨ (nc ≤ c ∧ (s.1 11 7).toBitVec.getLsbD c = false)
/-- which threads start later -/
abbrev laR (s t : qS) (nt : Nat) : Prop := ∀ u, u < 4 → (u < nt ∧ t.1 158 u = bt ((s.1 11 8).toBitVec.getLsbD u)) ∨ (nt ≤ u ∧ (s.1 11 8).toBitVec.getLsbD u = false)
/-- the program that is read, between declarations -/
abbrev tpS (s t : qS) (V : Nat → Nat) (U : Nat → Nat → Nat) (cl : Nat → Nat) (nc nl nt m N : Nat) (th K : Nat → Nat) (bl : Nat → List Nat) : Prop :=
  nmR s t V U cl nc nl nt ∧ ((s.1 65 8 = 0 ∧ t.1 151 29 = 0) ∧ s.2.2 65 7 = 8 ∧ (s.1 65 13 = nI m ∧ t.1 151 28 = nI m ∧ m ≤ 400) ∧ s.1 7 3 = nI m ∧ t.1 151 25 = nI m) ∧ (s.1 11 12 = nI N ∧ t.1 151 32 = nI N ∧ N ≤ 100 ∧ elI bl t 0 N) ∧ (∀ i, i < N → lnB s t nc nl nt m cl th i) ∧ lnG s t nt N K th bl ∧ (∀ j, j < 7 → s.2.1 66 j = Int64.ofNat (CWN.getD j 0)) ∧ clR s t nc ∧ laR s t nt
/-- what reading a program changes at all -/
abbrev tqX (s s' : qS) : Prop := (∀ a, a ≠ 1 → a ≠ 65 → a ≠ 68 → (a < 7 ∨ a = 10 ∨ 35 < a) → s'.1 a = s.1 a) ∧ (∀ j, j ≠ 8 → j ≠ 9 → j ≠ 10 → s'.1 1 j = s.1 1 j) ∧ (∀ j, j ≠ 3 → s'.1 7 j = s.1 7 j) ∧ (∀ j, j < 11 ∨ 14 < j → s'.1 65 j = s.1 65 j) ∧ (∀ a, a ≠ 1 → a ≠ 67 → (a < 12 ∨ 13 < a) → s'.2.1 a = s.2.1 a) ∧ s'.2.2 = s.2.2
abbrev tqM (t t' : qS) : Prop := (∀ a, a ≠ 151 → (a < 153 ∨ 186 < a) → t'.1 a = t.1 a) ∧ (∀ j, wmJ j = false → t'.1 151 j = t.1 151 j) ∧ (∀ a, a ≠ 151 → (a < 153 ∨ 186 < a) → t'.2.1 a = t.2.1 a) ∧ (∀ j, j ≠ 5 → t'.2.1 151 j = t.2.1 151 j) ∧ t'.2.2 = t.2.2
theorem rdJ {σ : qS} {a k b j : Nat} {v : Int64} : (uJ σ a k v).2.1 b j = if b = a ∧ j = k then v else σ.2.1 b j := rfl
section TPS
variable {en : pN} {d d' k i i' n N j x y c u v q nc nc' nl nl' nt nt' m : Nat} {V cl cl' th K : Nat → Nat} {U : Nat → Nat → Nat} {bl : Nat → List Nat} {s s' s'' t t' t'' : qS} {B : Nat → Nat} {w z : Int32} {W : Int64}
theorem tqX.rf : tqX s s := ⟨fun _ _ _ _ _ => rfl, fun _ _ _ _ => rfl, fun _ _ => rfl, fun _ _ => rfl, fun _ _ _ _ => rfl, rfl⟩
theorem tqX.tr (h : tqX s s') (g : tqX s' s'') : tqX s s'' := ⟨fun a h1 h2 h3 h4 => (g.1 a h1 h2 h3 h4).trans (h.1 a h1 h2 h3 h4), fun j a b c => (g.2.1 j a b c).trans (h.2.1 j a b c), fun j a => (g.2.2.1 j a).trans (h.2.2.1 j a), fun j a => (g.2.2.2.1 j a).trans (h.2.2.2.1 j a), fun a h1 h2 h3 => (g.2.2.2.2.1 a h1 h2 h3).trans (h.2.2.2.2.1 a h1 h2 h3), g.2.2.2.2.2.trans h.2.2.2.2.2⟩
theorem tqX.wk (h : wkX s s') : tqX s s' := ⟨fun a h1 h2 h3 h4 => h.1 a h1 h2 h3 (by omega), h.2.1, h.2.2.1.1, fun j a => h.2.2.2.1 j (by omega) (by omega) (by omega) (by omega), h.2.2.2.2.1, h.2.2.2.2.2⟩
theorem tqX.tk (h : tnF s s') : tqX s s' := tqX.wk (wkX.st (N := 0) (m := 0) (stF.tk h))
theorem tqX.bm (h : bmF s s') : tqX s s' := tqX.wk (wkX.bm h)
theorem tqX.ui (ha : 11 ≤ c ∧ c ≤ 35) : tqX s (uI s c j w) := ⟨fun b _ _ h3 h4 => uI_ne (by omega), fun j _ _ _ => by rw [uI_ne (by omega)], fun j _ => by rw [uI_ne (by omega)], fun j _ => by rw [uI_ne (by omega)], fun _ _ _ _ => rfl, rfl⟩
theorem tqX.uf (hj : 11 ≤ j ∧ j ≤ 14) : tqX s (uI s 65 j w) := ⟨fun b _ h2 _ _ => uI_ne h2, fun j _ _ _ => by rw [uI_ne (by decide)], fun j _ => by rw [uI_ne (by decide)], fun j' h => by rw [rdU, if_neg (by omega)], fun _ _ _ _ => rfl, rfl⟩
theorem tqX.uj (ha : c = 12 ∨ c = 13 ∨ c = 67) : tqX s (uJ s c j W) := ⟨fun _ _ _ _ _ => rfl, fun _ _ _ _ => rfl, fun _ _ => rfl, fun _ _ => rfl, fun a _ h _ => uJ_ne (by omega), rfl⟩
theorem tqM.rf : tqM t t := ⟨fun _ _ _ => rfl, fun _ _ => rfl, fun _ _ _ => rfl, fun _ _ => rfl, rfl⟩
theorem tqM.tr (h : tqM t t') (g : tqM t' t'') : tqM t t'' := ⟨fun a h1 h2 => (g.1 a h1 h2).trans (h.1 a h1 h2), fun j a => (g.2.1 j a).trans (h.2.1 j a), fun a h1 h2 => (g.2.2.1 a h1 h2).trans (h.2.2.1 a h1 h2), fun j a => (g.2.2.2.1 j a).trans (h.2.2.2.1 j a), g.2.2.2.2.trans h.2.2.2.2⟩
theorem tqM.wk (h : wkM t t') : tqM t t' := ⟨fun a h1 h2 => h.1 a h1 (by omega), h.2.1, h.2.2.1, h.2.2.2.1, h.2.2.2.2⟩
theorem tqM.mv (h : mvF t t') : tqM t t' := tqM.wk (wkM.mv h)
theorem tqM.ui (ha : 153 ≤ c ∧ c ≤ 186) : tqM t (uI t c j w) := ⟨fun b h1 h2 => uI_ne (by omega), fun j _ => by rw [uI_ne (by omega)], fun _ _ _ => rfl, fun _ _ => rfl, rfl⟩
theorem tqM.uj (ha : 153 ≤ c ∧ c ≤ 186) : tqM t (uJ t c j W) := ⟨fun _ _ _ => rfl, fun _ _ => rfl, fun b _ h => uJ_ne (by omega), fun j _ => by rw [uJ_ne (by omega)], rfl⟩
theorem tqM.uf (hj : wmJ j = true) : tqM t (uI t 151 j w) := ⟨fun b h1 _ => uI_ne h1, fun c hc => by rw [rdU, if_neg (fun z => by rw [z.2, hj] at hc; cases hc)], fun _ _ _ => rfl, fun _ _ => rfl, rfl⟩
/-- a number has at most three figures -/
theorem num_lt (hB : ∀ j, j < n → B j < 256) (hi : i < tkL B n) (hk : tkK B n i = 3) : (tkN B n i).2.2.1 < 1000 := by
  obtain ⟨-, hp, h, -⟩ := aL_next (n + 1) 0 i _ (by omega) (by omega) (tk_at (B := B) hi)
  have hk' : (aTok B n (tkN B n i).1).1 = 3 := by rw [← h]; exact hk
  rw [h]
  generalize (tkN B n i).1 = p at *
  unfold aTok at hk' ⊢
  by_cases q1 : n ≤ p
  · rw [if_pos q1] at hk'
    simp at hk'
  rw [if_neg q1] at hk' ⊢
  by_cases q2 : ltr (B p) = true
  · exfalso
    rw [if_pos q2] at hk'
    by_cases q3 : wnd wch B (n - p) p - p ≤ 8
    · rw [if_pos q3] at hk'
      exact kyd_ne.2.2.1 hk'
    · rw [if_neg q3] at hk'
      simp at hk'
  rw [if_neg q2] at hk' ⊢
  by_cases q4 : dgt (B p) = true
  · rw [if_pos q4] at hk' ⊢
    by_cases q5 : wnd dgt B (n - p) p - p ≤ 3
    · rw [if_pos q5]
      exact (wcd10 (B := B) (n - p) p 0 0 (by decide) (by omega)).2.2
    · rw [if_neg q5] at hk'
      simp at hk'
  · rw [if_neg q4] at hk'
    exfalso
    have hg : gkd (B p) (byt B n (p + 1)) ≠ 3 := by
      have hb := hB p (by omega)
      unfold gkd
      repeat' split
      all_goals first | omega | (rename_i hs; have := sgn_rg hs; omega) | (rename_i hs _; have := sgn_rg hs; omega) | (rename_i hs _ _; have := sgn_rg hs; omega)
    exact hg hk'
theorem lnB_eq (h : lnB s t nc nl nt m cl th i) (hx : ∀ a, a = 8 ∨ a = 9 ∨ 18 ≤ a ∧ a ≤ 32 ∨ a = 35 ∨ a = 68 → s'.1 a = s.1 a) (hx2 : s'.2.1 67 = s.2.1 67) (hm : ∀ a, 161 ≤ a → a ≤ 183 → a ≠ 181 → a ≠ 174 → t'.1 a = t.1 a) (hm2 : ∀ a, a = 180 ∨ a = 182 → t'.2.1 a = t.2.1 a) (h1 : nc ≤ nc') (h2 : nl ≤ nl') (h3 : nt ≤ nt') : lnB s' t' nc' nl' nt' m cl th i := by
  obtain ⟨k, ⟨a1, a2, a3⟩, ⟨a4, a5, a6⟩, a7, ⟨a8, a9⟩, ⟨a10, a11⟩, a12, ⟨a13, a14⟩, a15, a16, a17, a18, a19, a20⟩ := h
  have ex : ∀ A E A' E' : Int32, exA s t (th i) m A E A' E' → exA s' t' (th i) m A E A' E' := fun A E A' E' h => by
    obtain ⟨a, e', h1, h2, h3 | ⟨h3, h4, h4', h5, h6, h7, h8⟩⟩ := h
    · exact ⟨a, e', h1, h2, Or.inl h3⟩
    · exact ⟨a, e', h1, h2, Or.inr ⟨h3, h4, h4', h5, h6, fun j j1 j2 => nd1_eq (h7 j j1 j2) (by rw [hx 8 (Or.inl rfl)]) (by rw [hx 9 (Or.inr (Or.inl rfl))]) (by rw [hm 161 (by decide) (by decide) (by decide) (by decide)]) (by rw [hm 162 (by decide) (by decide) (by decide) (by decide)]), by rw [hx 8 (Or.inl rfl), hx 9 (Or.inr (Or.inl rfl))]; exact h8⟩⟩
  have g : ∀ a, (18 ≤ a ∧ a ≤ 32) ∨ a = 35 → s'.1 a = s.1 a := fun a h => hx a (by omega)
  have f : ∀ a, 164 ≤ a ∧ a ≤ 180 ∧ a ≠ 174 → t'.1 a = t.1 a := fun a h => hm a (by omega) (by omega) (by omega) h.2.2
  refine ⟨k, ⟨a1, by rw [g 18 (by decide)]; exact a2, by rw [f 164 (by decide)]; exact a3⟩, ⟨by omega, by rw [g 19 (by decide)]; exact a5, by rw [f 165 (by decide)]; exact a6⟩, by rw [f 166 (by decide), g 20 (by decide)]; exact a7, ⟨fun z1 z2 => ?_, fun z1 z2 => ?_⟩, ⟨by rw [f 167 (by decide), g 21 (by decide)]; exact a10, by rw [g 21 (by decide)]; exact a11⟩, by rw [f 168 (by decide), g 22 (by decide)]; exact a12, ⟨by rw [g 35 (by decide)]; exact a13, by rw [f 175 (by decide)]; exact a14⟩, ?_, ?_, ?_, ?_, ?_, ?_⟩
  · obtain ⟨c, c1, c2⟩ := a8 z1 z2
    exact ⟨c, by omega, by rw [g 20 (by decide)]; exact c2⟩
  · obtain ⟨c, c1, c2⟩ := a9 z1 z2
    exact ⟨c, by omega, by rw [g 20 (by decide)]; exact c2⟩
  · rw [g 23 (by decide), g 24 (by decide), f 176 (by decide), f 177 (by decide)]
    exact ex _ _ _ _ a15
  · rw [g 25 (by decide), g 26 (by decide), f 178 (by decide), f 179 (by decide)]
    exact ex _ _ _ _ a16
  · rw [g 23 (by decide), g 24 (by decide)]; exact a17
  · rw [g 25 (by decide), g 26 (by decide)]; exact a18
  · rw [g 27 (by decide), hm2 180 (Or.inl rfl)]; exact a19
  · rw [hx2, hm2 182 (Or.inr rfl), hx 68 (by omega), hm 183 (by decide) (by decide) (by decide) (by decide)]; exact a20
theorem lnG_eq (h : lnG s t nt N K th bl) (hx : ∀ a, a = 16 ∨ a = 19 ∨ 28 ≤ a ∧ a ≤ 32 → s'.1 a = s.1 a) (hm : ∀ a, 169 ≤ a ∧ a ≤ 173 ∨ a = 181 → t'.1 a = t.1 a) : lnG s' t' nt N K th bl := by
  unfold lnG
  rw [hx 16 (by omega), hx 19 (by omega), hx 28 (by omega), hx 29 (by omega), hx 30 (by omega), hx 31 (by omega), hx 32 (by omega), hm 169 (by omega), hm 170 (by omega), hm 171 (by omega), hm 172 (by omega), hm 173 (by omega), hm 181 (by omega)]
  exact h
/-- one more thread, without lines -/
theorem lnG_thread (hG : lnG s t nt N K th bl) (hnt : nt < 4) (hx : ∀ a, a = 19 ∨ 28 ≤ a ∧ a ≤ 32 → s'.1 a = s.1 a) (hm : ∀ a, 169 ≤ a ∧ a ≤ 173 → t'.1 a = t.1 a) (h16 : ∀ j, s'.1 16 j = if j = nt then -1 else s.1 16 j) (h181 : ∀ j, t'.1 181 j = if j = nt then -2 else t.1 181 j) : lnG s' t' (nt + 1) N K th bl ∧ bl nt = [] := by
  obtain ⟨h1, h3, h4, h5, h6⟩ := hG
  have h0 : bl nt = [] := by
    cases hb : bl nt with
    | nil => rfl
    | cons a L =>
      exfalso
      obtain ⟨a1, a2⟩ := h3 nt a (by rw [hb]; exact List.mem_cons_self)
      obtain ⟨⟨g1, -⟩, g2⟩ := h6 a a1
      rcases g2 with ⟨g2, -⟩ | ⟨p, c, g2, g3, g4, -⟩ <;> omega
  refine ⟨⟨fun k hk => ?_, h3, h4, h5, fun i hi => ?_⟩, h0⟩
  · rw [hx 28 (by omega), hx 31 (by omega), hx 32 (by omega), hm 171 (by omega), hm 172 (by omega), hm 173 (by omega)]
    by_cases q : k = nt
    · rw [q, h0]
      constructor
      · show hdK _ _ _ nt = -1
        unfold hdK
        rw [if_pos hnt, h16, if_pos rfl]
      · show hdK _ _ _ nt = -2
        unfold hdK
        rw [if_pos hnt, h181, if_pos rfl]
    · have hk' : kyV nt N k := by rcases hk with z | z <;> omega
      have e1 : hdK (s'.1 16) (s.1 31) (s.1 32) k = hdK (s.1 16) (s.1 31) (s.1 32) k := hdK_at (fun _ => by rw [h16, if_neg q]) (fun _ _ => rfl) (fun _ _ => rfl)
      have e2 : hdK (t'.1 181) (t.1 172) (t.1 173) k = hdK (t.1 181) (t.1 172) (t.1 173) k := hdK_at (fun _ => by rw [h181, if_neg q]) (fun _ _ => rfl) (fun _ _ => rfl)
      rw [e1, e2]
      exact h1 k hk'
  · rw [hx 19 (by omega), hx 29 (by omega), hx 30 (by omega), hm 169 (by omega), hm 170 (by omega)]
    obtain ⟨⟨g1, g1'⟩, g2⟩ := h6 i hi
    exact ⟨⟨by omega, g1'⟩, g2⟩
/-- one more name, at a place that is free -/
theorem nmV_add (h : (∀ j, j < 16 → s.2.1 12 j = Int64.ofNat (V j) ∧ V j < 128 ^ 8) ∧ (∀ j, j < 16 → V j ≠ 0 → j < nc ∨ (8 ≤ j ∧ j < 8 + nl) ∨ (12 ≤ j ∧ j < 12 + nt)) ∧ ∀ i j, i < 16 → j < 16 → V i = V j → V i ≠ 0 → i = j) (hv : v < 128 ^ 8) (hnew : ∀ j, j < 16 → V j ≠ v) (hs : ∀ j, s'.2.1 12 j = if j = q then Int64.ofNat v else s.2.1 12 j) (hq : q < nc' ∨ (8 ≤ q ∧ q < 8 + nl') ∨ (12 ≤ q ∧ q < 12 + nt')) (h1 : nc ≤ nc') (h2 : nl ≤ nl') (h3 : nt ≤ nt') : (∀ j, j < 16 → s'.2.1 12 j = Int64.ofNat (at1 V q v j) ∧ at1 V q v j < 128 ^ 8) ∧ (∀ j, j < 16 → at1 V q v j ≠ 0 → j < nc' ∨ (8 ≤ j ∧ j < 8 + nl') ∨ (12 ≤ j ∧ j < 12 + nt')) ∧ ∀ i j, i < 16 → j < 16 → at1 V q v i = at1 V q v j → at1 V q v i ≠ 0 → i = j := by
  obtain ⟨a1, a2, a3⟩ := h
  refine ⟨fun j hj => ?_, fun j hj hz => ?_, fun i j hi hj he hz => ?_⟩
  · rw [hs]
    by_cases z : j = q
    · rw [if_pos z, z, at1_s]; exact ⟨rfl, hv⟩
    · rw [if_neg z, at1_n z]; exact a1 j hj
  · by_cases z : j = q
    · rw [z]; exact hq
    · rw [at1_n z] at hz
      have := a2 j hj hz
      omega
  · by_cases z : i = q
    · by_cases y : j = q
      · rw [z, y]
      · rw [z, at1_s, at1_n y] at he
        exact absurd he.symm (hnew j hj)
    · by_cases y : j = q
      · rw [y, at1_s, at1_n z] at he
        exact absurd he (hnew i hi)
      · rw [at1_n z, at1_n y] at he
        rw [at1_n z] at hz
        exact a3 i j hi hj he hz
end TPS
