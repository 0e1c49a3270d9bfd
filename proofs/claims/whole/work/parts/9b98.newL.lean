/-! THE READER: a new line on both sides: what stands behind it. -/
/-- the class's state behind a new line that is linked -/
noncomputable def naT (s : qS) (N key : Nat) (u pa pt lv : Int32) (lo : Option Nat) : qS := uI (naS s N u pa pt lv) (lkA 16 28 31 32 key lo).1 (lkA 16 28 31 32 key lo).2 (nI N)
section NWL
variable {en : pN} {d d' k b i i' n N j x y r m m' u F p nc nl nt D m0 key un : Nat} {V cl cl' th : Nat → Nat} {U U' : Nat → Nat → Nat} {s s' s'' s0 t t' t'' t0 : qS} {B : Nat → Nat} {v w dp pa pt lv ow kk : Int32} {lo : Option Nat} {K : Nat → Nat} {bl : Nat → List Nat}
theorem lkA_r {q16 q28 q31 q32 : Nat} : (lkA q16 q28 q31 q32 key lo).1 = q16 ∨ (lkA q16 q28 q31 q32 key lo).1 = q28 ∨ (lkA q16 q28 q31 q32 key lo).1 = q31 ∨ (lkA q16 q28 q31 q32 key lo).1 = q32 := by
  unfold lkA
  cases lo with
  | some l => exact Or.inr (Or.inl rfl)
  | none =>
    dsimp only
    split
    · exact Or.inl rfl
    · split
      · exact Or.inr (Or.inr (Or.inl rfl))
      · exact Or.inr (Or.inr (Or.inr rfl))
theorem naT_o {a : Nat} (h : a ≠ 11) (h' : a < 16 ∨ a = 17 ∨ 35 < a) : (naT s N key (nI un) pa pt lv lo).1 a = s.1 a := by
  have := lkA_r (q16 := 16) (q28 := 28) (q31 := 31) (q32 := 32) (key := key) (lo := lo)
  unfold naT
  rw [uI_ne (by omega)]
  funext j
  show (if a = 11 ∧ j = 12 then nI (N + 1) else if 18 ≤ a ∧ a < 36 ∧ j = N then naV (nI un) pa pt lv a else s.1 a j) = _
  rw [if_neg (fun z => h z.1), if_neg (by omega)]
theorem naT_11 : (naT s N key (nI un) pa pt lv lo).1 11 j = if j = 12 then nI (N + 1) else s.1 11 j := by
  have := lkA_r (q16 := 16) (q28 := 28) (q31 := 31) (q32 := 32) (key := key) (lo := lo)
  unfold naT
  rw [uI_ne (by omega)]
  show (if 11 = 11 ∧ j = 12 then nI (N + 1) else if 18 ≤ 11 ∧ 11 < 36 ∧ j = N then naV (nI un) pa pt lv 11 else s.1 11 j) = _
  by_cases h : j = 12
  · rw [if_pos ⟨rfl, h⟩, if_pos h]
  · rw [if_neg (fun z => h z.2), if_neg h, if_neg (by omega)]
theorem naT_r {a : Nat} (h : 18 ≤ a ∧ a < 36) (h' : a ≠ 28 ∧ a ≠ 31 ∧ a ≠ 32) : (naT s N key (nI un) pa pt lv lo).1 a j = if j = N then naV (nI un) pa pt lv a else s.1 a j := by
  have := lkA_r (q16 := 16) (q28 := 28) (q31 := 31) (q32 := 32) (key := key) (lo := lo)
  unfold naT
  rw [uI_ne (by omega)]
  show (if a = 11 ∧ j = 12 then nI (N + 1) else if 18 ≤ a ∧ a < 36 ∧ j = N then naV (nI un) pa pt lv a else s.1 a j) = _
  rw [if_neg (by omega)]
  by_cases hj : j = N
  · rw [if_pos hj, if_pos ⟨h.1, h.2, hj⟩]
  · rw [if_neg hj, if_neg (fun z => hj z.2.2)]
theorem naT_2 : (naT s N key (nI un) pa pt lv lo).2 = s.2 := rfl
theorem mnT_o {a : Nat} (h : a ≠ 151) (h' : a < 164 ∨ 186 < a ∨ a = 174 ∨ a = 183 ∨ a = 184 ∨ a = 185) : (mnT t N un b m key kk ow pt lo).1 a = t.1 a := by
  have := lkA_r (q16 := 181) (q28 := 171) (q31 := 172) (q32 := 173) (key := key) (lo := lo)
  unfold mnT
  rw [uI_ne (by omega), uI_ne (by omega), uI_ne (by omega)]
  by_cases z : a = 174
  · funext j
    show (if 164 ≤ a ∧ a < 180 ∧ a ≠ 174 ∧ j = N then _ else _) = _
    rw [if_neg (by omega)]
  · exact mnS_1 (by omega)
theorem mnT_151 : (mnT t N un b m key kk ow pt lo).1 151 j = if j = 32 then nI (N + 1) else t.1 151 j := by
  have := lkA_r (q16 := 181) (q28 := 171) (q31 := 172) (q32 := 173) (key := key) (lo := lo)
  unfold mnT
  rw [rdU]
  by_cases h : j = 32
  · rw [if_pos ⟨rfl, h⟩, if_pos h]
  · rw [if_neg (fun z => h z.2), if_neg h, uI_ne (by decide), uI_ne (by omega), mnS_1 (by omega)]
theorem mnT_r {a : Nat} (h : 164 ≤ a ∧ a < 180 ∧ a ≠ 174) (h' : a ≠ 171 ∧ a ≠ 172 ∧ a ≠ 173) : (mnT t N un b m key kk ow pt lo).1 a j = if j = N then mnV kk (nI un) (nI (b - 1)) ow pt (nI m) a else t.1 a j := by
  have := lkA_r (q16 := 181) (q28 := 171) (q31 := 172) (q32 := 173) (key := key) (lo := lo)
  unfold mnT
  rw [uI_ne (by omega), uI_ne (by omega), uI_ne (by omega)]
  by_cases hj : j = N
  · rw [if_pos hj, hj, mnS_N h]
  · rw [if_neg hj, mnS_j hj]
theorem mnT_186 : (mnT t N un b m key kk ow pt lo).1 186 j = if j = b - 1 then nI N else t.1 186 j := by
  have := lkA_r (q16 := 181) (q28 := 171) (q31 := 172) (q32 := 173) (key := key) (lo := lo)
  unfold mnT
  rw [uI_ne (by decide), rdU]
  by_cases h : j = b - 1
  · rw [if_pos ⟨rfl, h⟩, if_pos h]
  · rw [if_neg (fun z => h z.2), if_neg h, uI_ne (by omega), mnS_1 (by omega)]
theorem mnT_J {a : Nat} : (mnT t N un b m key kk ow pt lo).2.1 a j = if (a = 180 ∨ a = 182) ∧ j = N then 0 else t.2.1 a j := rfl
theorem mnT_R : (mnT t N un b m key kk ow pt lo).2.2 = t.2.2 := rfl
theorem exS_naT (hE : exS false 7 0 u B n s t V U cl nc nl nt i m) : exS false 7 0 u B n (naT s N key (nI un) pa pt lv lo) t V U cl nc nl nt i m := by
  obtain ⟨h1, ⟨n1, ⟨s9, s10, s11⟩, n3, n4, n5, n6⟩, h3, h4, h6, h8⟩ := hE
  have e : ∀ a, a ≠ 11 → (a < 16 ∨ a = 17 ∨ 35 < a) → (naT s N key (nI un) pa pt lv lo).1 a = s.1 a := fun a => naT_o
  exact ⟨⟨cL_fr h1.1 (fun _ _ => by rw [e 1 (by decide) (by decide)]) (e 4 (by decide) (by decide)) (e 5 (by decide) (by decide)) rfl rfl rfl (fun _ _ => by rw [e 65 (by decide) (by decide)]), h1.2⟩, ⟨n1, ⟨by rw [naT_11, if_neg (by decide)]; exact s9, by rw [naT_11, if_neg (by decide)]; exact s10, by rw [naT_11, if_neg (by decide)]; exact s11⟩, n3, n4, n5, by rw [e 14 (by decide) (by decide)]; exact n6⟩, by rw [e 65 (by decide) (by decide)]; exact h3, by rw [e 65 (by decide) (by decide)]; exact h4, by rw [e 65 (by decide) (by decide)]; exact h6, by rw [e 7 (by decide) (by decide)]; exact h8⟩
theorem exS_mnT (hE : exS false 7 0 u B n s t V U cl nc nl nt i m) : exS false 7 0 u B n s (mnT t N un b m0 key kk ow pt lo) V U cl nc nl nt i m := by
  obtain ⟨h1, ⟨n1, n2, ⟨t12, t16, t18⟩, n4, ⟨w1, w2, w3⟩, n6⟩, ⟨h3, h3'⟩, h4, ⟨h6, h7, h7'⟩, h8, h9⟩ := hE
  have e : ∀ a, a ≠ 151 → a < 164 → (mnT t N un b m0 key kk ow pt lo).1 a = t.1 a := fun a h h' => mnT_o h (Or.inl h')
  have f : ∀ j, j ≠ 32 → (mnT t N un b m0 key kk ow pt lo).1 151 j = t.1 151 j := fun j h => by rw [mnT_151, if_neg h]
  have g : ∀ a, a < 164 → (mnT t N un b m0 key kk ow pt lo).2.1 a = t.2.1 a := fun a h => by
    funext j
    rw [mnT_J, if_neg (by omega)]
  exact ⟨⟨h1.1, mtL_fr h1.2 (fun j hj => f j (by omega)) (e 152 (by decide) (by decide)) (by rw [g 151 (by decide)])⟩, ⟨n1, n2, ⟨by rw [f 12 (by decide)]; exact t12, by rw [f 16 (by decide)]; exact t16, by rw [f 18 (by decide)]; exact t18⟩, n4, ⟨by rw [g 153 (by decide)]; exact w1, by rw [g 156 (by decide)]; exact w2, by rw [g 157 (by decide)]; exact w3⟩, by rw [e 159 (by decide) (by decide), g 160 (by decide)]; exact n6⟩, ⟨h3, by rw [f 29 (by decide)]; exact h3'⟩, h4, ⟨h6, by rw [f 28 (by decide)]; exact h7, h7'⟩, h8, by rw [f 25 (by decide)]; exact h9⟩
theorem nwL_new (hm : m0 ≤ 400) (hlv : lv = nI (b - 1)) : nwL (naT s N key (nI un) pa pt lv lo) (mnT t N un b m0 key (nI k) ow pt lo) N un k m0 := by
  have x : ∀ a, 18 ≤ a ∧ a < 36 → a ≠ 28 ∧ a ≠ 31 ∧ a ≠ 32 → (naT s N key (nI un) pa pt lv lo).1 a N = naV (nI un) pa pt lv a := fun a h h' => by rw [naT_r h h', if_pos rfl]
  have y : ∀ a, 164 ≤ a ∧ a < 180 ∧ a ≠ 174 → a ≠ 171 ∧ a ≠ 172 ∧ a ≠ 173 → (mnT t N un b m0 key (nI k) ow pt lo).1 a N = mnV (nI k) (nI un) (nI (b - 1)) ow pt (nI m0) a := fun a h h' => by rw [mnT_r h h', if_pos rfl]
  exact ⟨⟨x 19 (by decide) (by decide), y 165 (by decide) (by decide)⟩, y 164 (by decide) (by decide), ⟨x 20 (by decide) (by decide), y 166 (by decide) (by decide)⟩, ⟨x 21 (by decide) (by decide), y 167 (by decide) (by decide)⟩, by rw [x 22 (by decide) (by decide), y 168 (by decide) (by decide)]; exact hlv.symm, ⟨x 35 (by decide) (by decide), y 175 (by decide) (by decide)⟩, ⟨x 25 (by decide) (by decide), x 26 (by decide) (by decide)⟩, ⟨y 176 (by decide) (by decide), y 177 (by decide) (by decide), y 178 (by decide) (by decide), y 179 (by decide) (by decide)⟩, hm⟩
theorem wkX_naT : wkX s (naT s N key (nI un) pa pt lv lo) := ⟨fun a _ _ _ h => by
  by_cases z : a = 11
  · omega
  · exact naT_o z (by omega), fun j _ _ _ => by rw [naT_o (by decide) (by decide)], ⟨fun j _ => by rw [naT_o (by decide) (by decide)], fun j h => by rw [naT_11, if_neg h]⟩, fun j _ _ _ _ => by rw [naT_o (by decide) (by decide)], fun _ _ _ _ => rfl, rfl⟩
theorem wkM_mnT : wkM t (mnT t N un b m0 key kk ow pt lo) := ⟨fun a h h' => mnT_o h (by omega), fun j hj => by rw [mnT_151, if_neg (fun z => by rw [z] at hj; cases hj)], fun a _ h => by
  funext j
  rw [mnT_J, if_neg (by omega)], fun j _ => by rw [mnT_J, if_neg (by omega)], rfl⟩
/-- lines below the new one -/
theorem lnB_naT (h : lnB s t nc nl nt m cl th i) (hi : i ≠ N) : lnB (naT s N key (nI un) pa pt lv lo) t nc nl nt m cl th i := by
  have x : ∀ a, 18 ≤ a ∧ a < 36 → a ≠ 28 ∧ a ≠ 31 ∧ a ≠ 32 → (naT s N key (nI un) pa pt lv lo).1 a i = s.1 a i := fun a h h' => by rw [naT_r h h', if_neg hi]
  have e8 : (naT s N key (nI un) pa pt lv lo).1 8 = s.1 8 := naT_o (by decide) (by decide)
  have e9 : (naT s N key (nI un) pa pt lv lo).1 9 = s.1 9 := naT_o (by decide) (by decide)
  have e68 : (naT s N key (nI un) pa pt lv lo).1 68 = s.1 68 := naT_o (by decide) (by decide)
  have ex : ∀ A E A' E' : Int32, exA s t (th i) m A E A' E' → exA (naT s N key (nI un) pa pt lv lo) t (th i) m A E A' E' := fun A E A' E' h => by
    obtain ⟨a, e, h1, h2, h3 | ⟨h3, h4, h4', h5, h6, h7, h8⟩⟩ := h
    · exact ⟨a, e, h1, h2, Or.inl h3⟩
    · exact ⟨a, e, h1, h2, Or.inr ⟨h3, h4, h4', h5, h6, fun j j1 j2 => nd1_eq (h7 j j1 j2) (by rw [e8]) (by rw [e9]) rfl rfl, by rw [e8, e9]; exact h8⟩⟩
  obtain ⟨k, ⟨h1, h2, h3⟩, ⟨h4, h5, h6⟩, h7, ⟨h8, h9⟩, ⟨h10, h11⟩, h12, ⟨h13, h14⟩, h15, h16, h17, h18, h19, h20⟩ := h
  exact ⟨k, ⟨h1, (x 18 (by decide) (by decide)).trans h2, h3⟩, ⟨h4, (x 19 (by decide) (by decide)).trans h5, h6⟩, by rw [x 20 (by decide) (by decide)]; exact h7, ⟨by rw [x 20 (by decide) (by decide)]; exact h8, by rw [x 20 (by decide) (by decide)]; exact h9⟩, ⟨by rw [x 21 (by decide) (by decide)]; exact h10, by rw [x 21 (by decide) (by decide)]; exact h11⟩, by rw [x 22 (by decide) (by decide)]; exact h12, ⟨(x 35 (by decide) (by decide)).trans h13, h14⟩, by rw [x 23 (by decide) (by decide), x 24 (by decide) (by decide)]; exact ex _ _ _ _ h15, by rw [x 25 (by decide) (by decide), x 26 (by decide) (by decide)]; exact ex _ _ _ _ h16, by rw [x 23 (by decide) (by decide), x 24 (by decide) (by decide)]; exact h17, by rw [x 25 (by decide) (by decide), x 26 (by decide) (by decide)]; exact h18, by rw [x 27 (by decide) (by decide)]; exact h19, by rw [e68]; exact h20⟩
theorem lnB_mnT (h : lnB s t nc nl nt m cl th i) (hi : i ≠ N) : lnB s (mnT t N un b m0 key kk ow pt lo) nc nl nt m cl th i := by
  have y : ∀ a, 164 ≤ a ∧ a < 180 ∧ a ≠ 174 → a ≠ 171 ∧ a ≠ 172 ∧ a ≠ 173 → (mnT t N un b m0 key kk ow pt lo).1 a i = t.1 a i := fun a h h' => by rw [mnT_r h h', if_neg hi]
  have e161 : (mnT t N un b m0 key kk ow pt lo).1 161 = t.1 161 := mnT_o (by decide) (by decide)
  have e162 : (mnT t N un b m0 key kk ow pt lo).1 162 = t.1 162 := mnT_o (by decide) (by decide)
  have e183 : (mnT t N un b m0 key kk ow pt lo).1 183 = t.1 183 := mnT_o (by decide) (by decide)
  have ex : ∀ A E A' E' : Int32, exA s t (th i) m A E A' E' → exA s (mnT t N un b m0 key kk ow pt lo) (th i) m A E A' E' := fun A E A' E' h => by
    obtain ⟨a, e, h1, h2, h3 | ⟨h3, h4, h4', h5, h6, h7, h8⟩⟩ := h
    · exact ⟨a, e, h1, h2, Or.inl h3⟩
    · exact ⟨a, e, h1, h2, Or.inr ⟨h3, h4, h4', h5, h6, fun j j1 j2 => nd1_eq (h7 j j1 j2) rfl rfl (by rw [e161]) (by rw [e162]), h8⟩⟩
  obtain ⟨k, ⟨h1, h2, h3⟩, ⟨h4, h5, h6⟩, h7, ⟨h8, h9⟩, ⟨h10, h11⟩, h12, ⟨h13, h14⟩, h15, h16, h17, h18, h19, h20⟩ := h
  exact ⟨k, ⟨h1, h2, (y 164 (by decide) (by decide)).trans h3⟩, ⟨h4, h5, (y 165 (by decide) (by decide)).trans h6⟩, by rw [y 166 (by decide) (by decide)]; exact h7, ⟨h8, h9⟩, ⟨by rw [y 167 (by decide) (by decide)]; exact h10, h11⟩, by rw [y 168 (by decide) (by decide)]; exact h12, ⟨h13, (y 175 (by decide) (by decide)).trans h14⟩, by rw [y 176 (by decide) (by decide), y 177 (by decide) (by decide)]; exact ex _ _ _ _ h15, by rw [y 178 (by decide) (by decide), y 179 (by decide) (by decide)]; exact ex _ _ _ _ h16, h17, h18, by rw [mnT_J, if_neg (fun z => hi z.2)]; exact h19, by rw [mnT_J, if_neg (fun z => hi z.2), e183]; exact h20⟩
/-- the tree, under a statement's frame -/
theorem lnG_fr2 (h : lnG s t nt (N + 1) K th bl) (f : stF N m s s') (g : smF N m t t') (h19 : s'.1 19 N = s.1 19 N) : lnG s' t' nt (N + 1) K th bl := by
  have x : ∀ a, a = 16 ∨ a = 28 ∨ a = 29 ∨ a = 30 ∨ a = 31 ∨ a = 32 → s'.1 a = s.1 a := fun a ha => f.1 a (by omega) (by omega) (by omega) (by omega) (by omega) (by omega) (by omega) (by omega)
  have y : ∀ a, 169 ≤ a → a ≤ 181 → smW a = false → t'.1 a = t.1 a := fun a a1 a2 a3 => g.1 a (by omega) (by omega) (by omega) (by omega) (by omega) a3
  obtain ⟨h1, h3, h4, h5, h6⟩ := h
  unfold lnG
  rw [x 16 (by decide), x 28 (by decide), x 31 (by decide), x 32 (by decide), y 171 (by decide) (by decide) rfl, y 181 (by decide) (by decide) rfl, y 172 (by decide) (by decide) rfl, y 173 (by decide) (by decide) rfl, x 29 (by decide), x 30 (by decide), y 169 (by decide) (by decide) rfl, y 170 (by decide) (by decide) rfl]
  refine ⟨h1, h3, h4, h5, fun i hi => ?_⟩
  obtain ⟨⟨g1, g2⟩, g3⟩ := h6 i hi
  refine ⟨⟨g1, ?_⟩, g3⟩
  by_cases z : i = N
  · rw [z, h19, ← z]; exact g2
  · rw [f.2.1 19 (by decide) (by decide) i z]; exact g2
end NWL
