/-! THE READER: a new line on both sides: what stands behind it. -/
/-- the class's state behind a new line that is linked -/
noncomputable def naT (s : qS) (N key : Nat) (u pa pt lv : Int32) (lo : Option Nat) : qS := uI (naS s N u pa pt lv) (lkA 16 28 31 32 key lo).1 (lkA 16 28 31 32 key lo).2 (nI N)
section NWL
variable {en : pN} {d d' k b i i' n N j x y r m m' u F p nc nl nt D m0 key un : Nat} {V cl cl' th : Nat → Nat} {U U' : Nat → Nat → Nat} {s s' s'' s0 t t' t'' t0 : qS} {B : Nat → Nat} {v w dp pa pt lv ow kk : Int32} {lo : Option Nat} {K : Nat → Nat} {bl : Nat → List Nat}
theorem lkA_r {q16 q28 q31 q32 : Nat} : (lkA q16 q28 q31 q32 key lo).1 = q16 ∨ (lkA q16 q28 q31 q32 key lo).1 = q28 ∨ (lkA q16 q28 q31 q32 key lo).1 = q31 ∨ (lkA q16 q28 q31 q32 key lo).1 = q32 := by
  unfold lkA
  cases lo with
  | some l => exact Or.inr (Or.inl rfl)
  | none =>
    dsimp only
    split
    · exact Or.inl rfl
    · split
      · exact Or.inr (Or.inr (Or.inl rfl))
      · exact Or.inr (Or.inr (Or.inr rfl))
theorem naT_o {a : Nat} (h : a ≠ 11) (h' : a < 16 ∨ a = 17 ∨ 35 < a) : (naT s N key (nI un) pa pt lv lo).1 a = s.1 a := by
  have := lkA_r (q16 := 16) (q28 := 28) (q31 := 31) (q32 := 32) (key := key) (lo := lo)
  unfold naT
  rw [uI_ne (by omega)]
  funext j
  show (if a = 11 ∧ j = 12 then nI (N + 1) else if 18 ≤ a ∧ a < 36 ∧ j = N then naV (nI un) pa pt lv a else s.1 a j) = _
  rw [if_neg (fun z => h z.1), if_neg (by omega)]
theorem naT_11 : (naT s N key (nI un) pa pt lv lo).1 11 j = if j = 12 then nI (N + 1) else s.1 11 j := by
  have := lkA_r (q16 := 16) (q28 := 28) (q31 := 31) (q32 := 32) (key := key) (lo := lo)
  unfold naT
  rw [uI_ne (by omega)]
  show (if 11 = 11 ∧ j = 12 then nI (N + 1) else if 18 ≤ 11 ∧ 11 < 36 ∧ j = N then naV (nI un) pa pt lv 11 else s.1 11 j) = _
  by_cases h : j = 12
  · rw [if_pos ⟨rfl, h⟩, if_pos h]
  · rw [if_neg (fun z => h z.2), if_neg h, if_neg (by omega)]
theorem naT_r {a : Nat} (h : 18 ≤ a ∧ a < 36) (h' : a ≠ 28 ∧ a ≠ 31 ∧ a ≠ 32) : (naT s N key (nI un) pa pt lv lo).1 a j = if j = N then naV (nI un) pa pt lv a else s.1 a j := by
  have := lkA_r (q16 := 16) (q28 := 28) (q31 := 31) (q32 := 32) (key := key) (lo := lo)
  unfold naT
  rw [uI_ne (by omega)]
  show (if a = 11 ∧ j = 12 then nI (N + 1) else if 18 ≤ a ∧ a < 36 ∧ j = N then naV (nI un) pa pt lv a else s.1 a j) = _
  rw [if_neg (by omega)]
  by_cases hj : j = N
  · rw [if_pos hj, if_pos ⟨h.1, h.2, hj⟩]
  · rw [if_neg hj, if_neg (fun z => hj z.2.2)]
theorem naT_2 : (naT s N key (nI un) pa pt lv lo).2 = s.2 := rfl
theorem mnT_o {a : Nat} (h : a ≠ 151) (h' : a < 164 ∨ 186 < a ∨ a = 174 ∨ a = 183 ∨ a = 184 ∨ a = 185) : (mnT t N un b m key kk ow pt lo).1 a = t.1 a := by
  have := lkA_r (q16 := 181) (q28 := 171) (q31 := 172) (q32 := 173) (key := key) (lo := lo)
  unfold mnT
  rw [uI_ne (by omega), uI_ne (by omega), uI_ne (by omega)]
  by_cases z : a = 174
  · funext j
    show (if 164 ≤ a ∧ a < 180 ∧ a ≠ 174 ∧ j = N then _ else _) = _
    rw [if_neg (by omega)]
  · exact mnS_1 (by omega)
theorem mnT_r {a : Nat} (h : 164 ≤ a ∧ a < 180 ∧ a ≠ 174) (h' : a ≠ 171 ∧ a ≠ 172 ∧ a ≠ 173) : (mnT t N un b m key kk ow pt lo).1 a j = if j = N then mnV kk (nI un) (nI (b - 1)) ow pt (nI m) a else t.1 a j := by
  have := lkA_r (q16 := 181) (q28 := 171) (q31 := 172) (q32 := 173) (key := key) (lo := lo)
  unfold mnT
  rw [uI_ne (by omega), uI_ne (by omega), uI_ne (by omega)]
  by_cases hj : j = N
  · rw [if_pos hj, hj, mnS_N h]
  · rw [if_neg hj, mnS_j hj]
theorem mnT_186 : (mnT t N un b m key kk ow pt lo).1 186 j = if j = b - 1 then nI N else t.1 186 j := by
  have := lkA_r (q16 := 181) (q28 := 171) (q31 := 172) (q32 := 173) (key := key) (lo := lo)
  unfold mnT
  rw [uI_ne (by decide), rdU]
  by_cases h : j = b - 1
  · rw [if_pos ⟨rfl, h⟩, if_pos h]
  · rw [if_neg (fun z => h z.2), if_neg h, uI_ne (by omega), mnS_1 (by omega)]
theorem mnT_J {a : Nat} : (mnT t N un b m key kk ow pt lo).2.1 a j = if (a = 180 ∨ a = 182) ∧ j = N then 0 else t.2.1 a j := rfl
theorem mnT_R : (mnT t N un b m key kk ow pt lo).2.2 = t.2.2 := rfl
theorem nwL_new (hm : m0 ≤ 400) (hlv : lv = nI (b - 1)) : nwL (naT s N key (nI un) pa pt lv lo) (mnT t N un b m0 key (nI k) ow pt lo) N un k m0 := by
  have x : ∀ a, 18 ≤ a ∧ a < 36 → a ≠ 28 ∧ a ≠ 31 ∧ a ≠ 32 → (naT s N key (nI un) pa pt lv lo).1 a N = naV (nI un) pa pt lv a := fun a h h' => by rw [naT_r h h', if_pos rfl]
  have y : ∀ a, 164 ≤ a ∧ a < 180 ∧ a ≠ 174 → a ≠ 171 ∧ a ≠ 172 ∧ a ≠ 173 → (mnT t N un b m0 key (nI k) ow pt lo).1 a N = mnV (nI k) (nI un) (nI (b - 1)) ow pt (nI m0) a := fun a h h' => by rw [mnT_r h h', if_pos rfl]
  exact ⟨⟨x 19 (by decide) (by decide), y 165 (by decide) (by decide)⟩, y 164 (by decide) (by decide), ⟨x 20 (by decide) (by decide), y 166 (by decide) (by decide)⟩, ⟨x 21 (by decide) (by decide), y 167 (by decide) (by decide)⟩, by rw [x 22 (by decide) (by decide), y 168 (by decide) (by decide)]; exact hlv.symm, ⟨x 35 (by decide) (by decide), y 175 (by decide) (by decide)⟩, ⟨x 25 (by decide) (by decide), x 26 (by decide) (by decide)⟩, ⟨y 176 (by decide) (by decide), y 177 (by decide) (by decide), y 178 (by decide) (by decide), y 179 (by decide) (by decide)⟩, hm⟩
theorem wkX_naT : wkX s (naT s N key (nI un) pa pt lv lo) := ⟨fun a _ _ _ h => by
  by_cases z : a = 11
  · omega
  · exact naT_o z (by omega), fun j _ _ _ => by rw [naT_o (by decide) (by decide)], ⟨fun j _ => by rw [naT_o (by decide) (by decide)], fun j h => by rw [naT_11, if_neg h]⟩, fun j _ _ _ _ => by rw [naT_o (by decide) (by decide)], fun _ _ _ _ => rfl, rfl⟩
end NWL

