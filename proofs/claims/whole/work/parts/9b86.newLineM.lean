/-! THE READER: a new line on both sides: the model's; the tree of both. -/
section NLM
variable {en : pN} {d k b N nt m c p j l key un : Nat} {K th : Nat → Nat} {bl : Nat → List Nat} {s s' t t' : qS} {u pa pt lv ow kk v la : Int32} {r : qR} {nn : Int32} {f f' : fI} {H H' : Nat → Int32} {lo : Option Nat}
theorem uJ_1 {σ : qS} {a k : Nat} {v : Int64} : (uJ σ a k v).1 = σ.1 := rfl
theorem rdW {σ : qS} {a k : Nat} {v : Int32} : (uI σ a k v).1 a k = v := by rw [rdU, if_pos ⟨rfl, rfl⟩]
/-- the state behind the model's new line -/
noncomputable def mnT (t : qS) (N un b m key : Nat) (kk ow pt : Int32) (lo : Option Nat) : qS := uI (uI (uI (mnS t N kk (nI un) (nI (b - 1)) ow pt (nI m)) (lkA 181 171 172 173 key lo).1 (lkA 181 171 172 173 key lo).2 (nI N)) 186 (b - 1) (nI N)) 151 32 (nI (N + 1))
theorem mnS_1 {a : Nat} (h : a < 164 ∨ 180 ≤ a) : (mnS t N kk u lv ow pt v).1 a = t.1 a := by
  funext j
  show (if 164 ≤ a ∧ a < 180 ∧ a ≠ 174 ∧ j = N then _ else _) = _
  rw [if_neg (by omega)]
theorem mnS_j {a : Nat} (h : j ≠ N) : (mnS t N kk u lv ow pt v).1 a j = t.1 a j := by
  show (if 164 ≤ a ∧ a < 180 ∧ a ≠ 174 ∧ j = N then _ else _) = _
  rw [if_neg (by omega)]
theorem mnS_N {a : Nat} (h : 164 ≤ a ∧ a < 180 ∧ a ≠ 174) : (mnS t N kk u lv ow pt v).1 a N = mnV kk u lv ow pt v a := by
  show (if 164 ≤ a ∧ a < 180 ∧ a ≠ 174 ∧ N = N then _ else _) = _
  rw [if_pos ⟨h.1, h.2.1, h.2.2, rfl⟩]
theorem m_newLine (hN : N < 100) (h32 : t.1 151 32 = nI N) (h18 : t.1 151 18 = nI (un + 1)) (hu : un < 4) (h56 : t.1 151 56 = nI b) (hb : 1 ≤ b ∧ b ≤ 12) (h25 : t.1 151 25 = nI m) (h184 : t.1 184 (b - 1) = ow) (h185 : t.1 185 (b - 1) = pt) (h186 : t.1 186 (b - 1) = la) (hlo : ∀ l, lo = some l → la = nI l ∧ l < 100) (hln : lo = none → la = -2) (hk : (key < 4 ∧ ow = -2 ∧ key = un) ∨ (∃ p b : Nat, p < 100 ∧ b < 2 ∧ key = 4 + 2 * p + b ∧ ow = nI p ∧ pt = nI b)) : qev en (d + 1) 275 [.ref 151, .int kk] t = some (some (.int (nI N)), mnT t N un b m key kk ow pt lo) := by
  have e56 : nI b - (1 : Int32) = nI (b - 1) := n_sr (by omega)
  have e18 : nI (un + 1) - (1 : Int32) = nI un := by rw [show nI (un + 1) - (1 : Int32) = nI (un + 1 - 1) from n_sr (by omega), Nat.add_sub_cancel]
  refine le_X12_newLine en _ _ _ _ ?_
  rw [h32, gd_in (by omega) (by decide), n_cl (show N < 2 ^ 31 by omega)]
  simp (disch := decide) only [nm_eq, uI_ne, uJ_1, h18, e18, h56, e56]
  rw [gd_in (show b - 1 < 12 by omega) (by decide), n_cl (show b - 1 < 2 ^ 31 by omega), h184, gd_in (show b - 1 < 12 by omega) (by decide), h185, h25, gd_in (show N < 100 by omega) (by decide), gd_in (show b - 1 < 12 by omega) (by decide), h186]
  have eS : ∀ x : qS, x = uJ (uJ (uI (uI (uI (uI (uI (uI (uI (uI (uI (uI (uI (uI (uI (uI (uI t 164 N kk) 165 N (nI un)) 166 N (-2)) 167 N (-2)) 168 N (nI (b - 1))) 169 N ow) 170 N pt) 171 N (-2)) 172 N (-2)) 173 N (-2)) 175 N (vp_nar .boolean 0)) 176 N (nI m)) 177 N (nI m)) 178 N (nI m)) 179 N (nI m)) 180 N 0) 182 N 0 → x = mnS t N kk (nI un) (nI (b - 1)) ow pt (nI m) := by
    intro x hx
    rw [hx]
    refine Prod.ext (funext fun a => funext fun j => ?_) (Prod.ext (funext fun a => funext fun j => ?_) rfl)
    · show (uI (uI (uI (uI (uI (uI (uI (uI (uI (uI (uI (uI (uI (uI (uI t 164 N kk) 165 N (nI un)) 166 N (-2)) 167 N (-2)) 168 N (nI (b - 1))) 169 N ow) 170 N pt) 171 N (-2)) 172 N (-2)) 173 N (-2)) 175 N (vp_nar .boolean 0)) 176 N (nI m)) 177 N (nI m)) 178 N (nI m)) 179 N (nI m)).1 a j = _
      simp only [rdU]
      by_cases hj : j = N
      · subst hj
        by_cases g : 164 ≤ a ∧ a < 180 ∧ a ≠ 174
        · rw [mnS_N g]
          have : a = 164 ∨ a = 165 ∨ a = 166 ∨ a = 167 ∨ a = 168 ∨ a = 169 ∨ a = 170 ∨ a = 171 ∨ a = 172 ∨ a = 173 ∨ a = 175 ∨ a = 176 ∨ a = 177 ∨ a = 178 ∨ a = 179 := by omega
          have e0 : vp_nar .boolean 0 = (0 : Int32) := by decide
          rcases this with rfl | rfl | rfl | rfl | rfl | rfl | rfl | rfl | rfl | rfl | rfl | rfl | rfl | rfl | rfl <;> simp [mnV, e0]
        · show _ = (if 164 ≤ a ∧ a < 180 ∧ a ≠ 174 ∧ j = j then _ else _)
          have gg : ¬ (164 ≤ a ∧ a < 180 ∧ a ≠ 174 ∧ j = j) := fun z => g ⟨z.1, z.2.1, z.2.2.1⟩
          rw [if_neg gg]
          repeat rw [if_neg (by omega)]
      · rw [mnS_j hj]
        repeat rw [if_neg (fun z => hj z.2)]
    · show (if a = 182 ∧ j = N then (0 : Int64) else if a = 180 ∧ j = N then 0 else t.2.1 a j) = if (a = 180 ∨ a = 182) ∧ j = N then 0 else t.2.1 a j
      by_cases g1 : a = 182 ∧ j = N
      · rw [if_pos g1, if_pos ⟨Or.inr g1.1, g1.2⟩]
      · rw [if_neg g1]
        by_cases g2 : a = 180 ∧ j = N
        · rw [if_pos g2, if_pos ⟨Or.inl g2.1, g2.2⟩]
        · rw [if_neg g2, if_neg (fun z => z.1.elim (fun y => g2 ⟨y, z.2⟩) (fun y => g1 ⟨y, z.2⟩))]
  rw [eS _ rfl]
  simp only [rdW]
  have f261 : ∀ q : Nat × Nat, (q.1 = 171 ∨ q.1 = 172 ∨ q.1 = 173 ∨ q.1 = 181) → L_X12_newLine_261 en d (nI N) (uI (mnS t N kk (nI un) (nI (b - 1)) ow pt (nI m)) q.1 q.2 (nI N)) = some (some (.int (nI N)), uI (uI (uI (mnS t N kk (nI un) (nI (b - 1)) ow pt (nI m)) q.1 q.2 (nI N)) 186 (b - 1) (nI N)) 151 32 (nI (N + 1))) := fun q hq => by
    refine le_X12_newLine_261 en _ _ _ _ ?_
    have a1 : (uI (mnS t N kk (nI un) (nI (b - 1)) ow pt (nI m)) q.1 q.2 (nI N)).1 151 = t.1 151 := by rw [uI_ne (by omega), mnS_1 (by omega)]
    rw [a1, h56, e56, gd_in (show b - 1 < 12 by omega) (by decide), n_cl (show b - 1 < 2 ^ 31 by omega), nm_eq, uI_ne (show 151 ≠ 186 by decide), a1, h32, show nI N + (1 : Int32) = nI (N + 1) from n_ar, nm_eq]
  unfold mnT
  cases lo with
  | some l =>
    obtain ⟨g1, g2⟩ := hlo l rfl
    have g3 : ¬ la = -2 := by rw [g1]; exact fun z => (n_m2 (by omega)).mp z
    rw [if_neg g3, g1, gd_in (show l < 400 by omega) (by decide), n_cl (show l < 2 ^ 31 by omega)]
    exact f261 (171, l) (Or.inl rfl)
  | none =>
    rw [if_pos (hln rfl)]
    rcases hk with ⟨k1, k2, k3⟩ | ⟨p, c, k1, k2, k3, k4, k5⟩
    · rw [if_neg (not_not_intro k2), gd_in (show un < 16 by omega) (by decide), n_cl (show un < 2 ^ 31 by omega)]
      have eA : lkA 181 171 172 173 key none = (181, un) := by
        unfold lkA
        dsimp only
        rw [if_pos k1, k3]
      rw [eA]
      exact f261 (181, un) (Or.inr (Or.inr (Or.inr rfl)))
    · have g3 : ¬ ow = -2 := by rw [k4]; exact fun z => (n_m2 (by omega)).mp z
      have eA : ∀ z : Nat, z = (if c = 0 then 172 else 173) → lkA 181 171 172 173 key none = (z, p) := fun z hz => by
        unfold lkA
        dsimp only
        rw [if_neg (show ¬ key < 4 by omega), show (key - 4) / 2 = p by omega, hz]
        by_cases hb : c = 0
        · rw [if_pos (show (key - 4) % 2 = 0 by omega), if_pos hb]
        · rw [if_neg (show ¬ (key - 4) % 2 = 0 by omega), if_neg hb]
      rw [if_pos g3, k4, n_cl (show p < 2 ^ 31 by omega), k5]
      by_cases hb : c = 0
      · rw [eA 172 (by rw [if_pos hb]), if_neg (by rw [hb]; exact not_not_intro rfl), gd_in (show p < 400 by omega) (by decide)]
        have := f261 (172, p) (Or.inr (Or.inl rfl))
        rw [k4, k5] at this
        exact this
      · rw [eA 173 (by rw [if_neg hb]), if_pos (by rw [n_eq (by decide) (by omega)]; exact hb), gd_in (show p < 400 by omega) (by decide)]
        have := f261 (173, p) (Or.inr (Or.inr (Or.inl rfl)))
        rw [k4, k5] at this
        exact this
/-- what the class's new line changes -/
theorem hdK_at {a16 a31 a32 b16 b31 b32 : fI} (h1 : k < 4 → b16 k = a16 k) (h2 : ∀ p, k = 4 + 2 * p → b31 p = a31 p) (h3 : ∀ p, k = 5 + 2 * p → b32 p = a32 p) : hdK b16 b31 b32 k = hdK a16 a31 a32 k := by
  unfold hdK
  by_cases g : k < 4
  · rw [if_pos g, if_pos g]; exact h1 g
  · rw [if_neg g, if_neg g]
    by_cases g2 : (k - 4) % 2 = 0
    · rw [if_pos g2, if_pos g2]; exact h2 _ (by omega)
    · rw [if_neg g2, if_neg g2]; exact h3 _ (by omega)
/-- the tree with one more line -/
theorem G_add (hG : lnG s t nt N K th bl) (hN : N < 100) (hun : un < nt) (hnt : nt ≤ 4) (hkey : kyV nt N key) (hlo : lo = (bl key).getLast?) (hk : (key < 4 ∧ pa = -1 ∧ ow = -2 ∧ key = un) ∨ (∃ p c : Nat, p < N ∧ c < 2 ∧ key = 4 + 2 * p + c ∧ pa = nI p ∧ ow = nI p ∧ pt = nI c ∧ th p = un)) :
    lnG (uI (naS s N (nI un) pa pt v) (lkA 16 28 31 32 key lo).1 (lkA 16 28 31 32 key lo).2 (nI N)) (mnT t N un b m key kk ow pt lo) nt (N + 1) (at1 K N key) (at1 th N un) (at1 bl key (bl key ++ [N])) := by
  obtain ⟨h1, h3, h4, h5, h6⟩ := hG
  have hmem : ∀ l, lo = some l → l ∈ bl key := fun l hl => List.mem_of_getLast? (hlo ▸ hl)
  have hlt : ∀ l, lo = some l → l < N ∧ K l = key := fun l hl => h3 key l (hmem l hl)
  have hno : ∀ k, N ≤ (k - 4) / 2 → 4 ≤ k → bl k = [] := fun k hk1 hk2 => by
    cases hb : bl k with
    | nil => rfl
    | cons a L =>
      exfalso
      obtain ⟨a1, a2⟩ := h3 k a (by rw [hb]; exact List.mem_cons_self)
      obtain ⟨⟨g1, -⟩, g2⟩ := h6 a a1
      rcases g2 with ⟨g2, -⟩ | ⟨p, c, g2, g3, g4, -⟩ <;> omega
  have hloN : lo = none ↔ bl key = [] := by rw [hlo, List.getLast?_eq_none_iff]
  -- where the link is, on either side
  have lk : ∀ (r16 r28 r31 r32 : Nat) (f28 f16 f31 f32 g28 g16 g31 g32 : fI) (nn : Int32), (∀ k, kyV nt N k → lkd f28 nn (hdK f16 f31 f32 k) (bl k)) → r16 ≠ r28 → r28 ≠ r31 → r28 ≠ r32 → r16 ≠ r31 → r16 ≠ r32 → r31 ≠ r32 → (∀ j, g28 j = if (lkA r16 r28 r31 r32 key lo) = (r28, j) then nI N else if j = N then nn else f28 j) → (∀ j, g16 j = if (lkA r16 r28 r31 r32 key lo) = (r16, j) then nI N else f16 j) → (∀ j, g31 j = if (lkA r16 r28 r31 r32 key lo) = (r31, j) then nI N else if j = N then nn else f31 j) → (∀ j, g32 j = if (lkA r16 r28 r31 r32 key lo) = (r32, j) then nI N else if j = N then nn else f32 j) → ∀ k, kyV nt (N + 1) k → lkd g28 nn (hdK g16 g31 g32 k) (at1 bl key (bl key ++ [N]) k) := by
    clear hk
    intro r16 r28 r31 r32 f28 f16 f31 f32 g28 g16 g31 g32 nn hh n1 n2 n3 n4 n5 n6 e28 e16 e31 e32
    refine lk_add (N := N) (nt := nt) (K := K) hh h3 h5 ?_ ?_ ?_ ?_ ?_ ?_ hkey
    · rw [e28]
      by_cases z : lkA r16 r28 r31 r32 key lo = (r28, N)
      · exfalso
        unfold lkA at z
        cases hl : lo with
        | some l =>
          rw [hl] at z
          have := (hlt l hl).1
          have z2 := (Prod.mk.inj z).2
          omega
        | none =>
          rw [hl] at z
          dsimp only at z
          split at z
          · exact n1 (Prod.mk.inj z).1
          · split at z
            · exact n2 (Prod.mk.inj z).1.symm
            · exact n3 (Prod.mk.inj z).1.symm
      · rw [if_neg z, if_pos rfl]
    · intro a ha hne
      rw [e28, if_neg, if_neg (by omega)]
      intro z
      unfold lkA at z
      cases hl : lo with
      | some l =>
        rw [hl] at z
        have z2 := (Prod.mk.inj z).2
        exact hne (by rw [← hlo, hl, z2])
      | none =>
        rw [hl] at z
        dsimp only at z
        split at z
        · exact n1 (Prod.mk.inj z).1
        · split at z
          · exact n2 (Prod.mk.inj z).1.symm
          · exact n3 (Prod.mk.inj z).1.symm
    · intro l hl
      rw [e28, if_pos]
      unfold lkA
      rw [hlo, hl]
    · intro k hk hne
      refine hdK_at (fun hk4 => ?_) (fun p hp => ?_) (fun p hp => ?_)
      · rw [e16, if_neg]
        intro z
        unfold lkA at z
        cases hl : lo with
        | some l => rw [hl] at z; exact n1 (Prod.mk.inj z).1.symm
        | none =>
          rw [hl] at z
          dsimp only at z
          split at z
          · exact hne ⟨(Prod.mk.inj z).2.symm, hloN.mp hl⟩
          · split at z
            · exact n4 (Prod.mk.inj z).1.symm
            · exact n5 (Prod.mk.inj z).1.symm
      · rw [e31, if_neg, if_neg (by unfold kyV at hk; omega)]
        intro z
        unfold lkA at z
        cases hl : lo with
        | some l => rw [hl] at z; exact n2 (Prod.mk.inj z).1
        | none =>
          rw [hl] at z
          dsimp only at z
          split at z
          · exact n4 (Prod.mk.inj z).1
          · split at z
            · have z2 := (Prod.mk.inj z).2
              exact hne ⟨by omega, hloN.mp hl⟩
            · exact n6 (Prod.mk.inj z).1.symm
      · rw [e32, if_neg, if_neg (by unfold kyV at hk; omega)]
        intro z
        unfold lkA at z
        cases hl : lo with
        | some l => rw [hl] at z; exact n3 (Prod.mk.inj z).1
        | none =>
          rw [hl] at z
          dsimp only at z
          split at z
          · exact n5 (Prod.mk.inj z).1
          · split at z
            · exact n6 (Prod.mk.inj z).1
            · have z2 := (Prod.mk.inj z).2
              exact hne ⟨by omega, hloN.mp hl⟩
    · intro h0
      have hl : lo = none := hloN.mpr h0
      unfold hdK
      by_cases g : key < 4
      · rw [if_pos g, e16, if_pos]
        unfold lkA
        rw [hl]
        dsimp only
        rw [if_pos g]
      · rw [if_neg g]
        by_cases g2 : (key - 4) % 2 = 0
        · rw [if_pos g2, e31, if_pos]
          unfold lkA
          rw [hl]
          dsimp only
          rw [if_neg g, if_pos g2]
        · rw [if_neg g2, e32, if_pos]
          unfold lkA
          rw [hl]
          dsimp only
          rw [if_neg g, if_neg g2]
    · intro k hk
      have hb : bl k = [] := hno k (by omega) (by omega)
      have hkk : k ≠ key := by unfold kyV at hkey; omega
      refine ⟨?_, hb, hkk⟩
      unfold hdK
      rw [if_neg (by omega)]
      rcases hk with rfl | rfl
      · rw [if_pos (by omega), e31, if_neg, if_pos (by omega)]
        intro z
        unfold lkA at z
        cases hl : lo with
        | some l => rw [hl] at z; exact n2 (Prod.mk.inj z).1
        | none =>
          rw [hl] at z
          dsimp only at z
          split at z
          · exact n4 (Prod.mk.inj z).1
          · split at z
            · have z2 := (Prod.mk.inj z).2
              omega
            · exact n6 (Prod.mk.inj z).1.symm
      · rw [if_neg (by omega), e32, if_neg, if_pos (by omega)]
        intro z
        unfold lkA at z
        cases hl : lo with
        | some l => rw [hl] at z; exact n3 (Prod.mk.inj z).1
        | none =>
          rw [hl] at z
          dsimp only at z
          split at z
          · exact n5 (Prod.mk.inj z).1
          · split at z
            · exact n6 (Prod.mk.inj z).1
            · have z2 := (Prod.mk.inj z).2
              omega
  have hq1 : (lkA 16 28 31 32 key lo).1 = 16 ∨ (lkA 16 28 31 32 key lo).1 = 28 ∨ (lkA 16 28 31 32 key lo).1 = 31 ∨ (lkA 16 28 31 32 key lo).1 = 32 := by
    unfold lkA
    cases lo with
    | some l => exact Or.inr (Or.inl rfl)
    | none =>
      dsimp only
      split
      · exact Or.inl rfl
      · split
        · exact Or.inr (Or.inr (Or.inl rfl))
        · exact Or.inr (Or.inr (Or.inr rfl))
  have hq2 : (lkA 181 171 172 173 key lo).1 = 181 ∨ (lkA 181 171 172 173 key lo).1 = 171 ∨ (lkA 181 171 172 173 key lo).1 = 172 ∨ (lkA 181 171 172 173 key lo).1 = 173 := by
    unfold lkA
    cases lo with
    | some l => exact Or.inr (Or.inl rfl)
    | none =>
      dsimp only
      split
      · exact Or.inl rfl
      · split
        · exact Or.inr (Or.inr (Or.inl rfl))
        · exact Or.inr (Or.inr (Or.inr rfl))
  have pr : ∀ (q : Nat × Nat) (a j : Nat), (a = q.1 ∧ j = q.2) ↔ q = (a, j) := fun q a j => ⟨fun z => Prod.ext z.1.symm z.2.symm, fun z => by rw [z]; exact ⟨rfl, rfl⟩⟩
  have x1 : ∀ a j, a = 28 ∨ a = 31 ∨ a = 32 → (uI (naS s N (nI un) pa pt v) (lkA 16 28 31 32 key lo).1 (lkA 16 28 31 32 key lo).2 (nI N)).1 a j = if lkA 16 28 31 32 key lo = (a, j) then nI N else if j = N then -1 else s.1 a j := fun a j ha => by
    rw [rdU]
    by_cases z : lkA 16 28 31 32 key lo = (a, j)
    · rw [if_pos z, if_pos ((pr _ a j).mpr z)]
    · rw [if_neg z, if_neg (fun y => z ((pr _ a j).mp y))]
      show (if a = 11 ∧ j = 12 then nI (N + 1) else if 18 ≤ a ∧ a < 36 ∧ j = N then naV (nI un) pa pt v a else s.1 a j) = _
      rw [if_neg (by omega)]
      by_cases zj : j = N
      · rw [if_pos zj, if_pos ⟨by omega, by omega, zj⟩]
        rcases ha with rfl | rfl | rfl <;> rfl
      · rw [if_neg zj, if_neg (fun y => zj y.2.2)]
  have x2 : ∀ j, (uI (naS s N (nI un) pa pt v) (lkA 16 28 31 32 key lo).1 (lkA 16 28 31 32 key lo).2 (nI N)).1 16 j = if lkA 16 28 31 32 key lo = (16, j) then nI N else s.1 16 j := fun j => by
    rw [rdU]
    by_cases z : lkA 16 28 31 32 key lo = (16, j)
    · rw [if_pos z, if_pos ((pr _ 16 j).mpr z)]
    · rw [if_neg z, if_neg (fun y => z ((pr _ 16 j).mp y))]
      show (if 16 = 11 ∧ j = 12 then nI (N + 1) else if 18 ≤ 16 ∧ 16 < 36 ∧ j = N then naV (nI un) pa pt v 16 else s.1 16 j) = _
      rw [if_neg (by omega), if_neg (by omega)]
  have x3 : ∀ a j, a = 19 ∨ a = 29 ∨ a = 30 → (uI (naS s N (nI un) pa pt v) (lkA 16 28 31 32 key lo).1 (lkA 16 28 31 32 key lo).2 (nI N)).1 a j = if j = N then naV (nI un) pa pt v a else s.1 a j := fun a j ha => by
    rw [uI_ne (by omega)]
    show (if a = 11 ∧ j = 12 then nI (N + 1) else if 18 ≤ a ∧ a < 36 ∧ j = N then naV (nI un) pa pt v a else s.1 a j) = _
    rw [if_neg (by omega)]
    by_cases zj : j = N
    · rw [if_pos zj, if_pos ⟨by omega, by omega, zj⟩]
    · rw [if_neg zj, if_neg (fun y => zj y.2.2)]
  have y1 : ∀ a j, a = 171 ∨ a = 172 ∨ a = 173 → (mnT t N un b m key kk ow pt lo).1 a j = if lkA 181 171 172 173 key lo = (a, j) then nI N else if j = N then -2 else t.1 a j := fun a j ha => by
    unfold mnT
    rw [uI_ne (by omega), uI_ne (by omega), rdU]
    by_cases z : lkA 181 171 172 173 key lo = (a, j)
    · rw [if_pos z, if_pos ((pr _ a j).mpr z)]
    · rw [if_neg z, if_neg (fun y => z ((pr _ a j).mp y))]
      by_cases zj : j = N
      · rw [if_pos zj, zj, mnS_N (by omega)]
        rcases ha with rfl | rfl | rfl <;> rfl
      · rw [if_neg zj, mnS_j zj]
  have y2 : ∀ j, (mnT t N un b m key kk ow pt lo).1 181 j = if lkA 181 171 172 173 key lo = (181, j) then nI N else t.1 181 j := fun j => by
    unfold mnT
    rw [uI_ne (by decide), uI_ne (by decide), rdU]
    by_cases z : lkA 181 171 172 173 key lo = (181, j)
    · rw [if_pos z, if_pos ((pr _ 181 j).mpr z)]
    · rw [if_neg z, if_neg (fun y => z ((pr _ 181 j).mp y)), mnS_1 (by omega)]
  have y3 : ∀ a j, a = 169 ∨ a = 170 → (mnT t N un b m key kk ow pt lo).1 a j = if j = N then mnV kk (nI un) (nI (b - 1)) ow pt (nI m) a else t.1 a j := fun a j ha => by
    unfold mnT
    rw [uI_ne (by omega), uI_ne (by omega), uI_ne (by omega)]
    by_cases zj : j = N
    · rw [if_pos zj, zj, mnS_N (by omega)]
    · rw [if_neg zj, mnS_j zj]
  refine ⟨fun k hk' => ⟨lk 16 28 31 32 (s.1 28) (s.1 16) (s.1 31) (s.1 32) _ _ _ _ (-1) (fun k hk => (h1 k hk).1) (by decide) (by decide) (by decide) (by decide) (by decide) (by decide) (fun j => x1 28 j (by decide)) x2 (fun j => x1 31 j (by decide)) (fun j => x1 32 j (by decide)) k hk', lk 181 171 172 173 (t.1 171) (t.1 181) (t.1 172) (t.1 173) _ _ _ _ (-2) (fun k hk => (h1 k hk).2) (by decide) (by decide) (by decide) (by decide) (by decide) (by decide) (fun j => y1 171 j (by decide)) y2 (fun j => y1 172 j (by decide)) (fun j => y1 173 j (by decide)) k hk'⟩, fun k i hi => ?_, fun i hi => ?_, fun k => ?_, fun i hi => ?_⟩
  · by_cases g : k = key
    · rw [g, at1_s] at hi
      rcases List.mem_append.mp hi with hi | hi
      · obtain ⟨g1, g2⟩ := h3 key i hi
        exact ⟨by omega, by rw [at1_n (by omega), g, g2]⟩
      · have : i = N := List.mem_singleton.mp hi
        rw [this, at1_s, g]
        exact ⟨by omega, rfl⟩
    · rw [at1_n g] at hi
      obtain ⟨g1, g2⟩ := h3 k i hi
      exact ⟨by omega, by rw [at1_n (by omega)]; exact g2⟩
  · by_cases g : i = N
    · rw [g, at1_s, at1_s]
      exact List.mem_append.mpr (Or.inr (List.mem_singleton.mpr rfl))
    · rw [at1_n g]
      have := h4 i (by omega)
      by_cases g2 : K i = key
      · rw [g2, at1_s]
        rw [g2] at this
        exact List.mem_append.mpr (Or.inl this)
      · rw [at1_n g2]; exact this
  · by_cases g : k = key
    · rw [g, at1_s]
      refine List.nodup_append.mpr ⟨h5 key, by simp, fun a ha c hc => ?_⟩
      have := (h3 key a ha).1
      have := List.mem_singleton.mp hc
      omega
    · rw [at1_n g]; exact h5 k
  · rw [x3 19 i (by decide), x3 29 i (by decide), x3 30 i (by decide), y3 169 i (by decide), y3 170 i (by decide)]
    by_cases g : i = N
    · simp only [if_pos g]
      rw [g, at1_s, at1_s]
      refine ⟨⟨hun, rfl⟩, ?_⟩
      rcases hk with ⟨k1, k2, k3, k4⟩ | ⟨p, c, k1, k2, k3, k4, k5, k6, k7⟩
      · exact Or.inl ⟨k4, k2, k3⟩
      · exact Or.inr ⟨p, c, k1, k2, k3, k4, k5, by rw [at1_n (by omega)]; exact k7, k6, k6⟩
    · simp only [if_neg g]
      rw [at1_n g, at1_n g]
      obtain ⟨g1, g2⟩ := h6 i (by omega)
      refine ⟨g1, ?_⟩
      rcases g2 with g2 | ⟨p, c, k1, k2, k3, k4, k5, k6, k7, k8⟩
      · exact Or.inl g2
      · exact Or.inr ⟨p, c, k1, k2, k3, k4, k5, by rw [at1_n (by omega)]; exact k6, k7, k8⟩
end NLM
