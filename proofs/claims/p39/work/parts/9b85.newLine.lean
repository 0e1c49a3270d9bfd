/-! THE READER: a new line on both sides. -/
/-- the class's new line -/
def naV (u pa pt lv : Int32) (a : Nat) : Int32 := if a = 19 then u else if a = 20 then -2 else if a = 21 then -2 else if a = 22 then lv else if a = 28 then -1 else if a = 29 then pa else if a = 30 then pt else if a = 31 then -1 else if a = 32 then -1 else 0
def naS (s : qS) (N : Nat) (u pa pt lv : Int32) : qS := (fun a j => if a = 11 ∧ j = 12 then nI (N + 1) else if 18 ≤ a ∧ a < 36 ∧ j = N then naV u pa pt lv a else s.1 a j, s.2)
def naW (s : qS) (N v : Nat) : qS := (fun a j => if 18 ≤ a ∧ a < 18 + v ∧ j = N then 0 else s.1 a j, s.2)
/-- the model's new line -/
def mnV (k u lv ow pt m : Int32) (a : Nat) : Int32 := if a = 164 then k else if a = 165 then u else if a = 168 then lv else if a = 169 then ow else if a = 170 then pt else if a = 175 then 0 else if 176 ≤ a then m else -2
def mnS (t : qS) (N : Nat) (k u lv ow pt m : Int32) : qS := (fun a j => if 164 ≤ a ∧ a < 180 ∧ a ≠ 174 ∧ j = N then mnV k u lv ow pt m a else t.1 a j, fun a j => if (a = 180 ∨ a = 182) ∧ j = N then 0 else t.2.1 a j, t.2.2)
section NLN
variable {en : pN} {d k b N nt m c p j l key : Nat} {K th : Nat → Nat} {bl : Nat → List Nat} {s s' t t' : qS} {u pa pt lv ow kk v : Int32} {r : qR} {nn : Int32} {f f' : fI} {H H' : Nat → Int32}
theorem naW_step {v : Nat} : uI (naW s N v) (18 + v) N 0 = naW s N (v + 1) := by
  refine Prod.ext (funext fun a => funext fun j => ?_) rfl
  show (if a = 18 + v ∧ j = N then (0 : Int32) else if 18 ≤ a ∧ a < 18 + v ∧ j = N then 0 else s.1 a j) = if 18 ≤ a ∧ a < 18 + (v + 1) ∧ j = N then 0 else s.1 a j
  by_cases h1 : a = 18 + v ∧ j = N
  · rw [if_pos h1, if_pos ⟨by omega, by omega, h1.2⟩]
  · rw [if_neg h1]
    by_cases h2 : 18 ≤ a ∧ a < 18 + v ∧ j = N
    · rw [if_pos h2, if_pos ⟨h2.1, by omega, h2.2.2⟩]
    · rw [if_neg h2, if_neg (by omega)]
theorem x_addLoop (hN : N < 100) : ∀ (m v : Nat), v + m = 18 → ∀ r, L_X5_addLine_19 en d 11 u pa pt lv (nI N) (nI 18) (naW s N 18) = some r → L_X5_addLine_19 en d 11 u pa pt lv (nI N) (nI v) (naW s N v) = some r := by
  intro m
  induction m with
  | zero => intro v hv r hr; rw [show v = 18 by omega]; exact hr
  | succ m ih =>
    intro v hv r hr
    refine le_X5_addLine_19 en _ _ _ _ _ _ _ _ _ _ ?_
    have e11 : lc 11 = 5 := rfl
    rw [gd_true e11, if_neg (by rw [n_le (by decide) (by omega)]; omega), gd_in (by omega) (by decide), gd_in (by omega) (by decide), n_cl (by omega), n_cl (by omega), nm_eq, show 11 + 7 + v = 18 + v by omega, naW_step, show nI v + (1 : Int32) = nI (v + 1) from n_ar]
    exact ih (v + 1) (by omega) r hr
theorem x_addLine (hN : N < 100) (h12 : s.1 11 12 = nI N) : qev en (d + 1) 99 [.ref 11, .int u, .int pa, .int pt, .int lv] s = some (some (.int (nI N)), naS s N u pa pt lv) := by
  refine le_X5_addLine en _ _ _ _ _ _ _ _ ?_
  have e11 : lc 11 = 5 := rfl
  rw [gd_true e11, h12, show nI N + (1 : Int32) = nI (N + 1) from n_ar, nm_eq]
  have e0 : naW (uI s 11 12 (nI (N + 1))) N 0 = uI s 11 12 (nI (N + 1)) := by
    refine Prod.ext (funext fun a => funext fun j => ?_) rfl
    exact if_neg (by omega)
  rw [← e0]
  refine x_addLoop hN 18 0 rfl _ ?_
  refine le_X5_addLine_19 en _ _ _ _ _ _ _ _ _ _ ?_
  rw [gd_true e11, if_pos (by decide), gd_in (by omega) (by decide), n_cl (by omega)]
  simp only [nm_eq]
  congr 1
  refine Prod.ext rfl (Prod.ext (funext fun a => funext fun j => ?_) rfl)
  show (uI (uI (uI (uI (uI (uI (uI (uI (uI (naW (uI s 11 12 (nI (N + 1))) N 18) 19 N u) 20 N (-2)) 21 N (-2)) 22 N lv) 28 N (-1)) 29 N pa) 30 N pt) 31 N (-1)) 32 N (-1)).1 a j = _
  simp only [rdU]
  unfold naW naS naV
  dsimp only
  simp only [rdU]
  by_cases hj : j = N
  · subst hj
    by_cases g1 : a = 32
    · subst g1; simp
    by_cases g2 : a = 31
    · subst g2; simp
    by_cases g3 : a = 30
    · subst g3; simp
    by_cases g4 : a = 29
    · subst g4; simp
    by_cases g5 : a = 28
    · subst g5; simp
    by_cases g6 : a = 22
    · subst g6; simp
    by_cases g7 : a = 21
    · subst g7; simp
    by_cases g8 : a = 20
    · subst g8; simp
    by_cases g9 : a = 19
    · subst g9; simp
    rw [if_neg (fun z => g1 z.1), if_neg (fun z => g2 z.1), if_neg (fun z => g3 z.1), if_neg (fun z => g4 z.1), if_neg (fun z => g5 z.1), if_neg (fun z => g6 z.1), if_neg (fun z => g7 z.1), if_neg (fun z => g8 z.1), if_neg (fun z => g9 z.1), if_neg g9, if_neg g8, if_neg g7, if_neg g6, if_neg g5, if_neg g4, if_neg g3, if_neg g2, if_neg g1]
    by_cases g10 : 18 ≤ a ∧ a < 36
    · rw [if_pos ⟨g10.1, g10.2, rfl⟩, if_neg (by omega), if_pos ⟨g10.1, g10.2, rfl⟩]
    · rw [if_neg (fun z => g10 ⟨z.1, z.2.1⟩)]
      by_cases g11 : a = 11 ∧ j = 12
      · rw [if_pos g11, if_pos g11]
      · rw [if_neg g11, if_neg g11, if_neg (fun z => g10 ⟨z.1, z.2.1⟩)]
  · rw [if_neg (fun z => hj z.2), if_neg (fun z => hj z.2), if_neg (fun z => hj z.2), if_neg (fun z => hj z.2), if_neg (fun z => hj z.2), if_neg (fun z => hj z.2), if_neg (fun z => hj z.2), if_neg (fun z => hj z.2), if_neg (fun z => hj z.2), if_neg (fun z => hj z.2.2)]
    by_cases g11 : a = 11 ∧ j = 12
    · rw [if_pos g11, if_pos g11]
    · rw [if_neg g11, if_neg g11, if_neg (fun z => hj z.2.2)]
/-- where a block's next line is told of: behind its last one l, or at its head -/
def lkA (q16 q28 q31 q32 key : Nat) (lo : Option Nat) : Nat × Nat := match lo with
  | some l => (q28, l)
  | none => if key < 4 then (q16, key) else if (key - 4) % 2 = 0 then (q31, (key - 4) / 2) else (q32, (key - 4) / 2)
/-- the class links its new line -/
theorem x_link {lo : Option Nat} {la : Int32} (hN : N < 100) (hlo : ∀ l, lo = some l → la = nI l ∧ l < 100) (hln : lo = none → la = -1) (hk : (key < 4 ∧ s.1 29 N = -1 ∧ s.1 19 N = nI key) ∨ (∃ p b : Nat, p < 100 ∧ b < 2 ∧ key = 4 + 2 * p + b ∧ s.1 29 N = nI p ∧ s.1 30 N = nI b)) : qev en (d + 1) 100 [.ref 11, .int la, .int (nI N)] s = some (none, uI s (lkA 16 28 31 32 key lo).1 (lkA 16 28 31 32 key lo).2 (nI N)) := by
  have e11 : lc 11 = 5 := rfl
  refine le_X5_link en _ _ _ _ _ _ ?_
  cases lo with
  | some l =>
    obtain ⟨h1, h2⟩ := hlo l rfl
    rw [gd_true e11, h1, if_neg (by rw [n_gt (by decide) (by omega)]; omega), gd_in (by omega) (by decide), n_cl (by omega), nm_eq]
    rfl
  | none =>
    rw [gd_true e11, hln rfl, if_pos (by decide), gd_in (by omega) (by decide), n_cl (by omega), nm_eq]
    rcases hk with ⟨k1, k2, k3⟩ | ⟨p, b, k1, k2, k3, k4, k5⟩
    · rw [show s.1 (11 + 18) N = -1 from k2, if_neg (by decide), show s.1 (11 + 8) N = nI key from k3, gd_in (by omega) (by decide), n_cl (by omega), nm_eq]
      unfold lkA
      dsimp only
      rw [if_pos k1]
    · have f69 : ∀ z : Nat, z = 13 ∨ z = 14 → ∀ r, (some (none, uI s (18 + z) p (nI N)) : Option qR) = some r → L_X5_link_69 en d (nI N) (nI p) 11 (nI z) s = some r := fun z hz r hr => by
        refine le_X5_link_69 en _ _ _ _ _ _ _ ?_
        rw [gd_true e11, gd_in (by omega) (by decide), gd_in (by omega) (by decide), n_cl (by omega), n_cl (by omega), nm_eq, show 11 + 7 + z = 18 + z by omega]
        exact hr
      rw [show s.1 (11 + 18) N = nI p from k4, if_pos (by rw [n_le (by decide) (by omega)]; omega), show s.1 (11 + 19) N = nI b from k5]
      have eA : ∀ z : Nat, z = (if b = 0 then 31 else 32) → lkA 16 28 31 32 key none = (z, p) := fun z hz => by
        unfold lkA
        dsimp only
        rw [if_neg (show ¬ key < 4 by omega), show (key - 4) / 2 = p by omega, hz]
        by_cases hb : b = 0
        · rw [if_pos (show (key - 4) % 2 = 0 by omega), if_pos hb]
        · rw [if_neg (show ¬ (key - 4) % 2 = 0 by omega), if_neg hb]
      by_cases hb : b = 0
      · rw [eA 31 (by rw [if_pos hb]), if_neg (by rw [hb]; exact not_not_intro rfl)]
        exact f69 13 (Or.inl rfl) _ rfl
      · rw [eA 32 (by rw [if_neg hb]), if_pos (by rw [n_eq (by decide) (by omega)]; exact hb)]
        exact f69 14 (Or.inr rfl) _ rfl
/-- the lists of lines, with one more -/
theorem lk_add (h : ∀ k, kyV nt N k → lkd f nn (H k) (bl k)) (hin : ∀ k i, i ∈ bl k → i < N ∧ K i = k) (hnd : ∀ k, (bl k).Nodup) (fN : f' N = nn) (hf : ∀ a, a < N → (bl key).getLast? ≠ some a → f' a = f a) (hl : ∀ l, (bl key).getLast? = some l → f' l = nI N) (hH : ∀ k, kyV nt N k → ¬ (k = key ∧ bl key = []) → H' k = H k) (hH0 : bl key = [] → H' key = nI N) (hHN : ∀ k, k = 4 + 2 * N ∨ k = 5 + 2 * N → H' k = nn ∧ bl k = [] ∧ k ≠ key) (hkey : kyV nt N key) : ∀ k, kyV nt (N + 1) k → lkd f' nn (H' k) (at1 bl key (bl key ++ [N]) k) := by
  intro k hk
  by_cases g : k = key
  · subst g
    rw [at1_s]
    have := lkd_snoc (N := N) (bl k) (H k) (h k hkey) (hnd k) fN (fun a ha hn => hf a (hin k a ha).1 hn) hl
    by_cases g0 : bl k = []
    · rw [if_pos g0] at this
      rw [hH0 g0]; exact this
    · rw [if_neg g0] at this
      rw [hH k hkey (fun z => g0 z.2)]; exact this
  · rw [at1_n g]
    by_cases g1 : kyV nt N k
    · rw [hH k g1 (fun z => g z.1)]
      refine lkd_cg _ _ (h k g1) (fun a ha => ?_)
      obtain ⟨a1, a2⟩ := hin k a ha
      refine hf a a1 (fun z => ?_)
      have := (hin key a (List.mem_of_getLast? z)).2
      exact g (a2.symm.trans this)
    · obtain ⟨e1, e2, -⟩ := hHN k (by
        unfold kyV at hk g1
        omega)
      rw [e1, e2]
      rfl
end NLN

