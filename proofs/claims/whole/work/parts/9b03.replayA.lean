/-! REPLAY: parts of both sides. -/
/-- the state so many steps back -/
def nds (Fd : Nat → Nat × Nat) (i : Nat) : Nat → Nat
  | 0 => i
  | k + 1 => (Fd (nds Fd i k)).1
section RPA
variable {en : pN} {d w nc nl nt n n' p t ch len : Nat} {P f g : Nat → fI} {τ τ' τ'' σ σ' σ'' : qS} {X : xT} {fw : Bool} {F F' N : fI} {x : Int32}
theorem nds_s {Fd : Nat → Nat × Nat} {i : Nat} : ∀ k, nds Fd i (k + 1) = nds Fd (Fd i).1 k := by
  intro k
  induction k with
  | zero => rfl
  | succ k ih => show (Fd (nds Fd i (k + 1))).1 = (Fd (nds Fd (Fd i).1 k)).1; rw [ih]
theorem pth_get {Fd : Nat → Nat × Nat} (M : Nat) (hF : ∀ i, 1 ≤ i → i < M → (Fd i).1 < i) : ∀ m i, i ≤ m → i < M → (∀ k, k < (pth Fd m i).length → (pth Fd m i).getD k 0 = (Fd (nds Fd i k)).2 ∧ 1 ≤ nds Fd i k ∧ nds Fd i k < M) ∧ nds Fd i (pth Fd m i).length = 0 := by
  intro m
  induction m with
  | zero =>
    intro i hi hM
    have : i = 0 := by omega
    subst this
    exact ⟨fun k hk => absurd hk (Nat.not_lt_zero _), rfl⟩
  | succ m ih =>
    intro i hi hM
    by_cases h0 : i = 0
    · subst h0
      have e : pth Fd (m + 1) 0 = [] := if_pos rfl
      rw [e]
      exact ⟨fun k hk => absurd hk (Nat.not_lt_zero _), rfl⟩
    · have e : pth Fd (m + 1) i = (Fd i).2 :: pth Fd m (Fd i).1 := if_neg h0
      have h1 := hF i (by omega) hM
      obtain ⟨a, b⟩ := ih (Fd i).1 (by omega) (by omega)
      rw [e]
      refine ⟨fun k hk => ?_, ?_⟩
      · cases k with
        | zero => exact ⟨rfl, by show 1 ≤ i; omega, hM⟩
        | succ k =>
          rw [nds_s]
          exact a k (by rw [List.length_cons] at hk; omega)
      · rw [List.length_cons, nds_s]
        exact b
theorem XV_beg {k : Nat} (hX : XV P w nc nl nt n X) : XV P w nc nl nt n (begK X k) := hX
theorem ex_0 {lim : Nat} (hP : PV P nc nl nt n) (hw2 : w ≤ 2) (hl : lim = limS w) : ∀ (m k : Nat) (x y : xT), XV P w nc nl nt n x → exK P w nl nt lim fw m k x = some y → xS y 0 = xS x 0 := by
  intro m
  induction m with
  | zero => intro k x y _ h; cases h; rfl
  | succ m ih =>
    intro k x y hx h
    have e : exK P w nl nt lim fw (m + 1) k x = if k < xN x then (match runK P w nl nt lim fw x k with
      | none => none
      | some y => exK P w nl nt lim fw m (k + 1) y) else some x := rfl
    rw [e] at h
    by_cases hk : k < xN x
    · rw [if_pos hk] at h
      cases hr : runK P w nl nt lim fw x k with
      | none => rw [hr] at h; cases h
      | some z =>
        rw [hr] at h
        obtain ⟨z1, z2, z3, -⟩ := XV_L (lim := lim) (o := onlS P nt fw x k) hP hw2 hl (rdl P w (xS x k) nt nt) (begK x k) z (XV_beg hx) hk (fun a ha => ha) hr
        have := ih (k + 1) z y z1 h
        rw [this, (z3 0 (by have := hx.1.1; exact this)).1]
        rfl
    · rw [if_neg hk] at h
      cases h
      rfl
theorem expl_0 (hP : PV P nc nl nt n) (hw2 : w ≤ 2) (hin : ∀ c, c < nc → inR (P 4 c)) (h : expl P w nc nl nt fw = some X) : xS X 0 = fst0 P w nc nt (fun _ => 0) := by
  have e : expl P w nc nl nt fw = match exK P w nl nt (limS w) fw 20000 0 (beg0 (fst0 P w nc nt (fun _ => 0))) with
    | none => none
    | some x => some (begK x (xN x)) := rfl
  rw [e] at h
  cases hr : exK P w nl nt (limS w) fw 20000 0 (beg0 (fst0 P w nc nt (fun _ => 0))) with
  | none => rw [hr] at h; cases h
  | some z =>
    rw [hr] at h
    have h1 := ex_0 (lim := limS w) hP hw2 rfl 20000 0 _ z (XV_0 hP hw2 hin) hr
    have h2 : begK z (xN z) = X := Option.some.inj h
    rw [← h2]
    exact h1
theorem frX.tr (h : frX τ τ') (g : frX τ' τ'') : frX τ τ'' := ⟨fun a h1 h2 h3 h4 h5 h6 h7 => (g.1 a h1 h2 h3 h4 h5 h6 h7).trans (h.1 a h1 h2 h3 h4 h5 h6 h7), fun k hk => (g.2.1 k hk).trans (h.2.1 k hk), fun k hk => (g.2.2.1 k hk).trans (h.2.2.1 k hk), fun a ha => (g.2.2.2.1 a ha).trans (h.2.2.2.1 a ha), g.2.2.2.2.trans h.2.2.2.2⟩
theorem frM.tr (h : frM σ σ') (g : frM σ' σ'') : frM σ σ'' := ⟨fun a h1 h2 => (g.1 a h1 h2).trans (h.1 a h1 h2), fun k h1 h2 h3 => (g.2.1 k h1 h2 h3).trans (h.2.1 k h1 h2 h3), fun a h1 h2 => (g.2.2.1 a h1 h2).trans (h.2.2.1 a h1 h2), fun k hk => (g.2.2.2.1 k hk).trans (h.2.2.2.1 k hk), g.2.2.2.2.trans h.2.2.2.2⟩
theorem frX.rf : frX τ τ := ⟨fun _ _ _ _ _ _ _ _ => rfl, fun _ _ => rfl, fun _ _ => rfl, fun _ _ => rfl, rfl⟩
theorem frM.rf : frM σ σ := ⟨fun _ _ _ => rfl, fun _ _ _ _ => rfl, fun _ _ _ => rfl, fun _ _ => rfl, rfl⟩
/-- a ready step of the run, the class's side -/
theorem x_stepR (h : RXi τ p P w N len f) (hP : PV P nc nl nt n) (hS : SV P w nc nl nt n N) (hw2 : w ≤ 2) (hr : rdS P w N t ch nt) (hch : ch < 10) (hlen : len < 200) : ∃ (told : Int32) (τ' : qS), qev en (d + 7) 155 [.ref 111, .int (nI t), .int (nI ch)] τ = some (none, τ') ∧ frX τ τ' ∧ (acA P w N t ch nt = 15 ∨ acA P w N t ch nt = 16 → told = exr (exv P 5 N (clp (N (4 + t))))) ∧ RXi τ' p P w (stp P w N t ch nt) (len + 1) (stR f len (stV P w N t ch nt told)) := by
  have hpic := rx_pic h
  obtain ⟨hB, hN, hw, hl, hv, hf, hA⟩ := h
  obtain ⟨F2, G2, b2, told, H2, e2, f2, t2, a2⟩ := x_rtake (en := en) (d := d) (σ := τ) (f := f) (H := τ.2.1 124) (F := τ.1 112) (G := τ.1 10) (b := τ.1 7 4) hB hP hS hw hw2 hr hch hlen hA
  rw [hpic] at e2
  have e0 : rnS τ (nI (len + 1)) (stR f len (stV P w N t ch nt told)) H2 = rnS (uIr τ 115 (τ.1 115)) (nI (len + 1)) (stR f len (stV P w N t ch nt told)) H2 := by rw [ir_id]
  rw [e0] at e2
  exact ⟨told, _, e2, fx_pic, t2, rx_mkR hB ((f2 8 (by decide) (by decide) (by decide) (by decide)).trans hw) hv a2⟩
/-- a ready step of the run, the model's side -/
theorem m_stepR (h : RMi τ P w N nc nl nt n len g) (hP : PV P nc nl nt n) (hS : SV P w nc nl nt n N) (hw2 : w ≤ 2) (hr : rdS P w N t ch nt) (hch : ch < 10) (hlen : len < 200) : ∃ (F1 : fI) (τ1 τ' : qS), qev en (d + 8) 329 [.ref 151] τ = some (none, τ1) ∧ (∀ c, c ≠ 151 → c ≠ 187 → τ1.1 c = τ.1 c) ∧ qev en (d + 8) 334 [.ref 151, .int (nI t), .int (nI ch)] τ1 = some (none, τ') ∧ frM τ τ' ∧ (F1 68 = lnA P N t ch ∧ F1 69 = acA P w N t ch nt ∧ (ch ≠ 9 → F1 70 = P 9 (clp (N (4 + t)))) ∧ (acA P w N t ch nt = 15 ∨ acA P w N t ch nt = 16 → F1 71 = exr (exv P 5 N (clp (N (4 + t)))))) ∧ RMi τ' P w (stp P w N t ch nt) nc nl nt n (len + 1) (stR g len (msV t ch F1)) := by
  have hpic := rm_pic h
  obtain ⟨hB, hR, hW, ⟨h12, h16, h18, h76, h78, h74⟩, hg, hX⟩ := h
  have hn := hP.2.2.2.1.2
  have e1 := m_takeRun (en := en) (d := d + 6) (σ := τ) (K := τ.1 191) (W := τ.1 192) (g := g) (X := τ.2.1 199) (F := τ.1 151) (s := τ.1 187) (y := τ.1 188) (gg := τ.1 189) (D := τ.2.1 151 72) h76 hw2
  rw [hpic] at e1
  generalize hF1 : upd (upd (upd (τ.1 151) 58 (nI w)) 60 (nI (wid w))) 59 3 = F1 at e1
  have f1 : ∀ j, j ≠ 58 → j ≠ 59 → j ≠ 60 → F1 j = τ.1 151 j := fun j a b c => by rw [← hF1, pk_un b, pk_un c, pk_un a]
  have hM1 : MF F1 w 3 nc nl nt := ⟨(f1 12 (by decide) (by decide) (by decide)).trans h12, (f1 16 (by decide) (by decide) (by decide)).trans h16, (f1 18 (by decide) (by decide) (by decide)).trans h18, by rw [← hF1, pk_un (by decide), pk_un (by decide), pk_us], by rw [← hF1, pk_us]; rfl⟩
  have hR1 : MR w N (cpf (τ.1 187) (τ.1 191) 216) := MR_cpf hR
  obtain ⟨rr, e3, K', W', F2, F3, s3, y3, g3, D3, rfl, a1, a2, a3, a4, a5, a6, a7, a8, a9, a10⟩ := m_stepRun (en := en) (d := d + 1) (σ := τ) (gg := τ.1 189) (D := τ.2.1 151 72) (y := τ.1 188) (W := τ.1 192) (g := g) (X := τ.2.1 199) (K := τ.1 191) hB hP hS hM1 hR1 hw2 hr hch ((f1 78 (by decide) (by decide) (by decide)).trans h78) hlen hW
  have g12 : ∀ j, (j < 58 ∨ 74 ≤ j) → j ≠ 76 → j ≠ 78 → F3 j = τ.1 151 j := fun j hj h1 h2 => (a5 j (by omega) h1 h2).trans (f1 j (by omega) (by omega) (by omega))
  have e190 : ∀ A B C DD, kpS τ A B C DD = kpS (uIr τ 190 (τ.1 190)) A B C DD := fun A B C DD => by rw [show uIr τ 190 (τ.1 190) = τ from uIr_i]
  refine ⟨F2, _, _, e1, fun c c1 c2 => ?_, e3, ?_, ⟨a6, a7, a8, a9⟩, rm_mk hB a1 a2 ((g12 12 (by decide) (by decide) (by decide)).trans h12) ((g12 16 (by decide) (by decide) (by decide)).trans h16) ((g12 18 (by decide) (by decide) (by decide)).trans h18) a4 a3 (by rw [g12 74 (by decide) (by decide) (by decide)]; exact h74) (fun i hi hi20 => ?_)⟩
  · rw [kp_id' hg]
    funext k
    show (if c = 151 then F1 k else if c = 187 then cpf (τ.1 187) (τ.1 191) 216 k else if c = 188 then τ.1 188 k else if c = 189 then τ.1 189 k else τ.1 c k) = τ.1 c k
    rw [if_neg c1, if_neg c2]
    by_cases q : c = 188
    · subst q; rw [if_pos rfl]
    · rw [if_neg q]
      by_cases q2 : c = 189
      · subst q2; rw [if_pos rfl]
      · rw [if_neg q2]
  · rw [e190]
    exact fm_pic g12
  · show (if i = len then D3 else τ.2.1 199 i) = τ.2.1 180 (300 + clp (stR g len (msV t ch F2) 2 i))
    by_cases q : i = len
    · rw [if_pos q]
      subst q
      rw [stR_n (by decide)] at hi20 ⊢
      have c9 : ch ≠ 9 := by
        intro z
        apply hi20
        show F2 69 = 20
        rw [a7]
        unfold acA
        rw [if_pos z]
      show D3 = τ.2.1 180 (300 + clp (F2 68))
      rw [a10 c9, a6]
      unfold lnA
      rw [if_neg c9]
    · rw [if_neg q]
      rw [stR_o q] at hi20 ⊢
      exact hX i (by omega) hi20
/-- the model's run begins with the program explored -/
abbrev frN2 (σ τ : qS) : Prop := (∀ a, a ≠ 151 → (a < 164 ∨ (181 < a ∧ a < 187) ∨ 199 ≤ a) → τ.1 a = σ.1 a) ∧ (∀ a k, 164 ≤ a → a ≤ 179 → k < 300 → τ.1 a k = σ.1 a k) ∧ (∀ k, k < 12 → τ.1 181 k = σ.1 181 k) ∧ (∀ k, (k < 58 ∨ 74 ≤ k) → k ≠ 74 → k ≠ 76 → k ≠ 78 → k ≠ 149 → τ.1 151 k = σ.1 151 k) ∧ (∀ a, a ≠ 151 → a ≠ 180 → a ≠ 199 → τ.2.1 a = σ.2.1 a) ∧ (∀ k, k < 300 → τ.2.1 180 k = σ.2.1 180 k) ∧ (∀ k, k ≠ 72 → τ.2.1 151 k = σ.2.1 151 k) ∧ τ.2.2 = σ.2.2
theorem m_begR (hB : MB τ 2 P nc nl nt n) (hP : PV P nc nl nt n) (hw2 : w ≤ 2) (h12 : τ.1 151 12 = nI nc) (h16 : τ.1 151 16 = nI nl) (h18 : τ.1 151 18 = nI nt) (h32 : τ.1 151 32 = nI n') (hn : n ≤ n') (hn' : n' ≤ 100) (hb : ∀ i, i < n' → vp_nar .boolean (τ.1 175 (200 + i)) = τ.1 175 (200 + i)) : ∃ τ1, qev en (d + 4) 330 [.ref 151, .int 2, .int (nI w)] τ = some (none, τ1) ∧ τ1.1 151 148 = τ.1 151 148 ∧ frN2 τ (uI τ1 151 149 x) ∧ (uI τ1 151 149 x).1 151 149 = x ∧ RMi (uI τ1 151 149 x) P w (fst0 P w nc nt N) nc nl nt n 0 (fun r => τ.1 (193 + r)) := by
  have hc8 := hP.1.2
  have ht4 := hP.2.2.1.2
  obtain ⟨K1, W1, F1, s1, y1, e1, hB3, hR1, hW1, f78, f74, f76, fo⟩ := m_beginRun (en := en) (d := d) (N := N) (σ := τ) (v1 := 2) (w := w) (n' := n') (K := τ.1 191) (W := τ.1 192) (F := τ.1 151) (s := τ.1 187) (y := τ.1 188) (gg := τ.1 189) (g := fun r => τ.1 (193 + r)) (X := τ.2.1 199) (D := τ.2.1 151 72) hB (by decide) hw2 hc8 ht4 h12 h16 h18 h32 hn hn' (fun i hi => hb i hi)
  rw [kp_id, mM_id] at e1
  refine ⟨_, e1, ?_, ?_, ?_, ?_⟩
  · rw [mM_F]; exact fo 148 (by decide) (by decide) (by decide) (by decide) (by decide) (by decide)
  all_goals rw [mM_wF]
  rotate_left
  · rw [mM_F, pk_us]
  · refine rm_mk hB3 hR1 (fun u hu => ?_) ?_ ?_ ?_ ?_ ?_ ?_ (fun i hi => absurd hi (Nat.not_lt_zero _))
    · rw [hW1 u hu, f0_at hc8, if_neg (by omega), if_neg (by omega), if_neg (by omega), if_neg (by omega), if_neg (by omega), if_neg (by omega), if_pos (by omega)]
    · rw [pk_un (by decide)]; exact (fo 12 (by decide) (by decide) (by decide) (by decide) (by decide) (by decide)).trans h12
    · rw [pk_un (by decide)]; exact (fo 16 (by decide) (by decide) (by decide) (by decide) (by decide) (by decide)).trans h16
    · rw [pk_un (by decide)]; exact (fo 18 (by decide) (by decide) (by decide) (by decide) (by decide) (by decide)).trans h18
    · rw [pk_un (by decide)]; exact f76
    · rw [pk_un (by decide), f78]; rfl
    · rw [pk_un (by decide), f74]; decide
  · refine ⟨fun a z1 z2 => ?_, fun a k z1 z2 hk => ?_, fun k hk => ?_, fun k hk k1 k2 k3 k5 => ?_, fun a z1 z2 z3 => ?_, fun k hk => ?_, fun k hk => ?_, rfl⟩
    · have q : (kpS (cpT (cpS τ 2 3 n') 2 3 nt) K1 W1 (fun r => τ.1 (193 + r)) (τ.2.1 199)).1 a = (cpT (cpS τ 2 3 n') 2 3 nt).1 a := kp_o (by omega)
      rw [mM_o z1 (by omega) (by omega) (by omega), q, cpT_o (by omega), cpS_o (by omega)]
    · have q : (kpS (cpT (cpS τ 2 3 n') 2 3 nt) K1 W1 (fun r => τ.1 (193 + r)) (τ.2.1 199)).1 a = (cpT (cpS τ 2 3 n') 2 3 nt).1 a := kp_o (by omega)
      rw [mM_o (by omega) (by omega) (by omega) (by omega), q, cpT_o (by omega)]
      exact if_neg (by omega)
    · have q : (kpS (cpT (cpS τ 2 3 n') 2 3 nt) K1 W1 (fun r => τ.1 (193 + r)) (τ.2.1 199)).1 181 = (cpT (cpS τ 2 3 n') 2 3 nt).1 181 := kp_o (by decide)
      rw [mM_o (by decide) (by decide) (by decide) (by decide), q]
      have q2 : (cpT (cpS τ 2 3 n') 2 3 nt).1 181 k = (cpS τ 2 3 n').1 181 k := if_neg (by omega)
      rw [q2, cpS_o (by decide)]
    · rw [mM_F, pk_un k5]
      exact fo k (by omega) (by omega) (by omega) k1 k2 k3
    · rw [mM_J z1]
      funext k
      show (if a = 199 then τ.2.1 199 k else if a = 180 ∧ 100 * 3 ≤ k ∧ k < 100 * 3 + n' then _ else τ.2.1 a k) = τ.2.1 a k
      rw [if_neg z3, if_neg (fun z => z2 z.1)]
    · rw [mk_180]
      show (if 180 = 180 ∧ 100 * 3 ≤ k ∧ k < 100 * 3 + n' then τ.2.1 180 (k - 100 * 3 + 100 * 2) else τ.2.1 180 k) = τ.2.1 180 k
      exact if_neg (by omega)
    · show (if (151 : Nat) = 151 ∧ k = 72 then τ.2.1 151 72 else if (151 : Nat) = 199 then τ.2.1 199 k else if (151 : Nat) = 180 ∧ 100 * 3 ≤ k ∧ k < 100 * 3 + n' then τ.2.1 151 (k - 100 * 3 + 100 * 2) else τ.2.1 151 k) = τ.2.1 151 k
      rw [if_neg (fun z => hk z.2), if_neg (by decide), if_neg (fun z => absurd z.1 (by decide))]
end RPA
