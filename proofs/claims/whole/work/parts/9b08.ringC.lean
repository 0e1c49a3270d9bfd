/-! RING, both sides. -/
section RG3
variable {en : pN} {d d' w nc nl nt n p k t i m : Nat} {P : Nat → fI} {τ σ ρ : qS} {X : xT} {fw : Bool} {F F0 s y g N : fI} {D : Int64} {a : Int32}
theorem ns0 {g : fI} {sv lv : Int32} : nsS g 0 sv lv 0 = g 0 + 1 ∧ nsS g 0 sv lv 1 = (if g 0 = 0 then sv else g 1) ∧ nsS g 0 sv lv 2 = (if g 0 = 0 then lv else g 2) ∧ nsS g 0 sv lv 3 = g 3 ∧ nsS g 0 sv lv 4 = g 4 := by
  unfold nsS
  by_cases q : g 0 = 0
  · simp only [if_pos q, if_true]
    refine ⟨?_, ?_, ?_, ?_, ?_⟩
    · rw [pk_us, pk_un (by decide), pk_un (by decide)]
    · rw [pk_un (by decide), pk_un (by decide), pk_us]
    · rw [pk_un (by decide), pk_us]
    · rw [pk_un (by decide), pk_un (by decide), pk_un (by decide)]
    · rw [pk_un (by decide), pk_un (by decide), pk_un (by decide)]
  · simp only [if_neg q]
    refine ⟨?_, ?_, ?_, ?_, ?_⟩
    · rw [pk_us]
    · rw [pk_un (by decide)]
    · rw [pk_un (by decide)]
    · rw [pk_un (by decide)]
    · rw [pk_un (by decide)]
theorem ns3 {g : fI} {sv lv : Int32} : nsS g 3 sv lv 0 = g 0 ∧ nsS g 3 sv lv 1 = g 1 ∧ nsS g 3 sv lv 2 = g 2 ∧ nsS g 3 sv lv 3 = g 3 + 1 ∧ nsS g 3 sv lv 4 = (if g 3 = 0 then sv else g 4) := by
  unfold nsS
  have h30 : ¬ (3 : Nat) = 0 := by decide
  by_cases q : g 3 = 0
  · simp only [if_pos q, if_neg h30]
    refine ⟨?_, ?_, ?_, ?_, ?_⟩
    · rw [pk_un (by decide), pk_un (by decide)]
    · rw [pk_un (by decide), pk_un (by decide)]
    · rw [pk_un (by decide), pk_un (by decide)]
    · rw [pk_us, pk_un (by decide)]
    · rw [pk_un (by decide), pk_us]
  · simp only [if_neg q]
    refine ⟨?_, ?_, ?_, ?_, ?_⟩
    · rw [pk_un (by decide)]
    · rw [pk_un (by decide)]
    · rw [pk_un (by decide)]
    · rw [pk_us]
    · rw [pk_un (by decide)]
theorem lrF_lt {e : Nat} : ∀ m t, lrF P N m t = some e → e < t + m := by
  intro m
  induction m with
  | zero => intro t h; cases h
  | succ m ih =>
    intro t h
    have e1 : lrF P N (m + 1) t = if rngF P N t 4 (nI t) = true then some t else lrF P N m (t + 1) := rfl
    rw [e1] at h
    by_cases q : rngF P N t 4 (nI t) = true
    · rw [if_pos q] at h
      cases h
      omega
    · rw [if_neg q] at h
      have := ih (t + 1) h
      omega
theorem m_ring (hP : PV P nc nl nt n) (hX : XV P w nc nl nt n X) (hw2 : w ≤ 2) (hH : ∀ i, i < xN X → HW P nt (xS X i)) (hB : MB ρ 2 P nc nl nt n) (h12 : F0 12 = nI nc) (h16 : F0 16 = nI nl) (h18 : F0 18 = nI nt) (h99 : F0 99 = nI w) (h101 : F0 101 = nI (xN X))
    (hR : ∀ i, i < xN X → ∀ j, j < wid w → ρ.1 210 (i * wid w + j) = sm w (xS X i) j)
    (hE : ∀ i, i < xN X → ρ.1 216 i = bt (endC P w (xS X i) nt) ∧ ρ.1 217 i = if endC P w (xS X i) nt = true then nI (outN P w nt (xS X) i) else -2)
    (hO : ∀ j, j < (outL P w nt (xS X) (xN X)).length → ρ.1 225 j = nI (soS (xS X ((outL P w nt (xS X) (xN X)).getD j 0)) nt)) {c : Nat} (hc : c < 5) :
    ∀ (m k : Nat) (F s : fI), k + m = xN X → (∀ j, j ≠ 58 → j ≠ 59 → j ≠ 60 → F j = F0 j) → ∃ (F' s' : fI), (∀ j, j ≠ 58 → j ≠ 59 → j ≠ 60 → F' j = F0 j) ∧ L_X12_ring_50 en (d + 3) (nI c) (rngK P w nt (xS X) k 0) (rngK P w nt (xS X) k 1) (rngK P w nt (xS X) k 2) (rngK P w nt (xS X) k 3) (rngK P w nt (xS X) k 4) (nI k) (mM ρ F s y g D) = some (some (.int (rngK P w nt (xS X) (xN X) c)), mM ρ F' s' y g D) := by
  have hlim := @lim_le w
  have hxN := hX.1.2
  have ht4 := hP.2.2.1.2
  have hlen := outL_len (P := P) (w := w) (nt := nt) (S := xS X) (xN X)
  intro m
  induction m with
  | zero =>
    intro k F s hk hF
    have ek : k = xN X := by omega
    subst ek
    refine ⟨F, s, hF, le_X12_ring_50 en _ _ _ _ _ _ _ _ _ _ ?_⟩
    rw [mM_F, hF 101 (by decide) (by decide) (by decide), h101, if_pos (by rw [n_LE (by omega) (by omega)]; exact Nat.le_refl _)]
    match c, hc with
    | 0, _ => rw [if_neg (by decide)]
    | 1, _ => rw [if_pos (by decide), if_neg (by decide)]
    | 2, _ => rw [if_pos (by decide), if_pos (by decide), if_neg (by decide)]
    | 3, _ => rw [if_pos (by decide), if_pos (by decide), if_pos (by decide), if_neg (by decide)]
    | 4, _ => rw [if_pos (by decide), if_pos (by decide), if_pos (by decide), if_pos (by decide)]
    | q + 5, q5 => omega
  | succ m ih =>
    intro k F s hk hF
    have hkN : k < xN X := by omega
    obtain ⟨e216, e217⟩ := hE k hkN
    have ez : nI k + (1 : Int32) = nI (k + 1) := n_ar
    have er : rngK P w nt (xS X) (k + 1) = if endC P w (xS X k) nt = true ∧ ¬ soS (xS X k) nt = 0 then stkS P (xS X k) nt (nI k) (rngK P w nt (xS X) k) else rngK P w nt (xS X) k := rfl
    have go : ∀ F s, (∀ j, j ≠ 58 → j ≠ 59 → j ≠ 60 → F j = F0 j) → ∃ (F' s' : fI), (∀ j, j ≠ 58 → j ≠ 59 → j ≠ 60 → F' j = F0 j) ∧ L_X12_ring_50 en (d + 3) (nI c) (rngK P w nt (xS X) (k + 1) 0) (rngK P w nt (xS X) (k + 1) 1) (rngK P w nt (xS X) (k + 1) 2) (rngK P w nt (xS X) (k + 1) 3) (rngK P w nt (xS X) (k + 1) 4) (nI (k + 1)) (mM ρ F s y g D) = some (some (.int (rngK P w nt (xS X) (xN X) c)), mM ρ F' s' y g D) := fun F s hF => ih (k + 1) F s (by omega) hF
    have o : ∀ {c : Nat}, c ≠ 151 → c ≠ 187 → c ≠ 188 → c ≠ 189 → (mM ρ F s y g D).1 c = ρ.1 c := fun h1 h2 h3 h4 => mM_o h1 h2 h3 h4
    have start : ∀ r, (if endC P w (xS X k) nt = false then L_X12_ring_50 en (d + 3) (nI c) (rngK P w nt (xS X) k 0) (rngK P w nt (xS X) k 1) (rngK P w nt (xS X) k 2) (rngK P w nt (xS X) k 3) (rngK P w nt (xS X) k 4) (nI (k + 1)) (mM ρ F s y g D) else gd (p_inB (nI (outN P w nt (xS X) k)) 20001 = true) (if nI (soS (xS X ((outL P w nt (xS X) (xN X)).getD (outN P w nt (xS X) k) 0)) nt) = (0 : Int32) then L_X12_ring_50 en (d + 3) (nI c) (rngK P w nt (xS X) k 0) (rngK P w nt (xS X) k 1) (rngK P w nt (xS X) k 2) (rngK P w nt (xS X) k 3) (rngK P w nt (xS X) k 4) (nI (k + 1)) (mM ρ F s y g D) else bV (qev en (d + 3) 383 [.ref 151, .int (nI k)] (mM ρ F s y g D)) (fun s11 => bI (qev en (d + 3) 385 [.ref 151] s11) (fun w13 s14 => if w13 = (-2 : Int32) then L_X12_ring_130 en (d + 3) (nI c) (rngK P w nt (xS X) k 0) (rngK P w nt (xS X) k 1) (rngK P w nt (xS X) k 2) (rngK P w nt (xS X) k 3) (rngK P w nt (xS X) k 4) (nI k) s14 else if ¬ rngK P w nt (xS X) k 0 = (0 : Int32) then L_X12_ring_113 en (d + 3) (nI c) (rngK P w nt (xS X) k 0) (rngK P w nt (xS X) k 2) (rngK P w nt (xS X) k 3) (rngK P w nt (xS X) k 4) (nI k) w13 (rngK P w nt (xS X) k 1) s14 else L_X12_ring_113 en (d + 3) (nI c) (rngK P w nt (xS X) k 0) (rngK P w nt (xS X) k 2) (rngK P w nt (xS X) k 3) (rngK P w nt (xS X) k 4) (nI k) w13 (nI k) s14)))) = some r → L_X12_ring_50 en (d + 3) (nI c) (rngK P w nt (xS X) k 0) (rngK P w nt (xS X) k 1) (rngK P w nt (xS X) k 2) (rngK P w nt (xS X) k 3) (rngK P w nt (xS X) k 4) (nI k) (mM ρ F s y g D) = some r := by
      intro r h
      refine le_X12_ring_50 en _ _ _ _ _ _ _ _ _ _ ?_
      rw [mM_F, hF 101 (by decide) (by decide) (by decide), h101, if_neg (by rw [n_LE (by omega) (by omega)]; omega), gd_true (n_in (by omega) (by decide)), n_cl (by omega), o (by decide) (by decide) (by decide) (by decide), e216, ez]
      by_cases q : endC P w (xS X k) nt = true
      · obtain ⟨o1, o2⟩ := out_at (P := P) (w := w) (nt := nt) (S := xS X) hkN q
        rw [q] at h ⊢
        rw [if_neg (by decide)] at h
        rw [if_neg (by decide), o (by decide) (by decide) (by decide) (by decide), e217, if_pos q, n_cl (by omega), o (by decide) (by decide) (by decide) (by decide), hO _ o1]
        exact h
      · have q : endC P w (xS X k) nt = false := Bool.eq_false_iff.mpr q
        rw [q] at h ⊢
        rw [if_pos rfl] at h
        rw [if_pos (show bt false = (0 : Int32) from rfl)]
        exact h
    by_cases q : endC P w (xS X k) nt = true
    rotate_left
    · rw [if_neg (fun z => q z.1)] at er
      rw [er] at go
      obtain ⟨F', s', a1, a2⟩ := go F s hF
      exact ⟨F', s', a1, start _ (by rw [if_pos (Bool.eq_false_iff.mpr q)]; exact a2)⟩
    obtain ⟨o1, o2⟩ := out_at (P := P) (w := w) (nt := nt) (S := xS X) hkN q
    have so2 : soS (xS X ((outL P w nt (xS X) (xN X)).getD (outN P w nt (xS X) k) 0)) nt = soS (xS X k) nt := o2.1
    have s3 : soS (xS X k) nt ≤ 2 := soF_le nt 0 true
    by_cases q0 : soS (xS X k) nt = 0
    · rw [if_neg (fun z => z.2 q0)] at er
      rw [er] at go
      obtain ⟨F', s', a1, a2⟩ := go F s hF
      refine ⟨F', s', a1, start _ ?_⟩
      rw [if_neg (by rw [q]; decide), gd_true (n_in (by omega) (by decide)), so2, q0, if_pos (show nI 0 = (0 : Int32) from rfl)]
      exact a2
    -- a stuck end
    rw [if_pos ⟨q, q0⟩] at er
    have hSk := hX.2.1 k hkN
    have hv := fun u hu => hop_v (t := u) hP hSk hu
    have hself := fun u hu => end_self (t := u) hP hSk (hH k hkN) q hu
    obtain ⟨s1, e383, hR1⟩ := m_takeS (en := en) (d := d + 1) (F := F) (s := s) (y := y) (g := g) (D := D) hw2 hX ((hF 99 (by decide) (by decide) (by decide)).trans h99) hR hkN
    have hF1 : ∀ j, j ≠ 58 → j ≠ 59 → j ≠ 60 → tkF w F j = F0 j := fun j a b c => (tkF_o a b c).trans (hF j a b c)
    have hMF : MF (tkF w F) w 2 nc nl nt := tkF_MF ((hF 12 (by decide) (by decide) (by decide)).trans h12) ((hF 16 (by decide) (by decide) (by decide)).trans h16) ((hF 18 (by decide) (by decide) (by decide)).trans h18)
    have e385 := m_leastRing (en := en) (d := d) (y := y) (g := g) (D := D) hB hP hSk hMF hR1
    rw [ml_eq ht4 hv hself nt 0 (by omega)] at e385
    have e386 := m_lost (en := en) (d := d + 2) (ρ := ρ) (y := y) (g := g) (D := D) hMF.2.2.1 ht4 hR1
    obtain ⟨F', s', a1, a2⟩ := go (tkF w F) s1 hF1
    refine ⟨F', s', a1, start _ ?_⟩
    rw [if_neg (by rw [q]; decide), gd_true (n_in (by omega) (by decide)), so2, if_neg (by rw [show (0 : Int32) = nI 0 from rfl, n_EQ (by omega) (by omega)]; exact q0), e383, bV_some, e385, bI_some]
    have l130 : ∀ g1 : fI, (if losF (xS X k) nt 0 = true then nsS g1 3 (nI k) (-2) else g1) = rngK P w nt (xS X) (k + 1) → L_X12_ring_130 en (d + 3) (nI c) (g1 0) (g1 1) (g1 2) (g1 3) (g1 4) (nI k) (mM ρ (tkF w F) s1 y g D) = some (some (.int (rngK P w nt (xS X) (xN X) c)), mM ρ F' s' y g D) := fun g1 hg => by
      refine le_X12_ring_130 en _ _ _ _ _ _ _ _ _ _ ?_
      rw [e386, bI_some, ez]
      rw [← hg] at a2
      by_cases ql : losF (xS X k) nt 0 = true
      · rw [if_pos ql] at a2
        obtain ⟨b0, b1, b2, b3, b4⟩ := @ns3 g1 (nI k) (-2)
        rw [b0, b1, b2, b3, b4] at a2
        rw [ql, if_neg (by decide)]
        by_cases q3 : g1 3 = 0
        · rw [if_pos q3] at a2
          rw [if_neg (not_not_intro q3)]
          exact a2
        · rw [if_neg q3] at a2
          rw [if_pos q3]
          exact a2
      · rw [if_neg ql] at a2
        have ql : losF (xS X k) nt 0 = false := Bool.eq_false_iff.mpr ql
        rw [ql, if_pos (show bt false = (0 : Int32) from rfl)]
        exact a2
    have ek : stkS P (xS X k) nt (nI k) (rngK P w nt (xS X) k) = if losF (xS X k) nt 0 = true then nsS (match lrF P (xS X k) nt 0 with
      | some t => nsS (rngK P w nt (xS X) k) 0 (nI k) (nI t)
      | none => rngK P w nt (xS X) k) 3 (nI k) (-2) else (match lrF P (xS X k) nt 0 with
      | some t => nsS (rngK P w nt (xS X) k) 0 (nI k) (nI t)
      | none => rngK P w nt (xS X) k) := rfl
    cases hlr : lrF P (xS X k) nt 0 with
    | none =>
      rw [hlr] at ek
      show (if (-2 : Int32) = -2 then _ else _) = _
      rw [if_pos rfl]
      exact l130 (rngK P w nt (xS X) k) (by rw [er, ek])
    | some t =>
      rw [hlr] at ek
      have htn := lrF_lt nt 0 hlr
      show (if nI t = (-2 : Int32) then _ else _) = _
      rw [if_neg (by rw [n_m2 (by omega)]; exact fun z => z)]
      have l113 : ∀ v : Int32, v = (if rngK P w nt (xS X) k 0 = 0 then nI k else rngK P w nt (xS X) k 1) → L_X12_ring_113 en (d + 3) (nI c) (rngK P w nt (xS X) k 0) (rngK P w nt (xS X) k 2) (rngK P w nt (xS X) k 3) (rngK P w nt (xS X) k 4) (nI k) (nI t) v (mM ρ (tkF w F) s1 y g D) = some (some (.int (rngK P w nt (xS X) (xN X) c)), mM ρ F' s' y g D) := fun v hv => by
        have h := l130 (nsS (rngK P w nt (xS X) k) 0 (nI k) (nI t)) (by rw [er, ek])
        obtain ⟨b0, b1, b2, b3, b4⟩ := @ns0 (rngK P w nt (xS X) k) (nI k) (nI t)
        rw [b0, b1, b2, b3, b4, ← hv] at h
        refine le_X12_ring_113 en _ _ _ _ _ _ _ _ _ _ _ ?_
        by_cases q1 : rngK P w nt (xS X) k 0 = 0
        · rw [if_pos q1] at h
          rw [if_neg (not_not_intro q1)]; exact h
        · rw [if_neg q1] at h
          rw [if_pos q1]; exact h
      by_cases q1 : rngK P w nt (xS X) k 0 = 0
      · rw [if_neg (not_not_intro q1)]
        exact l113 _ (by rw [if_pos q1])
      · rw [if_pos q1]
        exact l113 _ (by rw [if_neg q1])
/-- what a look at the states explored changes on the model's side -/
abbrev frLk (σ σ' : qS) : Prop := (∀ c, c ≠ 151 → c ≠ 187 → σ'.1 c = σ.1 c) ∧ (∀ j, j ≠ 58 → j ≠ 59 → j ≠ 60 → σ'.1 151 j = σ.1 151 j) ∧ σ'.2 = σ.2
theorem frLk_mk {s' F' : fI} (h : ∀ j, j ≠ 58 → j ≠ 59 → j ≠ 60 → F' j = σ.1 151 j) : frLk σ (mM σ F' s' (σ.1 188) (σ.1 189) (σ.2.1 151 72)) := by
  refine ⟨fun c h1 h2 => ?_, fun j a b c => by rw [mM_F]; exact h j a b c, ?_⟩
  · funext k
    show (if c = 151 then F' k else if c = 187 then s' k else if c = 188 then σ.1 188 k else if c = 189 then σ.1 189 k else σ.1 c k) = σ.1 c k
    rw [if_neg h1, if_neg h2]
    by_cases q : c = 188
    · rw [q, if_pos rfl]
    · rw [if_neg q]
      by_cases q2 : c = 189
      · rw [q2, if_pos rfl]
      · rw [if_neg q2]
  · refine Prod.ext (funext fun a => funext fun k => ?_) rfl
    show (if a = 151 ∧ k = 72 then σ.2.1 151 72 else σ.2.1 a k) = σ.2.1 a k
    by_cases q : a = 151 ∧ k = 72
    · rw [if_pos q, q.1, q.2]
    · rw [if_neg q]
theorem ring_alike (hP : PV P nc nl nt n) (hX : XV P w nc nl nt n X) (hw2 : w ≤ 2) (hx : EXx P w nc nl nt n p fw X τ) (hm : EXm P w nc nl nt n fw X σ) (h0 : xS X 0 = fst0 P w nc nt (fun _ => 0)) :
    ∃ (r : Int32) (τ' σ' : qS), qev en (d + 2) 230 [.ref 0, .int a] τ = some (some (.int r), τ') ∧ qev en (d' + 4) 388 [.ref 151, .int a] σ = some (some (.int r), σ') ∧ ((∀ c, c ≠ 82 → τ'.1 c = τ.1 c) ∧ τ'.2 = τ.2) ∧ frLk σ σ' := by
  have hH := HW_all hP hX h0 hw2
  obtain ⟨fx, -, -⟩ := hx.flat
  obtain ⟨fm, ⟨-, g2, -, g4, -⟩, -, f98, f99, -⟩ := hm.flat
  have rfx : (∀ c, c ≠ 82 → τ.1 c = τ.1 c) ∧ τ.2 = τ.2 := ⟨fun _ _ => rfl, rfl⟩
  have rfm : frLk σ σ := ⟨fun _ _ _ => rfl, fun _ _ _ _ => rfl, rfl⟩
  have x17 : τ.1 70 17 = 1 := fx.2.2
  by_cases h1 : a < 0
  · refine ⟨-1, τ, σ, le_X11_ring en _ _ _ _ ?_, le_X12_ring en _ _ _ _ ?_, rfx, rfm⟩
    · rw [x17, if_neg (by decide), if_pos h1]
    · rw [f98, if_neg (by decide), if_pos h1]
  obtain ⟨c, hc, rfl⟩ := nI_of h1
  by_cases h5 : c ≤ 5
  rotate_left
  · refine ⟨-1, τ, σ, le_X11_ring en _ _ _ _ ?_, le_X12_ring en _ _ _ _ ?_, rfx, rfm⟩
    · rw [x17, if_neg (by decide), if_neg h1, if_neg (by rw [show (5 : Int32) = nI 5 from rfl, n_LE hc (by omega)]; exact h5)]
    · rw [f98, if_neg (by decide), if_neg h1, if_neg (by rw [show (5 : Int32) = nI 5 from rfl, n_LE hc (by omega)]; exact h5)]
  by_cases q5 : c = 5
  · subst q5
    obtain ⟨r, τ', e1, e2, e3, e4⟩ := ring5_alike (en := en) (d := d) (d' := d' + 2) hx hm
    exact ⟨r, τ', σ, e1, e2, ⟨e3, e4⟩, rfm⟩
  have n5 : ¬ nI c = (5 : Int32) := by rw [show (5 : Int32) = nI 5 from rfl, n_EQ (by omega) (by omega)]; exact q5
  have le5 : nI c ≤ (5 : Int32) := by rw [show (5 : Int32) = nI 5 from rfl, n_LE (by omega) (by omega)]; exact h5
  obtain ⟨F', s', a1, a2⟩ := m_ring (en := en) (d := d') (ρ := σ) (F0 := σ.1 151) (y := σ.1 188) (g := σ.1 189) (D := σ.2.1 151 72) hP hX hw2 hH fm.1 fm.2.1.1 fm.2.1.2.1 fm.2.1.2.2 f99 fm.2.2.1.1 fm.2.2.1.2.2.2 (fun i hi => ⟨(g2 i hi).2.1, (g2 i hi).2.2⟩) (fun j hj => (g4.2.1 j hj).2) (show c < 5 by omega) (xN X) 0 (σ.1 151) (σ.1 187) (by omega) (fun _ _ _ _ => rfl)
  rw [mM_id] at a2
  refine ⟨rngK P w nt (xS X) (xN X) c, τ, mM σ F' s' (σ.1 188) (σ.1 189) (σ.2.1 151 72), le_X11_ring en _ _ _ _ ?_, le_X12_ring en _ _ _ _ ?_, rfx, frLk_mk a1⟩
  · rw [x17, if_neg (by decide), if_neg h1, if_pos le5, if_pos n5, gd_true (n_in (by omega) (by decide)), n_cl (by omega), fx.1.2.1.2.2.2.2.2.2.2 c (by omega)]
  · rw [f98, if_neg (by decide), if_neg h1, if_pos le5, if_pos n5]
    exact a2
end RG3
