/-! SOUND, both sides. -/
/-- what sound may change on the model's side -/
abbrev frSw (n' nt : Nat) (σ σ' : qS) : Prop := (∀ c, c < 164 ∨ 181 < c → c < 210 ∨ 226 < c → c ≠ 151 → c ≠ 187 → c ≠ 188 → c ≠ 189 → c ≠ 190 → c ≠ 247 → c ≠ 248 → c ≠ 249 → σ'.1 c = σ.1 c) ∧ (∀ j, j < 58 ∨ j = 61 ∨ (74 ≤ j ∧ j < 98) ∨ (104 ≤ j ∧ j < 115) ∨ (116 ≤ j ∧ j < 120) ∨ 122 ≤ j → j ≠ 148 → j ≠ 150 → j ≠ 154 → σ'.1 151 j = σ.1 151 j) ∧ (∀ c, 164 ≤ c → c ≤ 179 → ∀ i, i < 200 ∨ 200 + n' ≤ i → σ'.1 c i = σ.1 c i) ∧ (∀ i, i < 8 ∨ 8 + nt ≤ i → σ'.1 181 i = σ.1 181 i) ∧ (∀ c, c ≠ 180 → c ≠ 151 → σ'.2.1 c = σ.2.1 c) ∧ (∀ i, i < 200 ∨ 200 + n' ≤ i → σ'.2.1 180 i = σ.2.1 180 i)
section SNB
variable {en : pN} {d d' w nc nl nt n n2 n' i k m : Nat} {P P2 : Nat → fI} {σ σ' σ'' s τ : qS} {X X2 : xT} {F F' g y sr : fI} {D : Int64}
theorem frSw.tr (h : frSw n' nt σ σ') (g : frSw n' nt σ' σ'') : frSw n' nt σ σ'' := ⟨fun c a1 a2 a3 a4 a5 a6 a7 a8 a9 b1 => (g.1 c a1 a2 a3 a4 a5 a6 a7 a8 a9 b1).trans (h.1 c a1 a2 a3 a4 a5 a6 a7 a8 a9 b1), fun j a1 a2 a3 a4 => (g.2.1 j a1 a2 a3 a4).trans (h.2.1 j a1 a2 a3 a4), fun c a1 a2 i hi => (g.2.2.1 c a1 a2 i hi).trans (h.2.2.1 c a1 a2 i hi), fun i hi => (g.2.2.2.1 i hi).trans (h.2.2.2.1 i hi), fun c a1 a2 => (g.2.2.2.2.1 c a1 a2).trans (h.2.2.2.2.1 c a1 a2), fun i hi => (g.2.2.2.2.2 i hi).trans (h.2.2.2.2.2 i hi)⟩
/-- a program copied to the tables of the one explored -/
theorem fr_cp {v : Nat} (hnt : nt ≤ 4) (hn' : n' ≤ 100) : frSw n' nt σ (cpT (cpS σ v 2 n') v 2 nt) := by
  refine ⟨fun c a1 a2 a3 a4 a5 a6 a7 a8 a9 b1 => ?_, fun j a1 a2 a3 a4 => ?_, fun c a1 a2 i hi => ?_, fun i hi => ?_, fun c a1 a2 => ?_, fun i hi => ?_⟩
  · rw [cpT_o (by omega), cpS_o (by omega)]
  · rw [cpT_o (by decide), cpS_o (by decide)]
  · rw [cpT_o (by omega)]
    exact if_neg (by omega)
  · show (if 181 = 181 ∧ 4 * 2 ≤ i ∧ i < 4 * 2 + nt then _ else (cpS σ v 2 n').1 181 i) = _
    rw [if_neg (by omega), cpS_o (by decide)]
  · funext i
    show (if c = 180 ∧ 100 * 2 ≤ i ∧ i < 100 * 2 + n' then _ else σ.2.1 c i) = _
    exact if_neg (fun z => a1 z.1)
  · show (if 180 = 180 ∧ 100 * 2 ≤ i ∧ i < 100 * 2 + n' then _ else σ.2.1 180 i) = _
    exact if_neg (by omega)
theorem fr_try (h : fRt s σ' (s.1 151) F') {F'' s'' y'' g'' : fI} {D'' : Int64} (hF : ∀ j, j ≠ 98 → j ≠ 154 → F'' j = F' j) : frSw n' nt s (mM σ' F'' s'' y'' g'' D'') := by
  refine ⟨fun c a1 a2 a3 a4 a5 a6 a7 a8 a9 b1 => by rw [mM_o a3 a4 a5 a6]; exact h.1 c a2 a7, fun j a1 a2 a3 a4 => by rw [mM_F, hF j (by omega) a4]; exact h.2.1 j a1, fun c a1 a2 i hi => by rw [mM_o (by omega) (by omega) (by omega) (by omega), h.1 c (by omega) (by omega)], fun i hi => by rw [mM_o (by decide) (by decide) (by decide) (by decide), h.1 181 (by decide) (by decide)], fun c a1 a2 => by rw [mM_J a2, h.2.2.1], fun i hi => by rw [mM_J (by decide), h.2.2.1]⟩
theorem m_s225 (hw2 : w ≤ 2) (hX : XV P w nc nl nt n X) (hX2 : XV P2 w nc nl nt n2 X2) (hl4 : (outL P w nt (xS X) (xN X)).length ≤ 4000) (hR : roP P2 w nt X2 s) (h154 : s.1 151 154 = nI (outL P w nt (xS X) (xN X)).length) (hW : wsP P w nt X s (outL P w nt (xS X) (xN X)).length) :
    ∀ (m i : Nat), i + m = (outL P2 w nt (xS X2) (xN X2)).length → (∀ j, j < i → isO P w nt X (xS X2 (oK P2 w nt X2 j))) → (L_X12_sound_225 en (d + 1) (-2) (nI i) s = some (some (.int 1), uI s 151 150 (s.1 151 150)) ∧ ∀ j, j < (outL P2 w nt (xS X2) (xN X2)).length → isO P w nt X (xS X2 (oK P2 w nt X2 j))) ∨ ∃ g, g < (outL P2 w nt (xS X2) (xN X2)).length ∧ ¬ isO P w nt X (xS X2 (oK P2 w nt X2 g)) ∧ (∀ j, j < g → isO P w nt X (xS X2 (oK P2 w nt X2 j))) ∧ L_X12_sound_225 en (d + 1) (-2) (nI i) s = some (some (.int 0), uI s 151 150 (nI g)) := by
  have hlim := @lim_le w
  have hxN2 := hX2.1
  have hol2 := outL_len (P := P2) (w := w) (nt := nt) (S := xS X2) (xN X2)
  have l292 : ∀ (b : Bool) (q : qS), L_X12_sound_292 en (d + 1) (bt b) q = some (some (.int (bt b)), q) := fun b q => by
    refine le_X12_sound_292 en _ _ _ _ ?_
    rw [m_truth, bI_some]
  intro m
  induction m with
  | zero =>
    intro i hi hin
    left
    refine ⟨le_X12_sound_225 en _ _ _ _ _ ?_, fun j hj => hin j (by omega)⟩
    rw [hR.2.2.1, if_pos (by rw [n_LE (by omega) (by omega)]; omega)]
    refine le_X12_sound_263 en _ _ _ _ ?_
    rw [if_neg (not_not_intro rfl)]
    refine le_X12_sound_278 en _ _ _ _ _ ?_
    rw [nm_eq, if_neg (not_not_intro rfl)]
    exact l292 true _
  | succ m ih =>
    intro i hi hin
    obtain ⟨b, hb, e406⟩ := m_was (en := en) (d := d) hw2 hX hX2 hl4 hR h154 hW (show i < _ by omega)
    have start : ∀ r, (if bt b = (0 : Int32) then L_X12_sound_225 en (d + 1) (nI i) (nI (i + 1)) s else L_X12_sound_225 en (d + 1) (-2 : Int32) (nI (i + 1)) s) = some r → L_X12_sound_225 en (d + 1) (-2) (nI i) s = some r := fun r hr => by
      refine le_X12_sound_225 en _ _ _ _ _ ?_
      rw [hR.2.2.1, if_neg (by rw [n_LE (by omega) (by omega)]; omega), if_neg (not_not_intro rfl), e406, bI_some, show nI i + (1 : Int32) = nI (i + 1) from n_ar]
      exact hr
    cases b with
    | true =>
      have hin' : ∀ q, q < i + 1 → isO P w nt X (xS X2 (oK P2 w nt X2 q)) := fun q hq => by
        by_cases z : q = i
        · rw [z]; exact hb.mp rfl
        · exact hin q (by omega)
      have hgo : ∀ r, L_X12_sound_225 en (d + 1) (-2) (nI (i + 1)) s = some r → L_X12_sound_225 en (d + 1) (-2) (nI i) s = some r := fun r hr => start r (by rw [if_neg (show ¬ bt true = (0 : Int32) by decide)]; exact hr)
      rcases ih (i + 1) (by omega) hin' with ⟨k1, k2⟩ | ⟨g, g1, g2, g3, g4⟩
      · exact Or.inl ⟨hgo _ k1, k2⟩
      · exact Or.inr ⟨g, g1, g2, g3, hgo _ g4⟩
    | false =>
      right
      refine ⟨i, by omega, fun z => (by have := hb.mpr z; cases this), hin, start _ ?_⟩
      rw [if_pos (show bt false = (0 : Int32) from rfl)]
      have n2 : ¬ nI i = (-2 : Int32) := by rw [n_m2 (by omega)]; exact fun z => z
      have l263 : L_X12_sound_263 en (d + 1) (nI i) s = some (some (.int 0), uI s 151 150 (nI i)) := by
        refine le_X12_sound_263 en _ _ _ _ ?_
        rw [if_pos n2]
        refine le_X12_sound_278 en _ _ _ _ _ ?_
        rw [nm_eq, if_pos n2]
        exact l292 false _
      refine le_X12_sound_225 en _ _ _ _ _ ?_
      by_cases q : nI (outL P2 w nt (xS X2) (xN X2)).length ≤ nI (i + 1)
      · rw [hR.2.2.1, if_pos q]; exact l263
      · rw [hR.2.2.1, if_neg q, if_pos n2]; exact l263
theorem m_sound (hP : PV P nc nl nt n) (hP2 : PV P2 nc nl nt n2) (hw2 : w ≤ 2) (hB : MB σ 0 P nc nl nt n) (hB1 : MB σ 1 P2 nc nl nt n2) (h12 : σ.1 151 12 = nI nc) (h16 : σ.1 151 16 = nI nl) (h18 : σ.1 151 18 = nI nt) (h32 : σ.1 151 32 = nI n') (hn : n ≤ n') (hn2 : n2 ≤ n') (hn' : n' ≤ 100) (hb0 : ∀ i, i < n' → vp_nar .boolean (σ.1 175 (100 * 0 + i)) = σ.1 175 (100 * 0 + i)) (hb1 : ∀ i, i < n' → vp_nar .boolean (σ.1 175 (100 * 1 + i)) = σ.1 175 (100 * 1 + i)) (hin : ∀ c, c < nc → inR (P 4 c)) (hin2 : ∀ c, c < nc → inR (P2 4 c)) (h147 : ¬ σ.1 151 147 = 0) :
    ∃ (r : Int32) (σ' : qS), qev en (d + 9) 405 [.ref 151, .int (nI w)] σ = some (some (.int r), σ') ∧ sndQ P P2 w nc nl nt (σ.1 151 150) r (σ'.1 151 150) ∧ frSw n' nt σ σ' ∧ ((r = -3 ∧ σ'.1 151 98 = 0) ∨ (¬ r = -3 ∧ ∃ X2, expl P2 w nc nl nt false = some X2 ∧ EXm P2 w nc nl nt n2 false X2 σ' ∧ σ'.1 151 148 = 1 ∧ σ'.1 151 121 = 0)) := by
  have hlim := @lim_le w
  have hnt := hP.2.2.1
  have nle0 : ¬ nI w < 0 := nI_pos (by omega)
  have le2 : nI w ≤ (2 : Int32) := by rw [show (2 : Int32) = nI 2 from rfl, n_LE (by omega) (by omega)]; exact hw2
  let σ1 : qS := cpT (cpS σ 0 2 n') 0 2 nt
  have f1 : frSw n' nt σ σ1 := fr_cp hnt.2 hn'
  have e1 : mM σ1 (σ1.1 151) (σ1.1 187) (σ1.1 188) (σ1.1 189) (σ1.2.1 151 72) = σ1 := mM_id
  have g1 : σ1.1 151 = σ.1 151 := by show (cpT (cpS σ 0 2 n') 0 2 nt).1 151 = _; rw [cpT_o (by decide), cpS_o (by decide)]
  have start : ∀ q, (bI (qev en (d + 8) 365 [.ref 151, .int (nI w), .int (0 : Int32)] σ1) (fun w7 s8 => nm (uI s8 151 98 (0 : Int32)) (fun s10 => if w7 = (-3 : Int32) then some (some (.int (-3 : Int32)), s10) else if (s10.1 151 115) ≤ (4000 : Int32) then nm (uI s10 151 154 (s10.1 151 115)) (fun s13 => L_X12_sound_68 en (d + 8) (nI w) (0 : Int32) s13) else some (some (.int (-3 : Int32)), s10))) : Option qR) = some q → qev en (d + 9) 405 [.ref 151, .int (nI w)] σ = some q := fun q hq => by
    refine le_X12_sound en _ _ _ _ ?_
    have hc : qev en (d + 8) 293 [.ref 151, .int (0 : Int32), .int (2 : Int32)] σ = some (none, σ1) := m_copyP (v1 := 0) (v2 := 2) (d := d + 7) (by decide) (by decide) (by decide) h32 hn' h18 hnt.2 hb0
    rw [if_neg nle0, if_pos le2, if_pos h147, hc, bV_some]
    exact hq
  have hB2 : MB σ1 2 P nc nl nt n := MB_cp (by decide) (by decide) hn hB
  have hm := m_tryAll (en := en) (d := d) (w := w) (fw := false) (σ := σ1) (F := σ1.1 151) (s := σ1.1 187) (y := σ1.1 188) (g := σ1.1 189) (D := σ1.2.1 151 72) hB2 hP hw2 (by rw [g1]; exact h12) (by rw [g1]; exact h16) (by rw [g1]; exact h18) hin
  rw [e1] at hm
  rcases hm with ⟨x1, ρ, F, s, y, g, D, x2, x3, x4⟩ | ⟨X, x1, hXV, ρ, F, s, y, g, D, x2, x3, x4, x5, ⟨x6, x7, x8, x9⟩, x10⟩
  · have x2' : qev en (d + 8) 365 [.ref 151, .int (nI w), .int (0 : Int32)] σ1 = some (some (.int (-3)), mM ρ F s y g D) := x2
    refine ⟨-3, mM ρ (upd F 98 0) s y g D, start _ (by rw [x2', bI_some, nm_eq, if_pos rfl, mM_wF]), Or.inl ⟨rfl, ?_, Or.inl x1⟩, f1.tr (fr_try x3 (fun j a _ => pk_un a)), Or.inl ⟨rfl, by rw [mM_F, pk_us]⟩⟩
    rw [mM_F, pk_un (by decide), x3.2.1 150 (by omega), g1]
  have x2' : qev en (d + 8) 365 [.ref 151, .int (nI w), .int (0 : Int32)] σ1 = some (some (.int (nI (xN X))), mM ρ F s y g D) := x2
  have hxN := hXV.1
  have hol := outL_len (P := P) (w := w) (nt := nt) (S := xS X) (xN X)
  have h115 : F 115 = nI (outL P w nt (xS X) (xN X)).length := x4.2.2.2.1.1
  have nm3 : ¬ nI (xN X) = (-3 : Int32) := fun z => by
    have := congrArg Int32.toInt z
    rw [n_to (by omega)] at this
    have h3 : (-3 : Int32).toInt = -3 := by decide
    omega
  by_cases q4 : (outL P w nt (xS X) (xN X)).length ≤ 4000
  rotate_left
  · refine ⟨-3, mM ρ (upd F 98 0) s y g D, start _ (by rw [x2', bI_some, nm_eq, if_neg nm3, mM_wF, mM_F, pk_un (by decide), h115, if_neg (by rw [show (4000 : Int32) = nI 4000 from rfl, n_LE (by omega) (by omega)]; exact q4)]), Or.inl ⟨rfl, ?_, Or.inr ⟨X, x1, Or.inl (by omega)⟩⟩, f1.tr (fr_try x10 (fun j a _ => pk_un a)), Or.inl ⟨rfl, by rw [mM_F, pk_us]⟩⟩
    rw [mM_F, pk_un (by decide), x10.2.1 150 (by omega), g1]
  -- laid aside
  let F3 : fI := upd (upd F 98 0) 154 (F 115)
  let s3 : qS := mM ρ F3 s y g D
  have hF3 : ∀ j, j ≠ 98 → j ≠ 154 → F3 j = F j := fun j a1 a2 => (pk_un a2).trans (pk_un a1)
  have f3 : frSw n' nt σ s3 := f1.tr (fr_try x10 hF3)
  have hR3 : roP P w nt X s3 := by
    refine ⟨?_, fun i hi j hj => ?_, ?_, fun j hj => ?_⟩
    · show (mM ρ F3 s y g D).1 151 60 = _
      rw [mM_F, hF3 60 (by decide) (by decide)]; exact x3.2.2.1.2.1
    · show (mM ρ F3 s y g D).1 210 _ = _
      rw [mM_o (by decide) (by decide) (by decide) (by decide)]; exact x3.2.2.1.2.2.2.1 i hi j hj
    · show (mM ρ F3 s y g D).1 151 115 = _
      rw [mM_F, hF3 115 (by decide) (by decide)]; exact h115
    · show (mM ρ F3 s y g D).1 221 j = _ ∧ (mM ρ F3 s y g D).1 225 j = _
      rw [mM_o (by decide) (by decide) (by decide) (by decide), mM_o (by decide) (by decide) (by decide) (by decide)]; exact x4.2.2.2.1.2.1 j hj
  have h154 : s3.1 151 154 = nI (outL P w nt (xS X) (xN X)).length := by
    show (mM ρ F3 s y g D).1 151 154 = _
    rw [mM_F]
    show upd (upd F 98 0) 154 (F 115) 154 = _
    rw [pk_us]; exact h115
  obtain ⟨s4, w1, w2', w3⟩ := m_s68 (en := en) (d := d + 8) (v1 := nI w) hw2 hXV q4 (outL P w nt (xS X) (xN X)).length 0 s3 (by omega) hR3 h154 (fun j hj => absurd hj (Nat.not_lt_zero _))
  have f4 : frSw n' nt σ s4 := f3.tr ⟨fun c a1 a2 a3 a4 a5 a6 a7 a8 a9 b1 => w1.1 c a8 a9 b1, fun j a1 a2 a3 a4 => by rw [w1.1 151 (by decide) (by decide) (by decide)], fun c a1 a2 i hi => by rw [w1.1 c (by omega) (by omega) (by omega)], fun i hi => by rw [w1.1 181 (by decide) (by decide) (by decide)], fun c a1 a2 => by rw [w1.2], fun i hi => by rw [w1.2]⟩
  let s5 : qS := cpT (cpS s4 1 2 n') 1 2 nt
  have f5 : frSw n' nt σ s5 := f4.tr (fr_cp hnt.2 hn')
  let s6 : qS := uI s5 151 148 1
  have o6 : ∀ c, c ≠ 151 → s6.1 c = s5.1 c := fun c hc => uI_ne hc
  have o6' : ∀ j, j ≠ 148 → s6.1 151 j = s4.1 151 j := fun j hj => by
    show (uI s5 151 148 1).1 151 j = _
    rw [g_I, if_neg (fun z => hj z.2)]
    show (cpT (cpS s4 1 2 n') 1 2 nt).1 151 j = _
    rw [cpT_o (by decide), cpS_o (by decide)]
  have f6 : frSw n' nt σ s6 := f5.tr ⟨fun c a1 a2 a3 a4 a5 a6 a7 a8 a9 b1 => o6 c a3, fun j a1 a2 a3 a4 => by show (uI s5 151 148 1).1 151 j = _; rw [g_I, if_neg (fun z => a2 z.2)], fun c a1 a2 i hi => by rw [o6 c (by omega)], fun i hi => by rw [o6 181 (by decide)], fun _ _ _ => rfl, fun _ _ => rfl⟩
  have hB41 : MB s4 1 P2 nc nl nt n2 := mb_at hB1 (fun a ha => f4.1 a (by omega) (by omega) (by omega) (by omega) (by omega) (by omega) (by omega) (by omega) (by omega) (by omega)) (fun a a1 a2 i hi => f4.2.2.1 a a1 a2 _ (by omega)) (fun t ht => f4.2.2.2.1 _ (by omega))
  have hB6 : MB s6 2 P2 nc nl nt n2 := mb_cg (fun c a1 a2 a3 => o6 c a3) (MB_cp (by decide) (by decide) hn2 hB41)
  have start2 : ∀ q, (bI (qev en (d + 8) 365 [.ref 151, .int (nI w), .int (0 : Int32)] s6) (fun w6 s7 => if ¬ w6 = (-3 : Int32) then L_X12_sound_225 en (d + 8) (-2 : Int32) (0 : Int32) s7 else some (some (.int (-3 : Int32)), s7)) : Option qR) = some q → qev en (d + 9) 405 [.ref 151, .int (nI w)] σ = some q := fun q hq => by
    refine start q ?_
    rw [x2', bI_some, nm_eq, if_neg nm3, mM_wF, mM_F, pk_un (by decide), h115, if_pos (by rw [show (4000 : Int32) = nI 4000 from rfl, n_LE (by omega) (by omega)]; exact q4), nm_eq, mM_wF, ← h115]
    refine w3 q ?_
    have hc : qev en (d + 8) 293 [.ref 151, .int (1 : Int32), .int (2 : Int32)] s4 = some (none, s5) := m_copyP (v1 := 1) (v2 := 2) (d := d + 7) (by decide) (by decide) (by decide) ((f4.2.1 32 (by omega) (by decide) (by decide) (by decide)).trans h32) hn' ((f4.2.1 18 (by omega) (by decide) (by decide) (by decide)).trans h18) hnt.2 (fun i hi => by rw [f4.2.2.1 175 (by decide) (by decide) _ (by omega)]; exact hb1 i hi)
    rw [hc, bV_some, nm_eq]
    exact hq
  have e6 : mM s6 (s6.1 151) (s6.1 187) (s6.1 188) (s6.1 189) (s6.2.1 151 72) = s6 := mM_id
  have hm2 := m_tryAll (en := en) (d := d) (w := w) (fw := false) (σ := s6) (F := s6.1 151) (s := s6.1 187) (y := s6.1 188) (g := s6.1 189) (D := s6.2.1 151 72) hB6 hP2 hw2 ((o6' 12 (by decide)).trans ((f4.2.1 12 (by omega) (by decide) (by decide) (by decide)).trans h12)) ((o6' 16 (by decide)).trans ((f4.2.1 16 (by omega) (by decide) (by decide) (by decide)).trans h16)) ((o6' 18 (by decide)).trans ((f4.2.1 18 (by omega) (by decide) (by decide) (by decide)).trans h18)) hin2
  rw [e6] at hm2
  have g150 : s6.1 151 150 = σ.1 151 150 := by
    rw [o6' 150 (by decide), w1.1 151 (by decide) (by decide) (by decide)]
    show (mM ρ F3 s y g D).1 151 150 = _
    rw [mM_F, hF3 150 (by decide) (by decide), x10.2.1 150 (by omega), g1]
  have g148 : s6.1 151 148 = 1 := by show (uI s5 151 148 1).1 151 148 = _; rw [g_I, if_pos ⟨rfl, rfl⟩]
  rcases hm2 with ⟨y1, ρ2, F2, s2, y2, g2, D2, y3, y4, y5⟩ | ⟨X2, y1, hXV2, ρ2, F2, s2, y2, g2, D2, y3, y4, y5, y6, ⟨y7, y8, y9, y10⟩, y11⟩
  · have y3' : qev en (d + 8) 365 [.ref 151, .int (nI w), .int (0 : Int32)] s6 = some (some (.int (-3)), mM ρ2 F2 s2 y2 g2 D2) := y3
    refine ⟨-3, mM ρ2 F2 s2 y2 g2 D2, start2 _ (by rw [y3', bI_some, if_neg (not_not_intro rfl)]), Or.inl ⟨rfl, ?_, Or.inr ⟨X, x1, Or.inr y1⟩⟩, f6.tr (fr_try y4 (fun _ _ _ => rfl)), Or.inl ⟨rfl, by rw [mM_F]; exact y5⟩⟩
    rw [mM_F, y4.2.1 150 (by omega)]; exact g150
  have y3' : qev en (d + 8) 365 [.ref 151, .int (nI w), .int (0 : Int32)] s6 = some (some (.int (nI (xN X2))), mM ρ2 F2 s2 y2 g2 D2) := y3
  have hxN2 := hXV2.1
  have nm32 : ¬ nI (xN X2) = (-3 : Int32) := fun z => by
    have := congrArg Int32.toInt z
    rw [n_to (by omega)] at this
    have h3 : (-3 : Int32).toInt = -3 := by decide
    omega
  have f7 : frSw n' nt σ (mM ρ2 F2 s2 y2 g2 D2) := f6.tr (fr_try y11 (fun _ _ _ => rfl))
  have hR7 : roP P2 w nt X2 (mM ρ2 F2 s2 y2 g2 D2) := by
    refine ⟨?_, fun i hi j hj => ?_, ?_, fun j hj => ?_⟩
    · rw [mM_F]; exact y4.2.2.1.2.1
    · rw [mM_o (by decide) (by decide) (by decide) (by decide)]; exact y4.2.2.1.2.2.2.1 i hi j hj
    · rw [mM_F]; exact y5.2.2.2.1.1
    · rw [mM_o (by decide) (by decide) (by decide) (by decide), mM_o (by decide) (by decide) (by decide) (by decide)]; exact y5.2.2.2.1.2.1 j hj
  have h1547 : (mM ρ2 F2 s2 y2 g2 D2).1 151 154 = nI (outL P w nt (xS X) (xN X)).length := by
    rw [mM_F, y11.2.1 154 (by omega), o6' 154 (by decide), w1.1 151 (by decide) (by decide) (by decide)]; exact h154
  have e247 : ∀ c, c = 247 ∨ c = 248 ∨ c = 249 → (mM ρ2 F2 s2 y2 g2 D2).1 c = s4.1 c := fun c hc => by
    rw [mM_o (by omega) (by omega) (by omega) (by omega), y11.1 c (by omega) (by omega), o6 c (by omega)]
    show (cpT (cpS s4 1 2 n') 1 2 nt).1 c = _
    rw [cpT_o (by omega), cpS_o (by omega)]
  have hW7 : wsP P w nt X (mM ρ2 F2 s2 y2 g2 D2) (outL P w nt (xS X) (xN X)).length := fun j hj => by
    rw [e247 247 (by omega), e247 248 (by omega), e247 249 (by omega)]; exact w2' j hj
  have start3 : ∀ q, L_X12_sound_225 en (d + 8) (-2 : Int32) (nI 0) (mM ρ2 F2 s2 y2 g2 D2) = some q → qev en (d + 9) 405 [.ref 151, .int (nI w)] σ = some q := fun q hq => start2 q (by
    rw [y3', bI_some, if_pos nm32]
    exact hq)
  have hEX : ∀ x, EXm P2 w nc nl nt n2 false X2 (uI (mM ρ2 F2 s2 y2 g2 D2) 151 150 x) := fun x => by
    have h0 : EXm P2 w nc nl nt n2 false X2 (mM ρ2 F2 s2 y2 g2 D2) := ⟨ρ2, F2, s2, y2, g2, D2, rfl, y4.W y10, y5, y6, y7, y8, y9, rfl⟩
    exact h0.fl (mb_cg (fun c a1 a2 a3 => uI_ne a3) h0.flat.1.1) ⟨fun c a1 a2 => uI_ne (by omega), fun j hj => by rw [g_I, if_neg (fun z => by omega)]⟩
  have f8 : ∀ x, frSw n' nt σ (uI (mM ρ2 F2 s2 y2 g2 D2) 151 150 x) := fun x => f7.tr ⟨fun c a1 a2 a3 _ _ _ _ _ _ _ => uI_ne a3, fun j a1 a2 a3 a4 => by rw [g_I, if_neg (fun z => a3 z.2)], fun c a1 a2 i hi => by rw [uI_ne (by omega)], fun i hi => by rw [uI_ne (by decide)], fun _ _ _ => rfl, fun _ _ => rfl⟩
  have h148 : ∀ x, (uI (mM ρ2 F2 s2 y2 g2 D2) 151 150 x).1 151 148 = 1 := fun x => by rw [g_I, if_neg (by decide), mM_F, y11.2.1 148 (by omega)]; exact g148
  have h121 : ∀ x, (uI (mM ρ2 F2 s2 y2 g2 D2) 151 150 x).1 151 121 = 0 := fun x => by rw [g_I, if_neg (by decide), mM_F]; exact y11.2.2.2
  rcases m_s225 (en := en) (d := d + 7) hw2 hXV hXV2 q4 hR7 h1547 hW7 (outL P2 w nt (xS X2) (xN X2)).length 0 (by omega) (fun j hj => absurd hj (Nat.not_lt_zero _)) with ⟨z1, z2⟩ | ⟨k, z1, z2, z3, z4⟩
  · refine ⟨1, _, start3 _ z1, Or.inr ⟨X, X2, x1, q4, y1, Or.inl ⟨rfl, ?_, z2⟩⟩, f8 _, Or.inr ⟨by decide, X2, y1, hEX _, h148 _, h121 _⟩⟩
    rw [g_I, if_pos ⟨rfl, rfl⟩, mM_F, y11.2.1 150 (by omega)]; exact g150
  · exact ⟨0, _, start3 _ z4, Or.inr ⟨X, X2, x1, q4, y1, Or.inr ⟨rfl, k, z1, by rw [g_I, if_pos ⟨rfl, rfl⟩], z2, z3⟩⟩, f8 _, Or.inr ⟨by decide, X2, y1, hEX _, h148 _, h121 _⟩⟩
/-- both say the same -/
theorem sndQ_eq {g0 r r' g g' : Int32} (h : sndQ P P2 w nc nl nt g0 r g) (h' : sndQ P P2 w nc nl nt g0 r' g') : r = r' ∧ g = g' := by
  rcases h with ⟨h1, h2, h3⟩ | ⟨X, X2, a1, a2, a3, a4⟩
  · rcases h' with ⟨k1, k2, k3⟩ | ⟨Y, Y2, b1, b2, b3, b4⟩
    · exact ⟨h1.trans k1.symm, h2.trans k2.symm⟩
    · exfalso
      rcases h3 with z | ⟨X, z1, z2⟩
      · rw [z] at b1; cases b1
      · rw [z1] at b1; cases b1
        rcases z2 with z | z
        · omega
        · rw [z] at b3; cases b3
  · rcases h' with ⟨k1, k2, k3⟩ | ⟨Y, Y2, b1, b2, b3, b4⟩
    · exfalso
      rcases k3 with z | ⟨Y, z1, z2⟩
      · rw [z] at a1; cases a1
      · rw [z1] at a1; cases a1
        rcases z2 with z | z
        · omega
        · rw [z] at a3; cases a3
    · rw [a1] at b1; cases b1
      rw [a3] at b3; cases b3
      rcases a4 with ⟨c1, c2, c3⟩ | ⟨c1, k, c2, c3, c4, c5⟩
      · rcases b4 with ⟨e1, e2, e3⟩ | ⟨e1, k', e2, e3, e4, e5⟩
        · exact ⟨c1.trans e1.symm, c2.trans e2.symm⟩
        · exact absurd (c3 k' e2) e4
      · rcases b4 with ⟨e1, e2, e3⟩ | ⟨e1, k', e2, e3, e4, e5⟩
        · exact absurd (e3 k c2) c4
        · have : k = k' := by
            rcases Nat.lt_trichotomy k k' with z | z | z
            · exact absurd (e5 k z) c4
            · exact z
            · exact absurd (c5 k' z) e4
          exact ⟨c1.trans e1.symm, by rw [c3, e3, this]⟩
end SNB
