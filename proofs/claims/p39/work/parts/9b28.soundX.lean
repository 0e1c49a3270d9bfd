/-! SOUND, the class's side: outcomes kept and looked for. -/
/-- the outcome of K is one of those of X -/
abbrev isO (P : Nat → fI) (w nt : Nat) (X : xT) (K : fI) : Prop := ∃ i, i < (outL P w nt (xS X) (xN X)).length ∧ eqO nt (xS X (oK P w nt X i)) K
/-- the rows of the outcomes of X lie as the class keeps them -/
abbrev rwO (P : Nat → fI) (w nc nl nt : Nat) (X : xT) (s : qS) : Prop := RW s 87 84 88 89 15 (outL P w nt (xS X) (xN X)).length ((slO P nc nt).length / 2) 20000 (fun i => (outL P w nt (xS X) (xN X)).getD i 0 * ((slA P w nc nl nt).length / 2)) (fun i => pkR (slO P nc nt) (cnS nt (xS X ((outL P w nt (xS X) (xN X)).getD i 0))))
/-- the first outcomes of X kept -/
abbrev rwT (P : Nat → fI) (w nc nt : Nat) (X : xT) (s : qS) (i : Nat) : Prop := RW s 99 100 101 102 13 i ((slO P nc nt).length / 2) 4000 (fun j => j * ((slO P nc nt).length / 2)) (fun j => pkR (slO P nc nt) (cnS nt (xS X (oK P w nt X j))))
abbrev frK9 (s s' : qS) : Prop := (∀ c, c ≠ 99 → c ≠ 101 → c ≠ 102 → s'.1 c = s.1 c) ∧ (∀ a, a ≠ 100 → s'.2.1 a = s.2.1 a) ∧ s'.2.2 = s.2.2
section SNX
variable {en : pN} {d w nc nl nt n n2 i : Nat} {P P2 : Nat → fI} {s s' s'' τ : qS} {X X2 : xT} {N M : fI} {v1 : Int32}
theorem slO_same (h : ∀ u, u < nt → P2 3 u = P 3 u) : slO P2 nc nt = slO P nc nt := by
  have key : ∀ t, t ≤ nt → locL P2 t = locL P t := by
    intro t
    induction t with
    | zero => intro _; rfl
    | succ t ih =>
      intro ht
      unfold locL
      rw [ih (by omega)]
      unfold lct
      rw [h t (by omega)]
  unfold slO
  rw [key nt (Nat.le_refl _)]
/-- rows of outcomes of two programs with the same names -/
theorem co_sm2 (hP : PV P nc nl nt n) (hP2 : PV P2 nc nl nt n2) (h3 : ∀ u, u < nt → P2 3 u = P 3 u) (hS : SV P w nc nl nt n N) (hM : SV P2 w nc nl nt n2 M) : (∀ j, j < (slO P nc nt).length / 2 → pkR (slO P nc nt) (cnS nt N) j = pkR (slO P nc nt) (cnS nt M) j) ↔ eqO nt N M := by
  have he := (slO_len hP).2
  have hc8 := hP.1.2
  have hl4 := hP.2.1.2
  have ht4 := hP.2.2.1.2
  have hsl := slO_same (nc := nc) h3
  have so3 : ∀ K : fI, soS K nt ≤ 2 := fun K => soF_le nt 0 true
  have nq : ∀ (Q : Nat → fI) j, slO Q nc nt = slO P nc nt → j ∉ slO P nc nt → (16 ≤ j ∧ j < 40) ∨ (48 ≤ j ∧ j < 56) → ¬ slP Q w nc nl nt j := fun Q j hQ q hj z => by
    rcases z with z | z
    · rw [hQ] at z; exact q z
    · omega
  constructor
  · intro h
    have e := pkR_inj he h
    refine ⟨?_, fun j h1 h2 => ?_, fun j h1 h2 => ?_⟩
    · have := e 233 (slO_of (Or.inl rfl))
      unfold cnS at this
      rw [if_neg (by decide), if_pos rfl, if_neg (by decide), if_pos rfl] at this
      have a1 := so3 N
      have a2 := so3 M
      exact (nI_eq (by omega) (by omega)).mp this
    · by_cases q : j ∈ slO P nc nt
      · have := e j q
        unfold cnS at this
        rwa [if_pos (by omega), if_pos (by omega)] at this
      · rw [SV_cst hP hS (by omega) (nq P j rfl q (Or.inl ⟨h1, h2⟩)), SV_cst hP2 hM (by omega) (nq P2 j hsl q (Or.inl ⟨h1, h2⟩))]
    · by_cases q : j ∈ slO P nc nt
      · have := e j q
        unfold cnS at this
        rwa [if_pos (by omega), if_pos (by omega)] at this
      · rw [SV_cst hP hS (by omega) (nq P j rfl q (Or.inr ⟨h1, h2⟩)), SV_cst hP2 hM (by omega) (nq P2 j hsl q (Or.inr ⟨h1, h2⟩))]
  · intro h
    refine pkR_cg he fun a ha => ?_
    unfold cnS
    rcases slO_mem ha with z | z | z | ⟨u, j, z1, z2, z3⟩
    · rw [if_neg (by omega), if_pos z, if_neg (by omega), if_pos z, h.1]
    · rw [if_neg (by omega), if_neg (by omega), if_neg (by omega), if_neg (by omega)]
    · rw [if_pos (by omega), if_pos (by omega)]; exact h.2.2 a (by omega) (by omega)
    · have := (hP.2.2.2.2.2 u z1).2.2
      rw [if_pos (by omega), if_pos (by omega)]; exact h.2.1 a (by omega) (by omega)
theorem frK9.rf : frK9 s s := ⟨fun _ _ _ _ => rfl, fun _ _ => rfl, rfl⟩
theorem frK9.tr (h : frK9 s s') (g : frK9 s' s'') : frK9 s s'' := ⟨fun c a b e => (g.1 c a b e).trans (h.1 c a b e), fun a ha => (g.2.1 a ha).trans (h.2.1 a ha), g.2.2.trans h.2.2⟩
theorem x_s99 (hP : PV P nc nl nt n) (hX : XV P w nc nl nt n X) (hl4 : (outL P w nt (xS X) (xN X)).length ≤ 4000) :
    ∀ (m i : Nat) (s : qS), i + m = (outL P w nt (xS X) (xN X)).length → rwO P w nc nl nt X s → rwT P w nc nt X s i → ∃ s', frK9 s s' ∧ rwT P w nc nt X s' (outL P w nt (xS X) (xN X)).length ∧ ∀ r, (bI (qev en (d + 3) 177 [.ref 70, .ref 36, .int v1, .int (0 : Int32)] (uI s' 0 11 (1 : Int32))) (fun w3 s4 => if (0 : Int32) ≤ w3 then L_X11_sound_175 en (d + 3) (0 : Int32) s4 else some (some (.int (-3 : Int32)), s4)) : Option qR) = some r → L_X11_sound_99 en (d + 3) v1 (nI i) s = some r := by
  have hO := slO_len hP
  intro m
  induction m with
  | zero =>
    intro i s hi h87 h99
    have ei : i = (outL P w nt (xS X) (xN X)).length := by omega
    refine ⟨s, frK9.rf, by rw [← ei]; exact h99, fun r hr => le_X11_sound_99 en _ _ _ _ _ ?_⟩
    rw [h87.1, ei, if_pos (Int32.le_refl _), nm_eq]
    exact hr
  | succ m ih =>
    intro i s hi h87 h99
    have hw : (slO P nc nt).length / 2 ≤ 17 := by omega
    have hb := h87.2.2.2.2.1 i (by omega)
    dsimp only at hb
    obtain ⟨b1, b2, b3⟩ := hb
    have hln : ln 84 = 740000 := rfl
    have hSk : ∀ j, j < (outL P w nt (xS X) (xN X)).length → SV P w nc nl nt n (xS X (oK P w nt X j)) := fun j hj => hX.2.1 _ (outL_lt _ _ (getD_mem hj))
    generalize hst : (outL P w nt (xS X) (xN X)).getD i 0 * ((slA P w nc nl nt).length / 2) = st at b1 b2 b3
    have start : ∀ (z : Int32) s1, qev en (d + 3) 150 [.ref 99, .ref 84, .int (nI st)] s = some (some (.int z), s1) → ∀ r, L_X11_sound_99 en (d + 3) v1 (nI (i + 1)) s1 = some r → L_X11_sound_99 en (d + 3) v1 (nI i) s = some r := fun z s1 e r hr => by
      refine le_X11_sound_99 en _ _ _ _ _ ?_
      rw [h87.1, if_neg (by rw [n_LE (by omega) (by omega)]; omega), gd_true (n_in (by omega) (by decide)), n_cl (by omega), b1, e, bI_some, show nI i + (1 : Int32) = nI (i + 1) from n_ar]
      exact hr
    rcases x_put (en := en) (d := d) (a := 84) (f := st) (g := pkR (slO P nc nt) (cnS nt (xS X (oK P w nt X i)))) rw99 h99 (fun _ _ => rfl) (by decide) ⟨Nat.le_trans (Nat.mul_le_mul_left 4000 hw) (by decide), by decide, by decide⟩ (by omega) rfl (by decide) b2 (by decide) b3 with ⟨j, hj, hs, -⟩ | ⟨-, ⟨-, s1, e, f, hR⟩ | ⟨h, -⟩⟩
    · exfalso
      have h1 := (co_sm hP (hSk i (by omega)) (hSk j (by omega))).mp hs
      have := outL_unl (xN X) i j (by omega) (by omega) h1
      omega
    · obtain ⟨f1, f2, f3, f4, f5⟩ := f
      have hf : frK9 s s1 := ⟨fun c a b e => f1 c a b e, fun a ha => f3 a ha, f5⟩
      have hR' : rwT P w nc nt X s1 (i + 1) := by
        have e1 : (fun j => if j = i then i * ((slO P nc nt).length / 2) else j * ((slO P nc nt).length / 2)) = fun j => j * ((slO P nc nt).length / 2) := funext fun j => by
          by_cases z : j = i
          · rw [if_pos z, z]
          · rw [if_neg z]
        have e2 : (fun j => if j = i then pkR (slO P nc nt) (cnS nt (xS X (oK P w nt X i))) else pkR (slO P nc nt) (cnS nt (xS X (oK P w nt X j)))) = fun j => pkR (slO P nc nt) (cnS nt (xS X (oK P w nt X j))) := funext fun j => by
          by_cases z : j = i
          · rw [if_pos z, z]
          · rw [if_neg z]
        rw [e1, e2] at hR
        exact hR
      obtain ⟨s2, g1, g2, g3⟩ := ih (i + 1) s1 (by omega) (rw87m h87 (fun c hc => f1 c (by omega) (by omega) (by omega)) (f3 84 (by decide))) hR'
      exact ⟨s2, hf.tr g1, g2, fun r hr => start _ s1 e r (g3 r hr)⟩
    · omega
theorem x_s175 (hP : PV P nc nl nt n) (hP2 : PV P2 nc nl nt n2) (h3 : ∀ u, u < nt → P2 3 u = P 3 u) (hX : XV P w nc nl nt n X) (hX2 : XV P2 w nc nl nt n2 X2) (h87 : rwO P2 w nc nl nt X2 s) (h99 : rwT P w nc nt X s (outL P w nt (xS X) (xN X)).length) :
    ∀ (m i : Nat), i + m = (outL P2 w nt (xS X2) (xN X2)).length → (∀ j, j < i → isO P w nt X (xS X2 (oK P2 w nt X2 j))) → (L_X11_sound_175 en (d + 3) (nI i) s = some (some (.int 1), s) ∧ ∀ j, j < (outL P2 w nt (xS X2) (xN X2)).length → isO P w nt X (xS X2 (oK P2 w nt X2 j))) ∨ ∃ g, g < (outL P2 w nt (xS X2) (xN X2)).length ∧ ¬ isO P w nt X (xS X2 (oK P2 w nt X2 g)) ∧ (∀ j, j < g → isO P w nt X (xS X2 (oK P2 w nt X2 j))) ∧ L_X11_sound_175 en (d + 3) (nI i) s = some (some (.int 0), uI s 0 14 (nI g)) := by
  have hO := slO_len hP
  have hsl := slO_same (nc := nc) h3
  have hlim := @lim_le w
  have hxN := hX.1
  have hol := outL_len (P := P) (w := w) (nt := nt) (S := xS X) (xN X)
  have hol2 := outL_len (P := P2) (w := w) (nt := nt) (S := xS X2) (xN X2)
  have hxN2 := hX2.1
  intro m
  induction m with
  | zero =>
    intro i hi hin
    left
    refine ⟨le_X11_sound_175 en _ _ _ _ ?_, fun j hj => hin j (by omega)⟩
    rw [h87.1, if_pos (by rw [n_LE (by omega) (by omega)]; omega)]
  | succ m ih =>
    intro i hi hin
    have hw : (slO P nc nt).length / 2 ≤ 17 := by omega
    have hb := h87.2.2.2.2.1 i (by omega)
    dsimp only at hb
    obtain ⟨b1, b2, b3⟩ := hb
    have hln : ln 84 = 740000 := rfl
    have hSk : ∀ j, j < (outL P w nt (xS X) (xN X)).length → SV P w nc nl nt n (xS X (oK P w nt X j)) := fun j hj => hX.2.1 _ (outL_lt _ _ (getD_mem hj))
    have hSi : SV P2 w nc nl nt n2 (xS X2 (oK P2 w nt X2 i)) := hX2.2.1 _ (outL_lt _ _ (getD_mem (by omega)))
    generalize hst : (outL P2 w nt (xS X2) (xN X2)).getD i 0 * ((slA P2 w nc nl nt).length / 2) = st at b1 b2 b3
    rw [hsl] at b2 b3
    have start : ∀ z : Int32, qev en (d + 3) 149 [.ref 99, .ref 84, .int (nI st)] s = some (some (.int z), s) → ∀ r, (if (0 : Int32) ≤ z then L_X11_sound_175 en (d + 3) (nI (i + 1)) s else some (some (.int (0 : Int32)), uI s 0 14 (nI i))) = some r → L_X11_sound_175 en (d + 3) (nI i) s = some r := fun z e r hr => by
      refine le_X11_sound_175 en _ _ _ _ ?_
      rw [h87.1, if_neg (by rw [n_LE (by omega) (by omega)]; omega), gd_true (n_in (by omega) (by decide)), n_cl (by omega), b1, e, bI_some, nm_eq, show nI i + (1 : Int32) = nI (i + 1) from n_ar]
      exact hr
    rcases x_numberOf (en := en) (d := d) (a := 84) (f := st) (g := pkR (slO P nc nt) (cnS nt (xS X2 (oK P2 w nt X2 i)))) rw99 h99 (by omega) rfl b2 (by decide) b3 with ⟨j, hj, hs, e⟩ | ⟨hno, e⟩
    · have h1 := (co_sm2 hP hP2 h3 (hSk j hj) hSi).mp (fun q hq => (hs q hq).symm)
      have hin' : ∀ q, q < i + 1 → isO P w nt X (xS X2 (oK P2 w nt X2 q)) := fun q hq => by
        by_cases z : q = i
        · rw [z]; exact ⟨j, hj, h1⟩
        · exact hin q (by omega)
      have hgo : ∀ r, L_X11_sound_175 en (d + 3) (nI (i + 1)) s = some r → L_X11_sound_175 en (d + 3) (nI i) s = some r := fun r hr => start _ e r (by
        rw [if_pos (by rw [show (0 : Int32) = nI 0 from rfl, n_LE (by omega) (by omega)]; omega)]; exact hr)
      rcases ih (i + 1) (by omega) hin' with ⟨k1, k2⟩ | ⟨g, g1, g2, g3, g4⟩
      · exact Or.inl ⟨hgo _ k1, k2⟩
      · exact Or.inr ⟨g, g1, g2, g3, hgo _ g4⟩
    · right
      refine ⟨i, by omega, ?_, hin, start _ e _ (by rw [if_neg (by decide)])⟩
      rintro ⟨j, hj, h⟩
      exact hno j hj (fun q hq => ((co_sm2 hP hP2 h3 (hSk j hj) hSi).mpr h q hq).symm)
/-- what sound says -/
abbrev sndQ (P P2 : Nat → fI) (w nc nl nt : Nat) (g0 : Int32) (r g : Int32) : Prop :=
  (r = -3 ∧ g = g0 ∧ (expl P w nc nl nt false = none ∨ (∃ X, expl P w nc nl nt false = some X ∧ (4000 < (outL P w nt (xS X) (xN X)).length ∨ expl P2 w nc nl nt false = none)))) ∨
  ∃ X X2, expl P w nc nl nt false = some X ∧ (outL P w nt (xS X) (xN X)).length ≤ 4000 ∧ expl P2 w nc nl nt false = some X2 ∧ ((r = 1 ∧ g = g0 ∧ ∀ j, j < (outL P2 w nt (xS X2) (xN X2)).length → isO P w nt X (xS X2 (oK P2 w nt X2 j))) ∨ (r = 0 ∧ ∃ k, k < (outL P2 w nt (xS X2) (xN X2)).length ∧ g = nI k ∧ ¬ isO P w nt X (xS X2 (oK P2 w nt X2 k)) ∧ ∀ j, j < k → isO P w nt X (xS X2 (oK P2 w nt X2 j))))
end SNX

