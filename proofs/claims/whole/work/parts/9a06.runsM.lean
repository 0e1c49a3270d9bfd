/-! THE MODEL'S STEP is the class's. -/
/-- a text ends, and Q holds of what it gives -/
def exQ (X : Option qR) (Q : qR → Prop) : Prop := ∃ r, X = some r ∧ Q r
theorem exQ.le {X Y : Option qR} {Q : qR → Prop} (h : qle X Y) (g : exQ X Q) : exQ Y Q := by
  obtain ⟨r, h1, h2⟩ := g
  exact ⟨r, h r h1, h2⟩
theorem exQ.of {X : Option qR} {r : qR} {Q : qR → Prop} (h : X = some r) (g : Q r) : exQ X Q := ⟨r, h, g⟩
theorem exQ.ret {r : qR} {Q : qR → Prop} (g : Q r) : exQ (some r) Q := ⟨r, rfl, g⟩
theorem exQ.mono {X : Option qR} {Q R : qR → Prop} (h : exQ X Q) (g : ∀ r, Q r → R r) : exQ X R := by
  obtain ⟨r, h1, h2⟩ := h
  exact ⟨r, h1, g r h2⟩
section MS
variable {en : pN} {d t i n top k K w e a c l u ch nc nl nt vv j m p o : Nat} {v x z : Int32} {q : Nat} {σ : qS} {F s y g N : fI} {P : Nat → fI} {D : Int64}
theorem sl_in (h : SVl P nt N) (ht : t < 4) : ∀ k, k < 6 → inR (N (16 + t * 6 + k)) := by
  intro k hk
  rcases h t k ht hk with ⟨-, -, z⟩ | ⟨-, z⟩
  · exact z
  · rw [z]; exact ⟨by decide, by decide⟩
theorem sv_vw (h : SVw w nc nl nt N) (hw : w = 2) (ht : t < 4) (htn : t < nt) : vwV nc N (N (224 + t)) := by
  rcases h with ⟨z, -⟩ | ⟨-, -, h, -⟩
  · exact absurd hw z
  · rcases h t ht with ⟨-, z⟩ | ⟨z, -⟩
    · exact z
    · omega
/-- what the model's step leaves -/
def stQ (σ : qS) (P : Nat → fI) (w : Nat) (N : fI) (t ch nl nt vv : Nat) (F y : fI) (r : qR) : Prop := ∃ (F' s' y' g' : fI) (D' : Int64), r = (none, mM σ F' s' y' g' D') ∧ FE F F' ∧ MR w (stp P w N t ch nt) s' ∧ F' 68 = lnA P N t ch ∧ F' 69 = acA P w N t ch nt ∧ (ch ≠ 9 → F' 70 = P 9 (clp (N (4 + t)))) ∧ (acA P w N t ch nt = 15 ∨ acA P w N t ch nt = 16 → F' 71 = exr (exv P 5 N (clp (N (4 + t))))) ∧ (ch ≠ 9 → D' = σ.2.1 180 (100 * vv + clp (N (4 + t)))) ∧ F' 73 = ordS P N t ch nl (F 73) ∧ ((∀ u, u < nt → y u = N (8 + u)) → ∀ u, u < nt → y' u = stp P w N t ch nt (8 + u))
theorem wk_in {O Q M f : fI} : ∀ (n i top : Nat) (f : fI), inR (f 0) → wk O Q M n i f top = some v → inR v := by
  intro n
  induction n with
  | zero => intro i top f h0 h; cases h; exact h0
  | succ n ih =>
    intro i top f h0 h
    unfold wk at h
    dsimp only at h
    split at h
    · cases h
    · rename_i hx
      refine ih _ _ _ ?_ h
      by_cases z : 0 = top - ar (O i).toNatClampNeg
      · rw [← z, pk_us]
        rw [← z] at hx
        exact ⟨Int32.not_lt.mp fun q => hx (Or.inr q), Int32.not_lt.mp fun q => hx (Or.inl q)⟩
      · rw [pk_un z]; exact h0
theorem exv_in {r : Nat} (h : exv P r N i = some v) : inR v := wk_in (f := fun _ => 0) _ _ _ _ ⟨by decide, by decide⟩ h
theorem act_N (h : ¬ (actS w P N t ch nt i o k).1 = 0) : (actS w P N t ch nt i o k).2 = N := by
  revert h
  unfold actS
  split
  · unfold touS
    split
    · intro h; exact absurd rfl h
    · split
      · intro _; rfl
      · split
        · intro h; exact absurd rfl h
        · split
          · intro h; exact absurd rfl h
          · split
            · split
              · intro _; rfl
              · intro h; exact absurd rfl h
            · unfold add2
              split
              · intro _; rfl
              · intro h; exact absurd rfl h
  · split
    · unfold lckS
      split
      · split
        · intro _; rfl
        · intro h; exact absurd rfl h
      · split
        · intro _; rfl
        · split
          · intro h; exact absurd rfl h
          · split
            · intro h; exact absurd rfl h
            · intro h; exact absurd rfl h
    · split
      · unfold metS
        split
        · split
          · intro _; rfl
          · intro h; exact absurd rfl h
        · split
          · intro h; exact absurd rfl h
          · split
            · intro h; exact absurd rfl h
            · intro h; exact absurd rfl h
      · intro _; rfl
/-- a line's step, where the thread runs and the expressions have values -/
theorem m_runs (hB : MB σ vv P nc nl nt n) (hP : PV P nc nl nt n) (hS : SV P w nc nl nt n N) (hF : MF F w vv nc nl nt) (hR : MR w N s) (hw2 : w ≤ 2) (hi : i < n) (htn : t < nt) (h1 : N t = 1) (h4 : N (4 + t) = nI i) (hr : ch < chK P w N t nt i (ob P i) (kd P i)) (h9 : ch < 9) (h5 : exv P 5 N i = some v) (h7 : kd P i = 3 → exv P 7 N i = some z) (f68 : F 68 = nI i) (f69 : F 69 = nI (kd P i)) (f70 : F 70 = P 9 i) (f71 : F 71 = 0) (hD : D = σ.2.1 180 (100 * vv + i)) {F0 : fI} (hFE : FE F0 F) (h73 : F 73 = F0 73) {X : Option qR}
    (hX : ∀ Q, (kd P i = 0 → exQ (bV (qev en (d + 5) 323 [.ref 151, .int (nI t), .int (nI (100 * vv + i)), .int v] (mM σ F s y g D)) (fun s23 => L_X12_doStep_577 en (d + 5) (nI t) (nI (100 * vv + i)) v s23)) Q) → (kd P i = 1 → exQ (bI (qev en (d + 5) 321 [.ref 151, .int (nI t), .int (P 9 i), .int (nI ch)] (mM σ F s y g D)) (fun w25 s26 => if ¬ (s26.1 151 58) = (2 : Int32) then L_X12_doStep_426 en (d + 5) (nI t) (nI (100 * vv + i)) v w25 s26 else gd (p_inB (P 9 i) 8 = true) (if (s26.1 155 (P 9 i).toNatClampNeg) = (0 : Int32) then gd (p_inB ((204 : Int32) + nI t) 216 = true) (bI (qev en (d + 5) 304 [.int (s26.1 187 ((204 : Int32) + nI t).toNatClampNeg), .int (P 9 i)] s26) (fun w32 s33 => bI (qev en (d + 5) 305 [.int (s26.1 187 ((204 : Int32) + nI t).toNatClampNeg), .int (P 9 i), .int (w32 + nI ch)] s33) (fun w35 s36 => nm (uI s36 187 (((204 : Int32) + nI t).toNatClampNeg) w35) (fun s38 => L_X12_doStep_426 en (d + 5) (nI t) (nI (100 * vv + i)) v w25 s38)))) else bI (qev en (d + 5) 309 [.ref 151, .int (nI t), .int (P 9 i), .int (0 : Int32)] s26) (fun w39 s40 => L_X12_doStep_426 en (d + 5) (nI t) (nI (100 * vv + i)) v w39 s40)))) Q) → (kd P i = 2 → exQ (bV (qev en (d + 5) 322 [.ref 151, .int (nI t), .int (P 9 i), .int v] (mM σ F s y g D)) (fun s43 => L_X12_doStep_577 en (d + 5) (nI t) (nI (100 * vv + i)) v s43)) Q) → (kd P i = 3 ∨ kd P i = 4 → exQ (L_X12_doStep_449 en (d + 5) (nI t) (nI (100 * vv + i)) v z (mM σ F s y g D)) Q) → (5 ≤ kd P i ∧ kd P i ≤ 9 → exQ (L_X12_doStep_570 en (d + 5) (nI t) (nI ch) (nI (100 * vv + i)) v (mM σ F s y g D)) Q) → (kd P i = 10 → exQ (bV (qev en (d + 5) 326 [.ref 151, .int (nI t), .int (P 9 i)] (mM σ F s y g D)) (fun s46 => L_X12_doStep_577 en (d + 5) (nI t) (nI (100 * vv + i)) v s46)) Q) → (kd P i = 11 → exQ (bV (qev en (d + 5) 319 [.ref 151, .int (nI t), .int ((204 : Int32) + P 9 i)] (mM σ F s y g D)) (fun s49 => L_X12_doStep_577 en (d + 5) (nI t) (nI (100 * vv + i)) v s49)) Q) → (kd P i = 12 → exQ (if ¬ ((mM σ F s y g D).1 151 58) = (2 : Int32) then L_X12_doStep_577 en (d + 5) (nI t) (nI (100 * vv + i)) v (mM σ F s y g D) else gd (p_inB ((204 : Int32) + nI t) 216 = true) (bI (qev en (d + 5) 306 [.int ((mM σ F s y g D).1 187 212), .int ((mM σ F s y g D).1 187 ((204 : Int32) + nI t).toNatClampNeg)] (mM σ F s y g D)) (fun w53 s54 => nm (uI s54 187 212 w53) (fun s56 => nm (uI s56 187 (((204 : Int32) + nI t).toNatClampNeg) (s56.1 187 212)) (fun s57 => L_X12_doStep_577 en (d + 5) (nI t) (nI (100 * vv + i)) v s57))))) Q) → (kd P i = 13 ∨ kd P i = 17 ∨ kd P i = 18 → exQ (L_X12_doStep_577 en (d + 5) (nI t) (nI (100 * vv + i)) v (mM σ F s y g D)) Q) → (kd P i = 14 → exQ (if ¬ v = (0 : Int32) then L_X12_doStep_577 en (d + 5) (nI t) (nI (100 * vv + i)) v (mM σ F s y g D) else bV (qev en (d + 5) 317 [.ref 151, .int (nI t), .int (4 : Int32)] (mM σ F s y g D)) (fun s60 => L_X12_doStep_577 en (d + 5) (nI t) (nI (100 * vv + i)) v s60)) Q) → (kd P i = 15 ∨ kd P i = 16 → exQ (L_X12_doStep_558 en (d + 5) (nI t) (nI (100 * vv + i)) v (mM σ F s y g D)) Q) → exQ X Q) :
    exQ X (stQ σ P w N t ch nl nt vv F0 y) := by
  have hP' := hP
  have hS' := hS
  obtain ⟨⟨hc0, hc8⟩, ⟨hl0, hl4⟩, ⟨ht0, ht4⟩, ⟨hn0, hn100⟩, hln, hth⟩ := hP
  obtain ⟨St, Sl, Sk, Sc, Sq, Sw⟩ := hS
  obtain ⟨hv, hBl, hBc, hBt⟩ := hB
  have ht : t < 4 := by omega
  have hi100 : i < 100 := by omega
  have hL := hBl i hi
  have hlv := hln i hi
  have hl6 := ln_of hlv (fun t ht => (hth t ht).2.2)
  obtain ⟨⟨hk, hk19⟩, -, ho1, ho2, ho3, hx5, hx7⟩ := hlv
  have ei : clp (N (4 + t)) = i := by rw [h4]; exact n_clp (by omega)
  have hs : ∀ u, u < nt → N u = 2 → ∃ i, N (4 + u) = nI i ∧ i < n := by
    intro u hu h2
    rcases St.1 u hu with ⟨z, -⟩ | ⟨z, -⟩ | ⟨-, ⟨i, a1, a2, -⟩, -⟩ | ⟨z, -⟩
    · rcases z with z | z <;> rw [h2] at z <;> exact absurd z (by decide)
    · rw [h2] at z; exact absurd z (by decide)
    · exact ⟨i, a2, a1⟩
    · rw [h2] at z; exact absurd z (by decide)
  have eT : stp P w N t ch nt = linS w P N t ch nt i (ob P i) (kd P i) := by
    unfold stp
    rw [if_neg (show ¬ ch = 9 by omega), if_neg (show ¬ N t = 3 by rw [h1]; decide), ei]
  have eA : acA P w N t ch nt = if ¬ (actS w P N t ch nt i (ob P i) (kd P i)).1 = 0 then 21 else nI (kd P i) := by
    unfold acA
    rw [if_neg (show ¬ ch = 9 by omega), if_neg (show ¬ N t = 3 by rw [h1]; decide), ei]
  have eL : lnA P N t ch = nI i := by unfold lnA; rw [if_neg (show ¬ ch = 9 by omega), h4]
  -- behind the act: the thread goes on, and all is told
  have fin : ∀ (A : Int32 × fI) (F' s' y' : fI), actS w P N t ch nt i (ob P i) (kd P i) = A → resM w N t A F F' s' y y' → FE F F' → F' 68 = F 68 → F' 70 = F 70 → (kd P i = 15 ∨ kd P i = 16 → A.1 = 0 → F' 71 = v) → F' 73 = ordS P N t ch nl (F0 73) → exQ (L_X12_doStep_577 en (d + 5) (nI t) (nI (100 * vv + i)) v (mM σ F' s' y' g D)) (stQ σ P w N t ch nl nt vv F0 y) := by
    intro A F' s' y' hA hres g1 g2 g3 g4 g5
    have hho : kd P i = 10 → ob P i < 4 := fun z => by have := (ho3 (Or.inl z)).2; omega
    by_cases h0 : A.1 = 0
    · have hres : F' 69 = F 69 ∧ MR w A.2 s' ∧ y' = y := by
        have := hres
        unfold resM at this
        rwa [if_neg (not_not_intro h0)] at this
      obtain ⟨r1, r2, r3⟩ := hres
      obtain ⟨s2, e1, e2⟩ := m_577 (en := en) (d := d + 4) (σ := σ) (F := F') (y := y') (g := g) (D := D) (M0 := N) (v := v) hL hk hk19 hv hi100 ht r2 (by rw [g2, f68]) (by rw [h5]; rfl)
      refine exQ.of e1 ⟨F', s2, y', g, D, rfl, hFE.tr g1, ?_, ?_, ?_, ?_, ?_, ?_, g5, ?_⟩
      · rw [eT]; unfold linS; rw [hA, if_neg (not_not_intro h0)]; exact e2
      · rw [g2, f68, eL]
      · rw [r1, f69, eA, hA, if_neg (not_not_intro h0)]
      · intro _; rw [g3, f70, ei]
      · intro z
        rw [eA, hA, if_neg (not_not_intro h0), n_eq (by decide) (by omega), n_eq (by decide) (by omega)] at z
        rw [g4 z h0, ei, h5]; rfl
      · intro _; rw [ei]; exact hD
      · rw [eT]
        exact fun hy => y_lin hy ht ht4 hho (by rw [hA, if_neg (not_not_intro h0)]; exact r3)
    · have hres : F' 69 = 21 ∧ MR w (wrg N t A.1) s' ∧ y' = upd y t A.1 := by
        have := hres
        unfold resM at this
        rwa [if_pos h0] at this
      obtain ⟨r1, r2, r3⟩ := hres
      have hwt : wrg N t A.1 t = 5 := by unfold wrg; rw [pk_un (by omega), pk_un (by omega), pk_us]
      obtain ⟨s2, e1, e2⟩ := m_577 (en := en) (d := d + 4) (σ := σ) (F := F') (y := y') (g := g) (D := D) (M0 := N) (v := v) hL hk hk19 hv hi100 ht r2 (by rw [g2, f68]) (by rw [h5]; rfl)
      rw [if_neg (by rw [hwt]; decide)] at e2
      refine exQ.of e1 ⟨F', s2, y', g, D, rfl, hFE.tr g1, ?_, ?_, ?_, ?_, ?_, ?_, g5, ?_⟩
      · rw [eT]; unfold linS; rw [hA, if_pos h0]
        have : A.2 = N := by rw [← hA]; exact act_N (by rw [hA]; exact h0)
        rw [this]; exact e2
      · rw [g2, f68, eL]
      · rw [r1, eA, hA, if_pos h0]
      · intro _; rw [g3, f70, ei]
      · intro z
        rw [eA, hA, if_pos h0] at z
        rcases z with z | z <;> exact absurd z (by decide)
      · intro _; rw [ei]; exact hD
      · rw [eT]
        exact fun hy => y_lin hy ht ht4 hho (by rw [hA, if_pos h0]; exact r3)
  obtain ⟨e164, e166, e167, -⟩ := hL
  rw [hk] at e164
  have h73o : kd P i ≠ 5 → F 73 = ordS P N t ch nl (F0 73) := by
    intro z
    have hla : laS P N t = -1 := by
      unfold laS
      rw [if_neg]
      rintro (q | ⟨-, q⟩)
      · rw [h1] at q; exact absurd q (by decide)
      · rw [ei] at q; exact z q
    unfold ordS
    rw [if_neg (show ¬ ch = 9 by omega), hla, if_pos rfl]
    exact h73
  have res0 : ∀ (B : fI) (s' : fI), MR w B s' → resM w N t (0, B) F F s' y y := by
    intro B s' hB
    show if _ then _ else _
    rw [if_neg (not_not_intro rfl)]
    exact ⟨rfl, hB, rfl⟩
  have hw3 : ∀ y : w = 2, 1 ≤ kd P i → kd P i ≤ 4 → ceV nc N (ob P i) := fun y k1 k4 => sv_ce Sw y hc8 (ho1 k1 k4).2
  obtain ⟨q, hq, hq3⟩ := sv_q Sq ht
  have hroo : kd P i = 2 ∨ kd P i = 3 ∨ kd P i = 4 → roS P w N t i (ob P i) (kd P i) = true := by
    intro z
    unfold chK at hr
    by_cases y : ¬ N (56 + t) = 0 ∧ (3 ≤ kd P i ∧ kd P i ≤ 12 ∨ kd P i = 2 ∧ vol P (ob P i) = true)
    · rw [if_pos y] at hr; omega
    · rw [if_neg y, if_neg (by omega), if_pos z] at hr
      by_cases x : roS P w N t i (ob P i) (kd P i) = true
      · exact x
      · rw [if_neg x] at hr; omega
  have f426 : kd P i = 1 → ∀ (M M' : fI) (v' : Int32), MR w M M' → actS w P N t ch nt i (ob P i) (kd P i) = (0, setl P M t i v') → exQ (L_X12_doStep_426 en (d + 5) (nI t) (nI (100 * vv + i)) v v' (mM σ F M' y g D)) (stQ σ P w N t ch nl nt vv F0 y) := by
    intro k1 M M' v' hM hA
    obtain ⟨s', e1, e2⟩ := m_setl (en := en) (d := d + 4) (σ := σ) (F := F) (y := y) (g := g) (D := D) (v := v') e167 hM hv hi100 ht hl6
    refine exQ.le (le_X12_doStep_426 en (d + 5) _ _ _ _ _) ?_
    rw [e1, bV_some]
    exact fin _ F s' y hA (res0 _ _ e2) FE.rf rfl rfl (fun z => by omega) (h73o (by omega))
  refine hX _ ?_ ?_ ?_ ?_ ?_ ?_ ?_ ?_ ?_ ?_ ?_
  · intro k0
    obtain ⟨s', e1, e2⟩ := m_setl (en := en) (d := d + 4) (σ := σ) (F := F) (y := y) (g := g) (D := D) (v := v) e167 hR hv hi100 ht hl6
    rw [e1, bV_some]
    refine fin _ F s' y ?_ (res0 _ _ e2) FE.rf rfl rfl (fun z => by omega) (h73o (by omega))
    unfold actS touS
    rw [k0, if_pos (by decide), if_neg (by decide), h5]
    rfl
  · intro k1
    obtain ⟨ho, hoc⟩ := ho1 (by omega) (by omega)
    have hbc := (hBc _ hoc).2
    have o155 : ∀ (s : fI), (mM σ F s y g D).1 155 = σ.1 155 := fun s => mM_o (by decide) (by decide) (by decide) (by decide)
    have hnb : w = 2 → vol P (ob P i) = false → nb (N (224 + t)) (ob P i) + ch < clp (N (72 + ob P i)) := by
      intro y hv
      unfold chK at hr
      rw [if_neg (fun z => by omega), if_pos k1, if_pos ⟨y, hv⟩] at hr
      omega
    have hq1 : w ≠ 1 → q = 0 := by
      intro z
      rcases Sq t ht with ⟨z', -⟩ | ⟨-, z', -⟩
      · exact absurd z' z
      · rw [hq, n_eq (k := 0) (by decide) (by omega)] at z'; exact z'
    have hld := m_loaded (en := en) (d := d + 3) (σ := σ) (y := y) (g := g) (D := D) (ch := ch) hbc hF hR hw2 ht (by omega) hq hq3 hq1 (fun y hv => by
      have := hnb y hv
      obtain ⟨a, h72, -, a9, -⟩ := hw3 y (by omega) (by omega)
      rw [h72, n_clp (by omega)] at this
      omega)
    have hact : actS w P N t ch nt i (ob P i) (kd P i) = (0, lok w P (setl P N t i (ldb w P N t (ob P i) ch)) t (ob P i) ch) := by
      unfold actS touS
      rw [k1, if_pos (by decide), if_pos rfl]
    rw [ho, hld, bI_some]
    generalize hoo : ob P i = o at *
    by_cases h2 : w = 2
    · subst h2
      obtain ⟨a, h72, a1, a9, hme, -⟩ := hw3 rfl (by omega) (by omega)
      have e72 : ∀ v', setl P N t i v' (72 + o) = N (72 + o) := fun v' => fr_setl2 hl6 ht (by omega)
      cases hvo : vol P o
      · have ev : s (204 + t) = N (224 + t) := by rw [mr_v hR (by omega) (by omega), show 204 + t + 20 = 224 + t by omega]
        have hnb' := hnb rfl hvo
        rw [h72, n_clp (by omega)] at hnb'
        have g1 := uw_v (j := 204 + t) (v := sn (N (224 + t)) o (nb (N (224 + t)) o + ch)) hR (by omega) (by omega)
        rw [show 204 + t + 20 = 224 + t by omega] at g1
        have := f426 k1 _ _ (ldb 2 P N t o ch) g1 (by
          rw [hact]
          unfold lok
          rw [if_pos rfl, hvo, if_neg (by decide)]
          unfold vew
          rw [fr_setl2 hl6 ht (show 40 ≤ 224 + t by omega)]
          congr 1
          unfold setl
          split
          · rfl
          · rename_i hh
            rcases hl6 with z | ⟨jj, z, hj⟩
            · exact absurd (by rw [z]; decide) hh
            · rw [z, n_cl (by omega)]; exact upd_cm (by omega))
        simp (disch := omega) only [mM_F, hF.2.2.2.1, n_eq, not_true, if_false, n_in, gdT, o155, n_cl, hbc, hvo, bt_f, if_true, n_al, mM_s, ev, m_view (show o < 8 by omega), bI_some, nI_add, m_with (show o < 8 by omega), nm_eq, mM_ws]
        exact this
      · obtain ⟨s1, e1, e2⟩ := m_seeF (en := en) (d := d + 2) (σ := σ) (F := F) (y := y) (g := g) (D := D) hR ht (show o < 8 by omega) h72 a1 a9
        have e1 : qev en (d + 5) 309 [.ref 151, .int (nI t), .int (nI o), .int 0] (mM σ F s y g D) = _ := e1
        have n1 : ¬ ((1 : Int32) = 0) := by decide
        have hl0 : ldb 2 P N t o ch = N (80 + o * 9 + (a - 1)) := by
          unfold ldb
          rw [if_neg (fun z => by rw [hvo] at z; exact absurd z.2 (by decide)), hq, hq1 (by decide)]
          exact hme
        have := f426 k1 _ _ (N (80 + o * 9 + (a - 1))) e2 (by
          rw [hact, hl0]
          unfold lok
          rw [if_pos rfl, hvo, if_pos rfl, e72, h72, n_clp (by omega), fr_setl2 hl6 ht (show 40 ≤ 152 + o * 9 + a - 1 by omega)]
          unfold lrn
          rw [fr_setl2 hl6 ht (show 40 ≤ 224 + t by omega)]
          congr 1
          unfold setl
          split
          · rfl
          · rename_i hh
            rcases hl6 with z | ⟨jj, z, hj⟩
            · exact absurd (by rw [z]; decide) hh
            · rw [z, n_cl (by omega)]; exact upd_cm (by omega))
        simp (disch := omega) only [mM_F, hF.2.2.2.1, n_eq, not_true, if_false, n_in, gdT, o155, n_cl, hbc, hvo, bt_t, n1, e1, bI_some]
        exact this
    · have := f426 k1 _ _ (ldb w P N t o ch) hR (by rw [hact]; unfold lok; rw [if_neg h2])
      simp (disch := omega) only [mM_F, hF.2.2.2.1, n_eq, h2, not_false_eq_true, if_true]
      exact this
  · intro k2
    obtain ⟨ho, hoc⟩ := ho1 (by omega) (by omega)
    have hroo := hroo (Or.inl k2)
    obtain ⟨s', e1, e2⟩ := m_store (en := en) (d := d + 2) (σ := σ) (F := F) (y := y) (g := g) (D := D) (x := v) (hBc _ hoc).2 hF hR hw2 ht (show ob P i < 8 by omega) (exv_in h5) (fun z => by
      obtain ⟨a, h72, -, a9, -⟩ := hw3 z (by omega) (by omega)
      subst z
      have := ro_2 hroo (by omega)
      rw [h72, n_clp (by omega)] at this
      exact ⟨a, h72, this⟩) (fun z => by
      subst z
      have := ro_1 hroo
      rw [hq, n_clp (by omega)] at this
      exact ⟨q, hq, this⟩)
    have e1 : qev en (d + 5) 322 [.ref 151, .int (nI t), .int (nI (ob P i)), .int v] (mM σ F s y g D) = _ := e1
    rw [ho, e1, bV_some]
    refine fin _ F s' y ?_ (res0 _ _ e2) FE.rf rfl rfl (fun z => by omega) (h73o (by omega))
    unfold actS touS
    rw [k2, if_pos (by decide), if_neg (by decide), h5]
    rfl
  · intro k34
    obtain ⟨ho, hoc⟩ := ho1 (by omega) (by omega)
    have hroo := hroo (Or.inr k34)
    obtain ⟨F', s', y', e1, g1, g62, g68, g70, g71, g73, e2⟩ := m_atOnce (en := en) (d := d + 1) (σ := σ) (F := F) (s := s) (y := y) (g := g) (D := D) (x := v) (z := z) (c := ob P i) k34 e164 (by rw [e166, ho]) e167 hF hR hw2 hv hi100 ht (by omega) hl6 (fun zw => by
      obtain ⟨a, h72, a1, a9, hme, -⟩ := hw3 zw (by omega) (by omega)
      subst zw
      refine ⟨a, h72, a1, a9, hme, fun hor => ?_⟩
      rcases Nat.lt_or_ge a 9 with r | r
      · exact r
      · exfalso
        have hcl : ¬ clp (N (72 + ob P i)) < 9 := by rw [h72, n_clp (by omega)]; omega
        rcases k34 with k3 | k4
        · rw [k3] at hroo
          have := ro_3 hroo hcl (by rw [h7 k3]; exact fun z => by cases z) v h5
          rcases hor with z | z
          · omega
          · exact this z
        · exact hcl (ro_2 hroo (by omega)))
    have e1 : qev en (d + 5) 325 [.ref 151, .int (nI t), .int (nI (100 * vv + i)), .int v, .int z] (mM σ F s y g D) = _ := e1
    refine exQ.le (le_X12_doStep_449 en (d + 5) _ _ _ _ _) ?_
    rw [e1, bV_some]
    refine fin _ F' s' y' rfl ?_ g1 g68 g70 (fun z => by omega) (by rw [g73]; exact h73o (by omega))
    have hA : actS w P N t ch nt i (ob P i) (kd P i) = if kd P i = 3 then (0, swp w P N t (ob P i) i v z) else add2 w P N t (ob P i) i v := by
      rcases k34 with k3 | k4
      · unfold actS touS
        rw [k3, if_pos (by decide), if_neg (by decide), h5, if_pos rfl]
        simp only [h7 k3]
        rfl
      · unfold actS touS
        rw [k4, if_pos (by decide), if_neg (by decide), h5, if_neg (by decide)]
        rfl
    rw [hA]
    rcases k34 with k3 | k4
    · rw [if_pos k3]
      rw [if_neg (fun z => by omega), if_pos k3] at e2
      obtain ⟨rfl, e3, rfl⟩ := e2
      exact res0 _ _ e3
    · rw [if_neg (by omega)]
      unfold add2
      by_cases hx : 999 < N (48 + ob P i) + v ∨ N (48 + ob P i) + v < -999
      · rw [if_pos ⟨k4, hx⟩] at e2
        rw [if_pos hx]
        show if _ then _ else _
        rw [if_pos (show ¬ ((1 : Int32) = 0) by decide)]
        exact e2
      · rw [if_neg (fun z => hx z.2), if_neg (by omega)] at e2
        unfold add2 at e2
        rw [if_neg hx] at e2 ⊢
        obtain ⟨rfl, e3, rfl⟩ := e2
        exact res0 _ _ e3
  · rintro ⟨k5, k9⟩
    obtain ⟨ho, hol⟩ := ho2 k5 k9
    have hrdy : kd P i = 5 → N (40 + ob P i) = -1 ∨ N (40 + ob P i) = nI t := by
      intro z
      unfold chK at hr
      by_cases y : ¬ N (56 + t) = 0 ∧ (3 ≤ kd P i ∧ kd P i ≤ 12 ∨ kd P i = 2 ∧ vol P (ob P i) = true)
      · rw [if_pos y] at hr; omega
      · rw [if_neg y, if_neg (by omega), if_neg (by omega), if_pos z] at hr
        by_cases x : N (40 + ob P i) < 0 ∨ N (40 + ob P i) = nI t
        · rcases x with x | x
          · rcases Sk (ob P i) (by omega) with ⟨y, -⟩ | ⟨-, tt, qq, b1, b2, -⟩
            · exact Or.inl y
            · rw [b2] at x; exact absurd x (nI_pos (by omega))
          · exact Or.inr x
        · rw [if_neg x] at hr; omega
    obtain ⟨F', s', y', e1, g1, g62, g68, g70, g71, g73, e2⟩ := m_lock (en := en) (d := d) (σ := σ) (F := F) (s := s) (y := y) (g := g) (D := D) (l := ob P i) k5 k9 e164 (by rw [e166, ho]) (fun i hi => (hBl i hi).2.1) hF hR hw2 hv hl4 ht4 hn100 hi100 ht (by omega) (show ch < 100 by omega) h1 hs Sk hrdy
    refine exQ.le (le_X12_doStep_570 en (d + 5) _ _ _ _ _) ?_
    rw [e1, bV_some]
    have hA : actS w P N t ch nt i (ob P i) (kd P i) = lckS P N t (ob P i) ch (kd P i) nt := by
      unfold actS
      rw [if_neg (by omega), if_pos k9]
    refine fin _ F' s' y' hA e2 g1 g68 g70 (fun z => by omega) ?_
    rw [g73]
    by_cases z : kd P i = 5
    · unfold ordS
      have hla : laS P N t = nI (ob P i) := by
        unfold laS
        rw [if_pos (Or.inr ⟨h1, by rw [ei]; exact z⟩), ei]
      have hnm : ¬ nI (ob P i) = -1 := by rw [n_m1 (by omega)]; exact fun z => z
      rw [if_neg (show ¬ ch = 9 by omega), hla, if_neg hnm, n_clp (by omega), h73]
      by_cases y : N (40 + ob P i) = nI t
      · rw [if_neg (fun z => z.2 y), if_pos y]
      · rw [if_pos ⟨z, y⟩, if_neg y]
    · rw [if_neg (fun y => z y.1)]
      exact h73o z
  · intro k10
    obtain ⟨ho, hou⟩ := ho3 (Or.inl k10)
    obtain ⟨-, h5u, h181⟩ := hBt _ hou
    obtain ⟨F', s', y', e1, g1, g62, g68, g70, g71, g73, e2⟩ := m_other (en := en) (d := d + 2) (σ := σ) (F := F) (s := s) (y := y) (g := g) (D := D) rfl h181 h5u hF hR hw2 hv ht (show ob P i < 4 by omega) h1
    have e1 : qev en (d + 5) 326 [.ref 151, .int (nI t), .int (nI (ob P i))] (mM σ F s y g D) = _ := e1
    rw [ho, e1, bV_some]
    have hA : actS w P N t ch nt i (ob P i) (kd P i) = metS P N t (ob P i) 10 := by
      unfold actS
      rw [k10, if_neg (by decide), if_neg (by decide), if_pos (by decide)]
    exact fin _ F' s' y' hA e2 g1 g68 g70 (fun z => by omega) (by rw [g73]; exact h73o (by omega))
  · intro k11
    obtain ⟨ho, hou⟩ := ho3 (Or.inr k11)
    obtain ⟨s', e1, e2⟩ := m_jv (en := en) (d := d + 2) (σ := σ) (F := F) (y := y) (g := g) (D := D) (a := 204 + ob P i) hF hR hw2 ht (by omega) (by omega)
    have e1 : qev en (d + 5) 319 [.ref 151, .int (nI t), .int (nI (204 + ob P i))] (mM σ F s y g D) = _ := e1
    simp (disch := omega) only [ho, n_al, e1, bV_some]
    rw [show 204 + ob P i + 20 = 224 + ob P i by omega] at e2
    refine fin _ F s' y ?_ (res0 _ _ e2) FE.rf rfl rfl (fun z => by omega) (h73o (by omega))
    unfold actS metS
    rw [k11, if_neg (by decide), if_neg (by decide), if_pos (by decide), if_neg (by decide), if_pos rfl]
  · intro k12
    have hA : actS w P N t ch nt i (ob P i) (kd P i) = (0, upd (lrn N t (N 232)) 232 (jn (N (224 + t)) (N 232))) := by
      unfold actS metS
      rw [k12, if_neg (by decide), if_neg (by decide), if_pos (by decide), if_neg (by decide), if_neg (by decide), if_pos rfl]
    by_cases h2 : w = 2
    · subst h2
      have ev : s (204 + t) = N (224 + t) := by rw [mr_v hR (by omega) (by omega), show 204 + t + 20 = 224 + t by omega]
      have ef : s 212 = N 232 := mr_v hR (by decide) (by decide)
      have g1 := uw_v (j := 212) (v := jn (N 232) (N (224 + t))) hR (by decide) (by decide)
      have g2 := uw_v (j := 204 + t) (v := jn (N 232) (N (224 + t))) g1 (by omega) (by omega)
      have e : upd (upd N (212 + 20) (jn (N 232) (N (224 + t)))) (204 + t + 20) (jn (N 232) (N (224 + t))) = upd (lrn N t (N 232)) 232 (jn (N (224 + t)) (N 232)) := by
        unfold lrn
        rw [show 204 + t + 20 = 224 + t by omega, upd_cm (show 212 + 20 ≠ 224 + t by omega), jn_comm]
      rw [e] at g2
      simp (disch := omega) only [mM_F, hF.2.2.2.1, n_eq, not_true, if_false, n_al, n_in, gdT, n_cl, mM_s, ev, ef, m_join, bI_some, nm_eq, mM_ws, pk_us]
      exact fin _ F _ y hA (res0 _ _ g2) FE.rf rfl rfl (fun z => by omega) (h73o (by omega))
    · simp (disch := omega) only [mM_F, hF.2.2.2.1, n_eq, h2, not_false_eq_true, if_true]
      exact fin _ F _ y hA (res0 _ _ (uw_nv (uw_nv hR h2 hw2 (by omega)) h2 hw2 (by decide))) FE.rf rfl rfl (fun z => by omega) (h73o (by omega))
  · intro kk
    refine fin (0, N) F s y ?_ (res0 _ _ hR) FE.rf rfl rfl (fun z => by omega) (h73o (by omega))
    rcases kk with z | z | z
    · unfold actS metS
      rw [z, if_neg (by decide), if_neg (by decide), if_pos (by decide), if_neg (by decide), if_neg (by decide), if_neg (by decide)]
    · unfold actS telS
      rw [z, if_neg (by decide), if_neg (by decide), if_neg (by decide), h5]
      rfl
    · unfold actS telS
      rw [z, if_neg (by decide), if_neg (by decide), if_neg (by decide), h5]
      rfl
  · intro k14
    have hA : actS w P N t ch nt i (ob P i) (kd P i) = (if v = 0 then 4 else 0, N) := by
      unfold actS telS
      rw [k14, if_neg (by decide), if_neg (by decide), if_neg (by decide), h5]
      simp only [true_and]
    by_cases v0 : v = 0
    · obtain ⟨s', e1, e2⟩ := m_wrong (en := en) (d := d + 4) (σ := σ) (F := F) (y := y) (g := g) (D := D) (x := 4) hR ht
      rw [if_neg (not_not_intro v0), e1, bV_some]
      rw [if_pos v0] at hA
      refine fin _ (upd F 69 21) s' (upd y t 4) hA ?_ (FE.up (by decide) (by decide)) (pk_un (by decide)) (pk_un (by decide)) (fun z => by omega) ((pk_un (by decide)).trans (h73o (by omega)))
      show if _ then _ else _
      rw [if_pos (show ¬ ((4 : Int32) = 0) by decide)]
      exact ⟨pk_us, e2, rfl⟩
    · rw [if_pos v0]
      rw [if_neg v0] at hA
      exact fin _ F s y hA (res0 _ _ hR) FE.rf rfl rfl (fun z => by omega) (h73o (by omega))
  · intro kk
    have hA : actS w P N t ch nt i (ob P i) (kd P i) = (0, N) := by
      unfold actS telS
      rcases kk with z | z <;> rw [z, if_neg (by decide), if_neg (by decide), if_neg (by decide), h5] <;> rfl
    refine exQ.le (le_X12_doStep_558 en (d + 5) _ _ _ _) ?_
    simp only [nm_eq, mM_wF]
    refine fin _ (upd F 71 v) s y hA ?_ (FE.up (by decide) (by decide)) (pk_un (by decide)) (pk_un (by decide)) (fun _ _ => pk_us) ((pk_un (by decide)).trans (h73o (by omega)))
    show if _ then _ else _
    rw [if_neg (not_not_intro rfl)]
    exact ⟨pk_un (by decide), hR, rfl⟩
end MS
