/-! THE MODEL'S MACHINE: leaves. -/
theorem upd_cm {f : fI} {a b : Nat} {x z : Int32} (h : a ≠ b) : upd (upd f a x) b z = upd (upd f b z) a x := by
  funext j
  by_cases h1 : j = b
  · rw [h1, pk_us, pk_un (Ne.symm h), pk_us]
  · rw [pk_un h1]
    by_cases h2 : j = a
    · rw [h2, pk_us, pk_us]
    · rw [pk_un h2, pk_un h2, pk_un h1]
theorem upd_id {f : fI} {a : Nat} {x : Int32} (h : f a = x) : upd f a x = f := by
  funext j
  by_cases h1 : j = a
  · rw [h1, pk_us, h]
  · rw [pk_un h1]
/-- the class's word for no line -/
def uv (x : Int32) : Int32 := if x = -2 then -1 else x
def isL (P : Nat → fI) (t : Nat) : Bool := decide (¬ ((P 0 8 >>> (nI t &&& 31)) &&& (1 : Int32)) = 0)
/-- a line of both -/
def lnM (σ : qS) (v : Nat) (P : Nat → fI) (nt i : Nat) : Prop := σ.1 164 (100 * v + i) = P 7 i ∧ σ.1 166 (100 * v + i) = P 9 i ∧ σ.1 167 (100 * v + i) = P 10 i ∧
  (kd P i = 17 → P 23 i = uv (if σ.1 173 (100 * v + i) = -2 then σ.1 174 (100 * v + i) else σ.1 173 (100 * v + i)) ∧ P 22 i = uv (if σ.1 172 (100 * v + i) = -2 then σ.1 174 (100 * v + i) else σ.1 172 (100 * v + i))) ∧
  (kd P i = 18 → P 22 i = if σ.1 172 (100 * v + i) = -2 then nI i else σ.1 172 (100 * v + i)) ∧ (kd P i ≠ 17 → P 23 i = uv (σ.1 174 (100 * v + i))) ∧
  (∃ t, t < nt ∧ P 8 i = nI t ∧ exM σ P t 5 i (σ.1 176 (100 * v + i)) (σ.1 177 (100 * v + i)) ∧ exM σ P t 7 i (σ.1 178 (100 * v + i)) (σ.1 179 (100 * v + i))) ∧
  (kd P i = 1 ∨ 5 ≤ kd P i ∧ kd P i ≤ 13 → P 12 i = P 13 i) ∧ (kd P i ≠ 3 → P 14 i = P 15 i) ∧ (∀ r, r = 172 ∨ r = 173 ∨ r = 174 → σ.1 r (100 * v + i) = -2 ∨ ∃ j, σ.1 r (100 * v + i) = nI j ∧ j < 100)
/-- the model's tables with number v tell the program P -/
abbrev MB (σ : qS) (v : Nat) (P : Nat → fI) (nc nl nt n : Nat) : Prop := v ≤ 3 ∧ (∀ i, i < n → lnM σ v P nt i) ∧ (∀ c, c < nc → σ.1 154 c = P 4 c ∧ σ.1 155 c = bt (vol P c)) ∧ (∀ t, t < nt → σ.1 158 t = bt (isL P t) ∧ P 5 t = uv (σ.1 181 (4 * v + t)) ∧ (σ.1 181 (4 * v + t) = -2 ∨ ∃ j, σ.1 181 (4 * v + t) = nI j ∧ j < 100))
/-- the model's fields -/
abbrev MF (F : fI) (w v nc nl nt : Nat) : Prop := F 12 = nI nc ∧ F 16 = nI nl ∧ F 18 = nI nt ∧ F 58 = nI w ∧ F 59 = nI v
/-- fields that a step may change -/
abbrev FE (F G : fI) : Prop := ∀ j, j < 62 ∨ 74 ≤ j → G j = F j
theorem FE.rf {F : fI} : FE F F := fun _ _ => rfl
theorem FE.tr {F G H : fI} (h : FE F G) (g : FE G H) : FE F H := fun j hj => (g j hj).trans (h j hj)
theorem FE.up {F : fI} {k : Nat} {x : Int32} (h1 : 62 ≤ k) (h2 : k < 74) : FE F (upd F k x) := fun j hj => pk_un (by omega)
theorem MF.fe {F G : fI} {w v nc nl nt : Nat} (h : MF F w v nc nl nt) (g : FE F G) : MF G w v nc nl nt := ⟨(g 12 (by omega)).trans h.1, (g 16 (by omega)).trans h.2.1, (g 18 (by omega)).trans h.2.2.1, (g 58 (by omega)).trans h.2.2.2.1, (g 59 (by omega)).trans h.2.2.2.2⟩
section ML
variable {en : pN} {d t i n top k K w e a c l u ch nc nl nt vv j : Nat} {v q x z : Int32} {σ : qS} {F s y g N : fI} {P : Nat → fI} {D : Int64}
theorem m_view (hc : c < 8) : qev en (d + 1) 304 [.int v, .int (nI c)] σ = some (some (.int (nI (nb v c))), σ) := by
  refine le_X12_viewOf en d _ _ σ _ ?_
  rw [vw_M hc]
theorem m_with (hc : c < 8) : qev en (d + 1) 305 [.int v, .int (nI c), .int (nI k)] σ = some (some (.int (sn v c k)), σ) := by
  refine le_X12_withView en d _ _ _ σ _ ?_
  rw [sh_4 hc]
  rfl
theorem m_join : qev en (d + 2) 306 [.int v, .int x] σ = some (some (.int (jn v x)), σ) := by
  refine le_X12_joinOf en (d + 1) _ _ σ _ ?_
  have go : ∀ k c : Nat, c + k = 8 → L_X12_joinOf_4 en (d + 1) v x (mkv (fun e => max (nb v e) (nb x e)) c) (nI c) σ = some (some (.int (jn v x)), σ) := by
    intro k
    induction k with
    | zero =>
      intro c hc
      obtain rfl : c = 8 := by omega
      refine le_X12_joinOf_4 en (d + 1) _ _ _ _ _ _ ?_
      rw [if_pos (show (8 : Int32) ≤ nI 8 by decide)]
      rfl
    | succ k ih =>
      intro c hc
      have h1 := @nb_lt v c
      have h2 := @nb_lt x c
      have f40 : ∀ z, z = max (nb v c) (nb x c) → L_X12_joinOf_40 en (d + 1) v x (nI c) (mkv (fun e => max (nb v e) (nb x e)) c) (nI c) (nI z) σ = some (some (.int (jn v x)), σ) := by
        intro z hz
        refine le_X12_joinOf_40 en (d + 1) _ _ _ _ _ _ _ _ ?_
        rw [m_with (by omega), bI_some, nI_1, hz]
        exact ih (c + 1) (by omega)
      refine le_X12_joinOf_4 en (d + 1) _ _ _ _ _ _ ?_
      simp (disch := omega) only [n_le, if_neg, m_view (show c < 8 by omega), bI_some, n_LE]
      by_cases h : nb v c ≤ nb x c
      · rw [if_pos h]; exact f40 _ (by omega)
      · rw [if_neg h]; exact f40 _ (by omega)
  exact go 8 0 rfl
theorem m_line (hF : MF F w vv nc nl nt) (hR : MR w N s) (ht : t < 4) (hv : vv ≤ 3) (h4 : N (4 + t) = nI i) (hi : i < 100) : qev en (d + 1) 303 [.ref 151, .int (nI t)] (mM σ F s y g D) = some (some (.int (nI (100 * vv + i))), mM σ F s y g D) := by
  refine le_X12_lineOf en d _ _ _ ?_
  simp (disch := omega) only [n_al, n_in, gdT, n_cl, mM_F, mM_s, hF.2.2.2.2, mr_ln hR ht, h4, n_ml, n_ar, nI_add, n_sr]
  rw [show 100 * vv + (i + 1) - 1 = 100 * vv + i by omega]
theorem m_goTo (hR : MR w N s) (ht : t < 4) (h1 : N t = 1) (ha : x = -2 ∨ ∃ j, x = nI j ∧ j < 100) : ∃ s' : fI, qev en (d + 1) 302 [.ref 151, .int (nI t), .int x] (mM σ F s y g D) = some (none, mM σ F s' y g D) ∧ MR w (gto N t (uv x)) s' := by
  have e1 : N t ≠ 5 := by rw [h1]; decide
  rcases ha with rfl | ⟨j, rfl, hj⟩
  · refine ⟨upd (upd (upd s (4 + t) (-2 + 1)) t 4) (4 + t) 0, le_X12_goTo en d _ _ _ _ ?_, ?_⟩
    · have n0 : ¬ ¬ ((-2 : Int32) = -2) := not_not_intro rfl
      simp (disch := omega) only [n_al, n_in, gdT, n_cl, nm_eq, mM_ws, not_true, if_false, Nat.zero_add]
    · have g1 := uw_ln (v := -2) hR ht
      have g2 := uw_st (v := 4) g1 ht (by decide) (by rw [pk_un (by omega)]; exact e1)
      have g3 := uw_ln (v := -1) g2 ht
      have : upd (upd (upd N (4 + t) (-2)) t 4) (4 + t) (-1) = gto N t (uv (-2)) := by
        rw [upd_cm (show 4 + t ≠ t by omega), pk_uu, upd_cm (show t ≠ 4 + t by omega)]; rfl
      rw [this] at g3
      exact g3
  · refine ⟨upd s (4 + t) (nI j + 1), le_X12_goTo en d _ _ _ _ ?_, ?_⟩
    · have n0 : ¬ (nI j = -2) := by rw [n_m2 (by omega)]; exact fun h => h
      simp (disch := omega) only [n_al, n_in, gdT, n_cl, nm_eq, mM_ws, n0, not_false_eq_true, if_true]
    · have g1 := uw_ln (v := nI j) hR ht
      have : upd N (4 + t) (nI j) = gto N t (uv (nI j)) := by
        unfold gto uv
        rw [if_neg (by rw [n_m2 (by omega)]; exact fun h => h), if_pos (nI_pos' (by omega)), upd_id (f := upd N (4 + t) (nI j))]
        rw [pk_un (by omega)]; exact h1
      rw [this] at g1
      exact g1
theorem m_jv (hF : MF F w vv nc nl nt) (hR : MR w N s) (hw2 : w ≤ 2) (ht : t < 4) (ha : 204 ≤ a) (ha2 : a < 213) : ∃ s' : fI, qev en (d + 3) 319 [.ref 151, .int (nI t), .int (nI a)] (mM σ F s y g D) = some (none, mM σ F s' y g D) ∧ MR w (lrn N t (N (a + 20))) s' := by
  by_cases h : w = 2
  · subst h
    refine ⟨upd s (204 + t) (jn (s (204 + t)) (s a)), le_X12_joinView en (d + 2) _ _ _ _ ?_, ?_⟩
    · have n0 : ¬ ¬ ((2 : Nat) = 2) := not_not_intro rfl
      simp (disch := omega) only [mM_F, hF.2.2.2.1, n_eq, not_true, if_false, n_al, n_in, gdT, n_cl, mM_s, m_join, bI_some, nm_eq, mM_ws]
    · have := uw_v (j := 204 + t) (v := jn (s (204 + t)) (s a)) hR (by omega) (by omega)
      rw [mr_v hR (show 52 ≤ a by omega) ha2, mr_v hR (show 52 ≤ 204 + t by omega) (by omega), show 204 + t + 20 = 224 + t by omega] at *
      exact this
  · refine ⟨s, le_X12_joinView en (d + 2) _ _ _ _ ?_, uw_nv hR h hw2 (by omega)⟩
    simp (disch := omega) only [mM_F, hF.2.2.2.1, n_eq, h, not_false_eq_true, if_true]
theorem m_write {tel : Bool} (hR : MR 2 N s) (ht : t < 4) (hc : c < 8) (ha : N (72 + c) = nI a) (ha9 : a < 9) : ∃ s' : fI, qev en (d + 2) 308 [.ref 151, .int (nI t), .int (nI c), .int v, .int (bt tel)] (mM σ F s y g D) = some (none, mM σ F s' y g D) ∧ MR 2 (wr1 2 N t c a v tel) s' := by
  have e1 : s (52 + c) = nI a := by rw [mr_v hR (by omega) (by omega), show 52 + c + 20 = 72 + c by omega, ha]
  have e2 : s (204 + t) = N (224 + t) := by rw [mr_v hR (by omega) (by omega), show 204 + t + 20 = 224 + t by omega]
  refine ⟨upd (upd (upd (upd (upd s (52 + c) (nI (a + 1))) (60 + 9 * c + a) v) (44 + c) v) (204 + t) (sn (N (224 + t)) c a)) (132 + 9 * c + a) (if tel then sn (N (224 + t)) c a else 0), le_X12_write en (d + 1) _ _ _ _ _ _ ?_, ?_⟩
  · have e3 : upd (upd (upd s (52 + c) (nI (a + 1))) (60 + 9 * c + a) v) (44 + c) v (204 + t) = N (224 + t) := by rw [pk_un (by omega), pk_un (by omega), pk_un (by omega), e2]
    have hd : ∀ (z : Int32) (M : fI), L_X12_write_110 en (d + 1) (nI (132 + 9 * c + a)) z (mM σ F M y g D) = some (none, mM σ F (upd M (132 + 9 * c + a) z) y g D) := by
      intro z M
      refine le_X12_write_110 en (d + 1) _ _ _ _ ?_
      simp (disch := omega) only [n_in, gdT, n_cl, nm_eq, mM_ws]
    simp (disch := omega) only [n_al, n_in, gdT, n_cl, mM_s, e1, nm_eq, n_ar, mM_ws, n_ml, nI_add, e3, m_with hc, bI_some, bt_0, hd, pk_us]
    cases tel <;> rfl
  · have g1 := uw_v (j := 52 + c) (v := nI (a + 1)) hR (by omega) (by omega)
    have g2 := uw_v (j := 60 + 9 * c + a) (v := v) g1 (by omega) (by omega)
    have g3 := uw_tm (j := 44 + c) (v := v) g2 (by omega) (by omega)
    have g4 := uw_v (j := 204 + t) (v := sn (N (224 + t)) c a) g3 (by omega) (by omega)
    have g5 := uw_v (j := 132 + 9 * c + a) (v := if tel then sn (N (224 + t)) c a else 0) g4 (by omega) (by omega)
    have : upd (upd (upd (upd (upd N (52 + c + 20) (nI (a + 1))) (60 + 9 * c + a + 20) v) (44 + c + 4) v) (204 + t + 20) (sn (N (224 + t)) c a)) (132 + 9 * c + a + 20) (if tel then sn (N (224 + t)) c a else 0) = wr1 2 N t c a v tel := by
      unfold wr1 vew
      rw [show 52 + c + 20 = 72 + c by omega, show 60 + 9 * c + a + 20 = 80 + c * 9 + a by omega, show 44 + c + 4 = 48 + c by omega, show 204 + t + 20 = 224 + t by omega, show 132 + 9 * c + a + 20 = 152 + c * 9 + a by omega]
      rw [upd_cm (show 80 + c * 9 + a ≠ 48 + c by omega), upd_cm (show 72 + c ≠ 48 + c by omega)]
      have : (upd (upd (upd N (48 + c) v) (72 + c) (nI (a + 1))) (80 + c * 9 + a) v) (224 + t) = N (224 + t) := by rw [pk_un (by omega), pk_un (by omega), pk_un (by omega)]
      rw [this]
    rw [this] at g5
    exact g5
theorem m_seeT (hR : MR 2 N s) (ht : t < 4) (hc : c < 8) (ha : N (72 + c) = nI a) (h1 : 1 ≤ a) (ha9 : a ≤ 9) : ∃ s' : fI, qev en (d + 3) 309 [.ref 151, .int (nI t), .int (nI c), .int 1] (mM σ F s y g D) = some (some (.int (N (80 + c * 9 + (a - 1)))), mM σ F s' y g D) ∧ MR 2 (lal 2 N t c) s' := by
  have e1 : s (52 + c) = nI a := by rw [mr_v hR (by omega) (by omega), show 52 + c + 20 = 72 + c by omega, ha]
  have e2 : s (204 + t) = N (224 + t) := by rw [mr_v hR (by omega) (by omega), show 204 + t + 20 = 224 + t by omega]
  have e3 : s (132 + 9 * c + (a - 1)) = N (152 + c * 9 + (a - 1)) := by rw [mr_v hR (by omega) (by omega), show 132 + 9 * c + (a - 1) + 20 = 152 + c * 9 + (a - 1) by omega]
  have e4 : s (60 + 9 * c + (a - 1)) = N (80 + c * 9 + (a - 1)) := by rw [mr_v hR (by omega) (by omega), show 60 + 9 * c + (a - 1) + 20 = 80 + c * 9 + (a - 1) by omega]
  refine ⟨upd (upd s (204 + t) (sn (N (224 + t)) c (a - 1))) (204 + t) (jn (sn (N (224 + t)) c (a - 1)) (N (152 + c * 9 + (a - 1)))), le_X12_seeLast en (d + 2) _ _ _ _ _ ?_, ?_⟩
  · have hl : qev en (d + 2) 307 [.ref 151, .int (nI c)] (mM σ F s y g D) = some (some (.int (nI (a - 1))), mM σ F s y g D) := by
      refine le_X12_lastWrite en (d + 1) _ _ _ ?_
      simp (disch := omega) only [n_al, n_in, gdT, n_cl, mM_s, e1, n_sr]
    have n1 : ¬ ((1 : Int32) = 0) := by decide
    simp (disch := omega) only [hl, bI_some, n1, if_false, n_al, n_in, gdT, n_cl, mM_s, e2, m_with hc, nm_eq, mM_ws]
    refine le_X12_seeLast_37 en (d + 2) _ _ _ _ _ ?_
    have e5 : upd s (204 + t) (sn (N (224 + t)) c (a - 1)) (132 + 9 * c + (a - 1)) = N (152 + c * 9 + (a - 1)) := by rw [pk_un (by omega), e3]
    have e6 : upd (upd s (204 + t) (sn (N (224 + t)) c (a - 1))) (204 + t) (jn (sn (N (224 + t)) c (a - 1)) (N (152 + c * 9 + (a - 1)))) (60 + 9 * c + (a - 1)) = N (80 + c * 9 + (a - 1)) := by rw [pk_un (by omega), pk_un (by omega), e4]
    simp (disch := omega) only [n_al, n_in, gdT, n_cl, mM_s, n_ml, nI_add, pk_us, e5, m_join, bI_some, nm_eq, mM_ws, e6]
  · have g1 := uw_v (j := 204 + t) (v := sn (N (224 + t)) c (a - 1)) hR (by omega) (by omega)
    have g2 := uw_v (j := 204 + t) (v := jn (sn (N (224 + t)) c (a - 1)) (N (152 + c * 9 + (a - 1)))) g1 (by omega) (by omega)
    have : upd (upd N (204 + t + 20) (sn (N (224 + t)) c (a - 1))) (204 + t + 20) (jn (sn (N (224 + t)) c (a - 1)) (N (152 + c * 9 + (a - 1)))) = lal 2 N t c := by
      unfold lal lrn vew
      rw [if_pos rfl, ha, n_clp (by omega), show 204 + t + 20 = 224 + t by omega, pk_us]
    rw [this] at g2
    exact g2
theorem m_seeF (hR : MR 2 N s) (ht : t < 4) (hc : c < 8) (ha : N (72 + c) = nI a) (h1 : 1 ≤ a) (ha9 : a ≤ 9) : ∃ s' : fI, qev en (d + 3) 309 [.ref 151, .int (nI t), .int (nI c), .int 0] (mM σ F s y g D) = some (some (.int (N (80 + c * 9 + (a - 1)))), mM σ F s' y g D) ∧ MR 2 (lrn N t (N (152 + c * 9 + a - 1))) s' := by
  have e1 : s (52 + c) = nI a := by rw [mr_v hR (by omega) (by omega), show 52 + c + 20 = 72 + c by omega, ha]
  have e2 : s (204 + t) = N (224 + t) := by rw [mr_v hR (by omega) (by omega), show 204 + t + 20 = 224 + t by omega]
  have e3 : s (132 + 9 * c + (a - 1)) = N (152 + c * 9 + a - 1) := by rw [mr_v hR (by omega) (by omega), show 132 + 9 * c + (a - 1) + 20 = 152 + c * 9 + a - 1 by omega]
  have e4 : s (60 + 9 * c + (a - 1)) = N (80 + c * 9 + (a - 1)) := by rw [mr_v hR (by omega) (by omega), show 60 + 9 * c + (a - 1) + 20 = 80 + c * 9 + (a - 1) by omega]
  refine ⟨upd s (204 + t) (jn (N (224 + t)) (N (152 + c * 9 + a - 1))), le_X12_seeLast en (d + 2) _ _ _ _ _ ?_, ?_⟩
  · have hl : qev en (d + 2) 307 [.ref 151, .int (nI c)] (mM σ F s y g D) = some (some (.int (nI (a - 1))), mM σ F s y g D) := by
      refine le_X12_lastWrite en (d + 1) _ _ _ ?_
      simp (disch := omega) only [n_al, n_in, gdT, n_cl, mM_s, e1, n_sr]
    simp (disch := omega) only [hl, bI_some, if_true]
    refine le_X12_seeLast_37 en (d + 2) _ _ _ _ _ ?_
    have e6 : upd s (204 + t) (jn (N (224 + t)) (N (152 + c * 9 + a - 1))) (60 + 9 * c + (a - 1)) = N (80 + c * 9 + (a - 1)) := by rw [pk_un (by omega), e4]
    simp (disch := omega) only [n_al, n_in, gdT, n_cl, mM_s, n_ml, nI_add, e2, e3, m_join, bI_some, nm_eq, mM_ws, e6]
  · have g1 := uw_v (j := 204 + t) (v := jn (N (224 + t)) (N (152 + c * 9 + a - 1))) hR (by omega) (by omega)
    rw [show 204 + t + 20 = 224 + t by omega] at g1
    exact g1
theorem m_isE (hF : MF F w vv nc nl nt) (hR : MR w N s) (hw2 : w ≤ 2) (ht : t < 4) (hq : SVq P w nc nt N) : qev en (d + 1) 310 [.ref 151, .int (nI t)] (mM σ F s y g D) = some (some (.int (bt (decide (N (56 + t) = 0)))), mM σ F s y g D) := by
  refine le_X12_isEmpty en d _ _ _ ?_
  by_cases h : w = 1
  · subst h
    have e := mr_bu hR ht
    have n0 : ¬ ¬ ((1 : Nat) = 1) := not_not_intro rfl
    simp (disch := omega) only [mM_F, hF.2.2.2.1, n_eq, not_true, if_false, n_al, n_in, gdT, n_cl, mM_s, e]
    by_cases z : N (56 + t) = 0
    · rw [if_neg (not_not_intro z), decide_eq_true z]; rfl
    · rw [if_pos z, decide_eq_false z]; rfl
  · have z : N (56 + t) = 0 := by
      rcases hq t ht with ⟨z, -⟩ | ⟨-, z, -⟩
      · exact absurd z h
      · exact z
    simp (disch := omega) only [mM_F, hF.2.2.2.1, n_eq, h, not_false_eq_true, if_true, decide_eq_true z]
    rfl
theorem m_hasF (hF : MF F w vv nc nl nt) (hR : MR w N s) (hw2 : w ≤ 2) (ht : t < 4) (hq : SVq P w nc nt N) : qev en (d + 1) 314 [.ref 151, .int (nI t)] (mM σ F s y g D) = some (some (.int (bt (decide (¬ N (56 + t) = 0)))), mM σ F s y g D) := by
  refine le_X12_hasFlush en d _ _ _ ?_
  obtain ⟨q, hq0, hq3⟩ := sv_q hq ht
  by_cases h : w = 1
  · subst h
    have e := mr_bu hR ht
    have n0 : ¬ ¬ ((1 : Nat) = 1) := not_not_intro rfl
    simp (disch := omega) only [mM_F, hF.2.2.2.1, n_eq, not_true, if_false, n_al, n_in, gdT, n_cl, mM_s, e, hq0, n_ge]
    by_cases z : q = 0
    · rw [if_pos (by omega), decide_eq_false (not_not_intro z)]; rfl
    · rw [if_neg (by omega), decide_eq_true z]; rfl
  · have z : N (56 + t) = 0 := by
      rcases hq t ht with ⟨z, -⟩ | ⟨-, z, -⟩
      · exact absurd z h
      · exact z
    simp (disch := omega) only [mM_F, hF.2.2.2.1, n_eq, h, not_false_eq_true, if_true, z, decide_eq_false (not_not_intro z)]
    rfl
end ML
