/-! ALL TURNS, the model's side: a state looked at, done. -/
section MK
variable {en : pN} {d w nc nl nt n t u k a l : Nat} {P : Nat → fI} {v1 v2 : Int32} {σ σ' : qS} {F F' s y g N : fI} {D : Int64} {x : xT} {fw : Bool}
theorem nar1k : vp_nar .boolean (1 : Int32) = 1 := by decide
theorem fsR_lt {f : Nat → Prop} : ∀ k i, fsR f k = some i → i < k := by
  intro k
  induction k with
  | zero => intro i h; cases h
  | succ k ih =>
    intro i h
    unfold fsR at h
    cases e : fsR f k with
    | some j => rw [e] at h; cases h; have := ih _ e; omega
    | none =>
      rw [e] at h
      dsimp only at h
      split at h
      · cases h; omega
      · cases h
theorem guT_fun {h1 h2 : fI} (h : ∀ c, c < 8 → h1 c = h2 c) : ∀ {m : Nat}, ∀ c, c < 8 → guT P w N l nt m h1 c = guT P w N l nt m h2 c := by
  intro m
  induction m with
  | zero => exact h
  | succ m ih =>
    intro c hc
    unfold guT
    split
    · by_cases q : c = ob P (lnS N m)
      · subst q
        rw [pk_us, pk_us, ih _ hc]
      · rw [pk_un q, pk_un q]; exact ih c hc
    · exact ih c hc
theorem smO_eqO {S : Nat → fI} {L : List Nat} {f : fI} {i : Nat} (hf : MR w N f) : smO (fun i => soS (S i) nt) (fun i => sm w (S i)) L (soS N nt) f i ↔ eqO nt (S (L.getD i 0)) N := by
  have hwd := wid_ge (w := w)
  have lo : ∀ (M : fI) j, 12 ≤ j → j < 36 → sm w M j = M (j + 4) := fun M j h1 h2 => mr_lo (w := w) (s := sm w M) (fun _ _ => rfl) h1 h2
  have me : ∀ (M : fI) j, 44 ≤ j → j < 52 → sm w M j = M (j + 4) := fun M j h1 h2 => mr_tm (w := w) (s := sm w M) (fun _ _ => rfl) (by omega) h2
  constructor
  · rintro ⟨h1, h2, h3⟩
    refine ⟨h1, fun j a1 a2 => ?_, fun j a1 a2 => ?_⟩
    · have := h2 (j - 4) (by omega) (by omega)
      dsimp only at this
      rw [hf (j - 4) (by omega), lo _ _ (by omega) (by omega), lo _ _ (by omega) (by omega), show j - 4 + 4 = j by omega] at this
      exact this
    · have := h3 (j - 4) (by omega) (by omega)
      dsimp only at this
      rw [hf (j - 4) (by omega), me _ _ (by omega) (by omega), me _ _ (by omega) (by omega), show j - 4 + 4 = j by omega] at this
      exact this
  · rintro ⟨h1, h2, h3⟩
    refine ⟨h1, fun j a1 a2 => ?_, fun j a1 a2 => ?_⟩
    · show sm w (S (L.getD i 0)) j = f j
      rw [hf j (by omega), lo _ _ a1 a2, lo _ _ a1 a2]; exact h2 (j + 4) (by omega) (by omega)
    · show sm w (S (L.getD i 0)) j = f j
      rw [hf j (by omega), me _ _ a1 a2, me _ _ a1 a2]; exact h3 (j + 4) (by omega) (by omega)
theorem m_look (hP : PV P nc nl nt n) (hw2 : w ≤ 2) (hX : XV P w nc nl nt n x) (hI : mcI P w nc nl nt n x σ F) (hD : mcD P w nl nt k x σ F) (hk : k < xN x) :
    ∃ (v5 : Int32) (σ' : qS) (F' s' y' g' : fI) (D' : Int64), ((onlS P nt fw x k = none ∧ v5 = -2) ∨ ∃ t, t < 4 ∧ onlS P nt fw x k = some (10 * t) ∧ v5 = nI t) ∧ (∀ r, L_X12_tryAll_296 en (d + 7) v1 (bt fw) (nI k) v5 (nI (rdl P w (xS x k) nt nt).length) 0 (mM σ' F' s' y' g' D') = some r → L_X12_tryAll_147 en (d + 7) v1 (bt fw) (nI k) (mM σ F s y g D) = some r) ∧ mcI P w nc nl nt n (begK x k) σ' F' ∧ mcD P w nl nt (k + 1) (begK x k) σ' F' ∧ (∀ (j : Nat) (h : j < (rdl P w (xS x k) nt nt).length), σ'.1 226 j = nI (rdl P w (xS x k) nt nt)[j]) ∧ fRm σ σ' F F' := by
  have hlim := @lim_le w
  have ht4 := hP.2.2.1.2
  have hwd := wid_w hw2
  have hwg := wid_ge (w := w)
  have hxN := hX.1.2
  have hSk := hX.2.1 k hk
  have hl40 := rdl_len hP hSk
  obtain ⟨d1, d2, d3, d4, d5, d6, d7⟩ := hD
  -- the number of steps noted
  let σ1 : qS := uI σ 218 k (nI (xM x))
  have hI1 : mcI P w nc nl nt n x σ1 F := hI.fr (fun c hc => uI_ne (by omega)) (fun _ _ => rfl)
  obtain ⟨s1, e1, hs1⟩ := m_loadS (en := en) (d := d + 6) (s := s) (y := y) (g := g) (D := D) hw2 hX hI1.2.2.1 hk
  obtain ⟨F1, g1, R1, e2, b1, b2, b3, b4⟩ := m_list (en := en) (d := d) (y := y) (g := g) (D := D) hI1.1 hP hSk hI1.2.1 hs1 hw2
  let σ2 : qS := uI (uIr σ1 190 R1) 215 k (rdM P w (xS x k) nt nt)
  have hI2 : mcI P w nc nl nt n x σ2 F1 := hI1.fr (fun c hc => by rw [show σ2.1 c = (uIr σ1 190 R1).1 c from uI_ne (by omega), uIr_ne (by omega)]) (fun j hj => b1 j (by omega) (by omega) (by omega))
  obtain ⟨σ3, F2, g2, e3, f3, q3, r3⟩ := m_findIn (en := en) (d := d) (k := k) (y := y) (g := g1) (D := D) hI2.1 hP hSk hI2.2.1 hs1 hw2 (fun z => nI_pos (show k < 2 ^ 31 by omega) (by rw [z]; decide))
  have hI3 : mcI P w nc nl nt n x σ3 F2 := hI2.fr (fun c hc => f3.1 c (by omega) (by omega)) (fun j hj => f3.2.2 j (by omega))
  have F2e : ∀ j, j ≠ 62 → j ≠ 66 → j ≠ 67 → F2 j = F j := fun j h1 h2 h3 => (f3.2.2 j h1).trans (b1 j h1 h2 h3)
  have F266 : F2 66 = nI (rdl P w (xS x k) nt nt).length := (f3.2.2 66 (by decide)).trans b2
  have s3e : ∀ c, c ≠ 190 → c ≠ 215 → c ≠ 218 → c ≠ 223 → c ≠ 224 → σ3.1 c = σ.1 c := fun c h1 h2 h3 h4 h5 => by
    rw [f3.1 c h4 h5, show σ2.1 c = (uIr σ1 190 R1).1 c from uI_ne h2, uIr_ne h1, show σ1.1 c = σ.1 c from uI_ne h3]
  have s3190 : σ3.1 190 = R1 := by rw [f3.1 190 (by decide) (by decide), show σ2.1 190 = (uIr σ1 190 R1).1 190 from uI_ne (by decide), uIr_row]
  have s3215 : ∀ i, σ3.1 215 i = if i = k then rdM P w (xS x k) nt nt else σ.1 215 i := fun i => by
    rw [f3.1 215 (by decide) (by decide)]
    show (uI (uIr σ1 190 R1) 215 k (rdM P w (xS x k) nt nt)).1 215 i = _
    rw [uI_row, uIr_ne (by decide), show σ1.1 215 = σ.1 215 from uI_ne (by decide)]; rfl
  have s3218 : ∀ i, σ3.1 218 i = if i = k then nI (xM x) else σ.1 218 i := fun i => by
    rw [f3.1 218 (by decide) (by decide), show σ2.1 218 = (uIr σ1 190 R1).1 218 from uI_ne (by decide), uIr_ne (by decide)]
    show (uI σ 218 k (nI (xM x))).1 218 i = _
    rw [uI_row]; rfl
  have s32 : σ3.2 = σ.2 := f3.2.1
  have e223 : σ2.1 223 = σ.1 223 := by rw [show σ2.1 223 = (uIr σ1 190 R1).1 223 from uI_ne (by decide), uIr_ne (by decide), show σ1.1 223 = σ.1 223 from uI_ne (by decide)]
  have e224 : σ2.1 224 = σ.1 224 := by rw [show σ2.1 224 = (uIr σ1 190 R1).1 224 from uI_ne (by decide), uIr_ne (by decide), show σ1.1 224 = σ.1 224 from uI_ne (by decide)]
  have start : ∀ r, (if ¬ nI (rdl P w (xS x k) nt nt).length = (0 : Int32) then L_X12_tryAll_232 en (d + 7) v1 (bt fw) (nI k) (mM σ3 F2 s1 y g2 D) else nm (uI (mM σ3 F2 s1 y g2 D) 216 k 1) (fun s23 => nm (uI s23 151 103 ((s23.1 151 103) + (1 : Int32))) (fun s24 => bI (qev en (d + 7) 361 [.ref 151, .int (nI k)] s24) (fun w25 s26 => nm (uI s26 217 k w25) (fun s28 => L_X12_tryAll_232 en (d + 7) v1 (bt fw) (nI k) s28))))) = some r → L_X12_tryAll_147 en (d + 7) v1 (bt fw) (nI k) (mM σ F s y g D) = some r := by
    intro r hh
    refine le_X12_tryAll_147 en _ _ _ _ _ _ ?_
    have e102 : (mM σ F s y g D).1 151 102 = nI (xM x) := by rw [mM_F]; exact hI.2.2.2.1
    have e101 : (mM σ F s y g D).1 151 101 = nI (xN x) := by rw [mM_F]; exact hI.2.2.1.1
    have e67 : (mM (uIr σ1 190 R1) F1 s1 y g1 D).1 151 67 = rdM P w (xS x k) nt nt := by rw [mM_F]; exact b3
    have e66 : (mM σ3 F2 s1 y g2 D).1 151 66 = nI (rdl P w (xS x k) nt nt).length := by rw [mM_F]; exact F266
    rw [e101, if_neg (by rw [n_LE (by omega) (by omega)]; omega), gd_true (n_in (by omega) (by decide)), e102, n_cl (by omega), nm_eq, mM_wo (by decide) (by decide) (by decide) (by decide), e1, bV_some, e2, bV_some, gd_true (n_in (by omega) (by decide)), e67, nm_eq, mM_wo (by decide) (by decide) (by decide) (by decide), e3, bV_some, e66, nar1k]
    exact hh
  -- what follows from any state like this one
  refine (fun (key : ∃ (σ4 : qS) (F4 : fI), (∀ r, L_X12_tryAll_232 en (d + 7) v1 (bt fw) (nI k) (mM σ4 F4 s1 y g2 D) = some r → L_X12_tryAll_147 en (d + 7) v1 (bt fw) (nI k) (mM σ F s y g D) = some r) ∧ (∀ c, c ≠ 216 → c ≠ 217 → c ≠ 221 → c ≠ 222 → c ≠ 225 → σ4.1 c = σ3.1 c) ∧ (∀ j, j ≠ 103 → j ≠ 115 → F4 j = F2 j) ∧ σ4.2 = σ3.2 ∧ (∀ i, i ≠ k → σ4.1 216 i = σ3.1 216 i ∧ σ4.1 217 i = σ3.1 217 i) ∧ (σ4.1 216 k = bt (endC P w (xS x k) nt) ∧ σ4.1 217 k = if endC P w (xS x k) nt = true then nI (outN P w nt (xS x) k) else -2) ∧ F4 103 = nI (endN P w nt (xS x) (k + 1)) ∧ ROF σ4 F4 (outL P w nt (xS x) (k + 1)) (fun i => soS (xS x i) nt) (fun i => sm w (xS x i))) => ?_) ?_
  · obtain ⟨σ4, F4, k1, k2, k3, k4, k5, k6, k7, k8⟩ := key
    have hI4 : mcI P w nc nl nt n x σ4 F4 := hI3.fr (fun c hc => k2 c (by omega) (by omega) (by omega) (by omega) (by omega)) (fun j hj => k3 j (by omega) (by omega))
    obtain ⟨v5, T, o1, o2, o3⟩ := m_232 (en := en) (d := d) (v1 := v1) (fw := fw) (y := y) (g := g2) (D := D) (len := (rdl P w (xS x k) nt nt).length) (R := R1) hP hX hI4 hk hs1 (by rw [k3 66 (by decide) (by decide)]; exact F266) hl40 (by rw [k2 190 (by decide) (by decide) (by decide) (by decide) (by decide)]; exact s3190)
    let σ5 : qS := uIr σ4 226 T
    have s5 : ∀ c, c ≠ 226 → σ5.1 c = σ4.1 c := fun c hc => uIr_ne hc
    refine ⟨v5, σ5, F4, s1, y, g2, D, o1, fun r hh => k1 r (o3 r hh), ?_, ⟨fun i hi => ?_, fun i hi => ?_, k7, ⟨k8.1, fun j hj => by rw [s5 221 (by decide), s5 225 (by decide)]; exact k8.2.1 j hj, by rw [s5 222 (by decide)]; exact k8.2.2⟩, fun z hz => ?_, fun c hc => ?_, fun i h1 h2 => ?_⟩, fun j h => ?_, ⟨fun c h1 h2 => ?_, fun j h1 h2 h3 h4 h5 => ?_, ?_⟩⟩
    · exact mcI.fr (x := x) hI4 (fun c hc => s5 c (by omega)) (fun _ _ => rfl)
    · rw [s5 218 (by decide), k2 218 (by decide) (by decide) (by decide) (by decide) (by decide), s3218]
      show _ = nI (at1 (xA x) k (xM x) i)
      by_cases q : i = k
      · rw [if_pos q, q, at1_s]
      · rw [if_neg q, at1_n q]; exact d1 i (by omega)
    · rw [s5 215 (by decide), s5 216 (by decide), s5 217 (by decide), k2 215 (by decide) (by decide) (by decide) (by decide) (by decide), s3215]
      by_cases q : i = k
      · rw [if_pos q, q]; exact ⟨rfl, k6.1, k6.2⟩
      · rw [if_neg q, (k5 i q).1, (k5 i q).2, s3e 216 (by decide) (by decide) (by decide) (by decide) (by decide), s3e 217 (by decide) (by decide) (by decide) (by decide) (by decide)]
        exact d2 i (by omega)
    · rw [s5 223 (by decide), k2 223 (by decide) (by decide) (by decide) (by decide) (by decide)]
      obtain ⟨q1, q2⟩ := q3 z
      rw [e223, d5 z hz] at q1 q2
      have ef : fsR (fun i => hasR P w (xS x i) nt z) (k + 1) = match fsR (fun i => hasR P w (xS x i) nt z) k with
        | some i => some i
        | none => @ite _ (hasR P w (xS x k) nt z) (Classical.propDecidable _) (some k) none := rfl
      show σ3.1 223 z = rcV (fsR (fun i => hasR P w (xS x i) nt z) (k + 1))
      rw [ef]
      cases ho : fsR (fun i => hasR P w (xS x i) nt z) k with
      | some i =>
        rw [ho] at q1
        have hi := fsR_lt k i ho
        exact q1 (Or.inl (fun y => nI_pos (show i < 2 ^ 31 by omega) (by rw [show nI i = -2 from y]; decide)))
      | none =>
        rw [ho] at q1 q2
        by_cases hr : hasR P w (xS x k) nt z
        · dsimp only
          rw [if_pos hr]; exact q2 rfl hr
        · dsimp only
          rw [if_neg hr]; exact q1 (Or.inr hr)
    · rw [s5 224 (by decide), k2 224 (by decide) (by decide) (by decide) (by decide) (by decide), r3 c hc, e224]
      exact guT_fun (fun c hc => d6 c hc) c hc
    · rw [s5 216 (by decide), s5 217 (by decide), (k5 i (by omega)).1, (k5 i (by omega)).2, s3e 216 (by decide) (by decide) (by decide) (by decide) (by decide), s3e 217 (by decide) (by decide) (by decide) (by decide) (by decide)]
      exact d7 i (by omega) h2
    · show (uIr σ4 226 T).1 226 j = _
      rw [uIr_row, o2 j h]; exact b4 j h
    · rw [s5 c (by omega), k2 c (by omega) (by omega) (by omega) (by omega) (by omega), s3e c h2 (by omega) (by omega) (by omega) (by omega)]
    · rw [k3 j h4 h5]; exact F2e j (by omega) (by omega) (by omega)
    · show σ4.2 = σ.2
      rw [k4, s32]
  · -- an end, or not
    have hcount : endN P w nt (xS x) (k + 1) = endN P w nt (xS x) k + if endC P w (xS x k) nt = true then 1 else 0 := rfl
    have F2103 : F2 103 = nI (endN P w nt (xS x) k) := (F2e 103 (by decide) (by decide) (by decide)).trans d3
    have hRO : ROF σ3 F2 (outL P w nt (xS x) k) (fun i => soS (xS x i) nt) (fun i => sm w (xS x i)) := ⟨(F2e 115 (by decide) (by decide) (by decide)).trans d4.1, fun j hj => by rw [s3e 221 (by decide) (by decide) (by decide) (by decide) (by decide), s3e 225 (by decide) (by decide) (by decide) (by decide) (by decide)]; exact d4.2.1 j hj, by rw [s3e 222 (by decide) (by decide) (by decide) (by decide) (by decide)]; exact d4.2.2⟩
    have h7k := d7 k (Nat.le_refl _) hk
    by_cases hl : (rdl P w (xS x k) nt nt).length = 0
    · have hend : endC P w (xS x k) nt = true := rdl_nil_len.mp hl
      rw [if_neg (show ¬ ¬ nI (rdl P w (xS x k) nt nt).length = (0 : Int32) by rw [hl]; exact fun z => z rfl)] at start
      let σ4 : qS := uI σ3 216 k 1
      let F4 : fI := upd F2 103 (nI (endN P w nt (xS x) k + 1))
      have hen := endN_le (P := P) (w := w) (nt := nt) (S := xS x) k
      have hout := outL_len (P := P) (w := w) (nt := nt) (S := xS x) k
      have olt := outL_lt (P := P) (w := w) (nt := nt) (S := xS x) k
      have start2 : ∀ r, bI (qev en (d + 7) 361 [.ref 151, .int (nI k)] (mM σ4 F4 s1 y g2 D)) (fun w25 s26 => nm (uI s26 217 k w25) (fun s28 => L_X12_tryAll_232 en (d + 7) v1 (bt fw) (nI k) s28)) = some r → L_X12_tryAll_147 en (d + 7) v1 (bt fw) (nI k) (mM σ F s y g D) = some r := by
        intro r hh
        refine start r ?_
        rw [nm_eq, mM_wo (by decide) (by decide) (by decide) (by decide), nm_eq, mM_F, F2103, n_ar, mM_wF]
        exact hh
      have hI4 : mcI P w nc nl nt n x σ4 F4 := hI3.fr (fun c hc => uI_ne (by omega)) (fun j hj => pk_un (by omega))
      have hRO4 : ROM (mM σ4 F4 s1 y g2 D) (outL P w nt (xS x) k) (fun i => soS (xS x i) nt) (fun i => sm w (xS x i)) := ROF_M.mpr ⟨(pk_un (by decide)).trans hRO.1, fun j hj => by rw [show σ4.1 221 = σ3.1 221 from uI_ne (by decide), show σ4.1 225 = σ3.1 225 from uI_ne (by decide)]; exact hRO.2.1 j hj, by rw [show σ4.1 222 = σ3.1 222 from uI_ne (by decide)]; exact hRO.2.2⟩
      have hoN : outN P w nt (xS x) k = match fndO nt (xS x) (xS x k) (outL P w nt (xS x) k) 0 with
        | some i => i
        | none => (outL P w nt (xS x) k).length := rfl
      have hoL : outL P w nt (xS x) (k + 1) = if endC P w (xS x k) nt = true then (match fndO nt (xS x) (xS x k) (outL P w nt (xS x) k) 0 with
        | some _ => outL P w nt (xS x) k
        | none => outL P w nt (xS x) k ++ [k]) else outL P w nt (xS x) k := rfl
      rw [if_pos hend] at hoL
      have hlt : ∀ i, i < (outL P w nt (xS x) k).length → (outL P w nt (xS x) k).getD i 0 < k := fun i hi => olt _ (getD_mem hi)
      have c4 : ∀ i, i ≠ k → σ4.1 216 i = σ3.1 216 i ∧ σ4.1 217 i = σ3.1 217 i := fun i hi => ⟨by show (uI σ3 216 k 1).1 216 i = _; rw [g_I, if_neg (fun z => hi z.2)], by show (uI σ3 216 k 1).1 217 i = _; rw [uI_ne (by decide)]⟩
      rcases m_outcomeOf (en := en) (d := d + 4) (k := k) (z := soS (xS x k) nt) (W := wid w) (f := s1) hRO4 (by rw [mM_F]; exact hI4.2.2.1.2.1) ⟨hwg, hwd.1⟩ mM_s (by omega) (fun i hi => rm_room (n := xN x) (by omega) (by
          rcases hwd.2 with z | z
          · exact Or.inl z
          · right; rw [z] at hxN; exact hxN) hwd.1 (Nat.lt_trans (hlt i hi) hk)) (fun i hi j hj => by rw [mM_o (by decide) (by decide) (by decide) (by decide)]; exact hI4.2.2.1.2.2.2.1 _ (Nat.lt_trans (hlt i hi) hk) j hj) (fun i => soF_le _ _ _) (soF_le _ _ _) (by omega) (fun d => m_sortOf hI4.2.1 hs1 ht4) with ⟨i, hi, hs, e5⟩ | ⟨hno, p, e5, r5⟩
      · have hfi : fndO nt (xS x) (xS x k) (outL P w nt (xS x) k) 0 = some i := fndO_of (outL_unl k) hi ((smO_eqO hs1).mp hs)
        rw [e5, bI_some, nm_eq, mM_wo (by decide) (by decide) (by decide) (by decide)] at start2
        rw [hfi] at hoN hoL
        refine ⟨uI σ4 217 k (nI i), F4, start2, fun c h1 h2 h3 h4 h5 => by rw [uI_ne h2, show σ4.1 c = σ3.1 c from uI_ne h1], fun j h1 h2 => pk_un h1, rfl, fun i hi => ?_, ⟨?_, ?_⟩, by rw [hcount, if_pos hend]; exact pk_us, ?_⟩
        · refine ⟨by rw [uI_ne (by decide)]; exact (c4 i hi).1, by rw [g_I, if_neg (fun z => hi z.2)]; exact (c4 i hi).2⟩
        · rw [uI_ne (by decide), hend]
          show (uI σ3 216 k 1).1 216 k = _
          rw [g_I, if_pos ⟨rfl, rfl⟩]; rfl
        · rw [g_I, if_pos ⟨rfl, rfl⟩, if_pos hend, hoN]
        · rw [hoL]
          have r := ROF_M.mp hRO4
          exact ⟨r.1, fun j hj => by rw [uI_ne (by decide), uI_ne (by decide)]; exact r.2.1 j hj, by rw [uI_ne (by decide)]; exact r.2.2⟩
      · have hfn : fndO nt (xS x) (xS x k) (outL P w nt (xS x) k) 0 = none := fndO_no fun i hi z => hno i hi ((smO_eqO hs1).mpr z)
        rw [hfn] at hoN hoL
        have r6 := r5 (fun i => if i = k then s1 else sm w (xS x i)) (fun i => soS (xS x i) nt) (fun i hi => ⟨if_neg (by have := hlt i hi; omega), rfl⟩) (if_pos rfl) rfl
        rw [nwO_M] at e5 r6
        have r7 := ROF_M.mp r6
        rw [e5, bI_some, nm_eq, mM_wo (by decide) (by decide) (by decide) (by decide)] at start2
        generalize hσ5 : uI (uI (uI σ4 225 (outL P w nt (xS x) k).length (nI (soS (xS x k) nt))) 221 (outL P w nt (xS x) k).length (nI k)) 222 p (nI ((outL P w nt (xS x) k).length + 1)) = σ5 at start2 r7
        have s5 : ∀ c, c ≠ 225 → c ≠ 221 → c ≠ 222 → σ5.1 c = σ4.1 c := fun c h1 h2 h3 => by rw [← hσ5, uI_ne h3, uI_ne h2, uI_ne h1]
        refine ⟨uI σ5 217 k (nI (outL P w nt (xS x) k).length), upd F4 115 (nI ((outL P w nt (xS x) k).length + 1)), start2, fun c h1 h2 h3 h4 h5 => by rw [uI_ne h2, s5 c h5 h3 h4, show σ4.1 c = σ3.1 c from uI_ne h1], fun j h1 h2 => (pk_un h2).trans (pk_un h1), by rw [← hσ5]; rfl, fun i hi => ?_, ⟨?_, ?_⟩, by rw [hcount, if_pos hend]; exact (pk_un (by decide)).trans pk_us, ?_⟩
        · refine ⟨by rw [uI_ne (by decide), s5 216 (by decide) (by decide) (by decide)]; exact (c4 i hi).1, by rw [g_I, if_neg (fun z => hi z.2), s5 217 (by decide) (by decide) (by decide)]; exact (c4 i hi).2⟩
        · rw [uI_ne (by decide), s5 216 (by decide) (by decide) (by decide), hend]
          show (uI σ3 216 k 1).1 216 k = _
          rw [g_I, if_pos ⟨rfl, rfl⟩]; rfl
        · rw [g_I, if_pos ⟨rfl, rfl⟩, if_pos hend, hoN]
        · rw [hoL]
          obtain ⟨t1, t2, t3⟩ := r7
          refine ⟨t1, fun j hj => by rw [uI_ne (by decide), uI_ne (by decide)]; exact t2 j hj, ?_⟩
          rw [uI_ne (by decide)]
          refine tb_hcg (fun i hi => ?_) t3
          have rk : ∀ z, z = k → hsO (sm w (xS x z)) = hsO s1 := fun z hz => by
            rw [hz]; exact hsO_cg (fun i h1 h2 => (hs1 i (by omega)).symm) (fun i h1 h2 => (hs1 i (by omega)).symm)
          show hsO (sm w (xS x ((outL P w nt (xS x) k ++ [k]).getD i 0))) = hsO (if (outL P w nt (xS x) k ++ [k]).getD i 0 = k then s1 else sm w (xS x ((outL P w nt (xS x) k ++ [k]).getD i 0)))
          by_cases q : (outL P w nt (xS x) k ++ [k]).getD i 0 = k
          · rw [if_pos q]; exact rk _ q
          · rw [if_neg q]
    · have hend : ¬ endC P w (xS x k) nt = true := fun z => hl (rdl_nil_len.mpr z)
      have hef : endC P w (xS x k) nt = false := Bool.not_eq_true _ |>.mp hend
      have eL : outL P w nt (xS x) (k + 1) = outL P w nt (xS x) k := by
        show (if endC P w (xS x k) nt = true then _ else _) = _
        rw [if_neg hend]
      rw [if_pos (show ¬ nI (rdl P w (xS x k) nt nt).length = (0 : Int32) by rw [show (0 : Int32) = nI 0 from rfl, n_EQ (by omega) (by omega)]; exact hl)] at start
      refine ⟨σ3, F2, start, fun _ _ _ _ _ _ => rfl, fun _ _ _ => rfl, rfl, fun _ _ => ⟨rfl, rfl⟩, ⟨?_, ?_⟩, by rw [hcount, if_neg hend]; exact F2103, by rw [eL]; exact hRO⟩
      · rw [s3e 216 (by decide) (by decide) (by decide) (by decide) (by decide), h7k.1, hef]; rfl
      · rw [s3e 217 (by decide) (by decide) (by decide) (by decide) (by decide), h7k.2, if_neg hend]
end MK
