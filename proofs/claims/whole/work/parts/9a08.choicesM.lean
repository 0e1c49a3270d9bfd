/-! THE MODEL'S CHOICES, its list of ready steps. -/
/-- threads that have a ready step, as bits -/
def rdM (P : Nat → fI) (w : Nat) (N : fI) (nt : Nat) : Nat → Int32
  | 0 => 0
  | t + 1 => rdM P w N nt t ||| (if 0 < chs P w N t nt ∨ ¬ N (56 + t) = 0 then (1 : Int32) <<< (nI t &&& 31) else 0)
section MC
variable {en : pN} {d t i n top k K w e a c l u ch nc nl nt vv j m p o : Nat} {v x z : Int32} {q : Nat} {σ : qS} {F s y g N : fI} {P : Nat → fI} {D : Int64}
theorem rov_lt (h : N (72 + o) = nI a) (h9 : a < 9) : roS P 2 N t i o k = true := by
  unfold roS
  rw [if_neg (by decide), if_neg (by decide), h, n_clp (by omega), if_pos h9]
theorem rov_ge (h : N (72 + o) = nI a) (h9 : 9 ≤ a) (h10 : a < 100) (hk : k ≠ 3) : roS P 2 N t i o k = false := by
  unfold roS
  rw [if_neg (by decide), if_neg (by decide), h, n_clp (by omega), if_neg (by omega), if_neg hk]
theorem rov_n (h2 : w ≠ 2) (hw : w ≤ 2) (h0 : N (56 + t) = 0) : roS P w N t i o k = true := by
  unfold roS
  by_cases w1 : w = 1
  · rw [if_pos w1, h0]; rfl
  · rw [if_neg w1, if_pos (by omega)]
theorem m_would (hB0 : σ.1 166 (100 * vv + i) = nI o) (ex5 : exM σ P t 5 i (σ.1 176 (100 * vv + i)) (σ.1 177 (100 * vv + i))) (ex7 : exM σ P t 7 i (σ.1 178 (100 * vv + i)) (σ.1 179 (100 * vv + i))) (hR : MR w N s) (hv : vv ≤ 3) (hi : i < 100) (ht : t < 4) (ho : o < 8) (hin : ∀ k, k < 6 → inR (N (16 + t * 6 + k))) : ∃ (g' : fI) (b : Int32), qev en (d + 5) 313 [.ref 151, .int (nI t), .int (nI (100 * vv + i))] (mM σ F s y g D) = some (some (.int (bt (match exv P 5 N i, exv P 7 N i with
    | some v, some _ => decide (N (48 + o) = v)
    | _, _ => false))), mM σ (upd F 62 b) s y g' D) := by
  have o166 : ∀ (F s y g : fI) (D : Int64), (mM σ F s y g D).1 166 = σ.1 166 := fun F s y g D => mM_o (by decide) (by decide) (by decide) (by decide)
  have o176 : ∀ (F s y g : fI) (D : Int64), (mM σ F s y g D).1 176 = σ.1 176 := fun F s y g D => mM_o (by decide) (by decide) (by decide) (by decide)
  have o177 : ∀ (F s y g : fI) (D : Int64), (mM σ F s y g D).1 177 = σ.1 177 := fun F s y g D => mM_o (by decide) (by decide) (by decide) (by decide)
  have o178 : ∀ (F s y g : fI) (D : Int64), (mM σ F s y g D).1 178 = σ.1 178 := fun F s y g D => mM_o (by decide) (by decide) (by decide) (by decide)
  have o179 : ∀ (F s y g : fI) (D : Int64), (mM σ F s y g D).1 179 = σ.1 179 := fun F s y g D => mM_o (by decide) (by decide) (by decide) (by decide)
  obtain ⟨v5, g5, w5, r5⟩ := m_exp (en := en) (d := d) (F := F) (s := s) (y := y) (g := g) (D := D) hR ht ex5 hin
  obtain ⟨v7, g7, w7, r7⟩ := m_exp (en := en) (d := d) (F := upd F 62 (exb (exv P 5 N i))) (s := s) (y := y) (g := g5) (D := D) hR ht ex7 hin
  have em := mr_me hR ho
  refine ⟨g7, exb (exv P 7 N i), le_X12_wouldWrite en (d + 4) _ _ _ _ ?_⟩
  rw [gd_true (n_in (by omega) (by decide)), n_cl (by omega), o176, o177, w5, bI_some, o178, o179, w7, bI_some, mM_F, pk_us, pk_uu, mM_F, pk_us, o166, hB0]
  cases h5 : exv P 5 N i with
  | none => rw [if_pos (show ¬ exb none = 0 by decide)]; rfl
  | some a5 =>
    rw [if_neg (show ¬ ¬ exb (some a5) = 0 from not_not_intro rfl)]
    cases h7 : exv P 7 N i with
    | none => rw [if_pos (show ¬ exb none = 0 by decide)]; rfl
    | some a7 =>
      have e5 : v5 = a5 := by
        have := r5 (by rw [h5]; exact fun z => by cases z)
        rw [h5] at this; exact this
      simp (disch := omega) only [exb, not_true, if_false, n_al, n_in, gdT, n_cl, mM_s, em, e5]
      by_cases z : a5 = N (48 + o)
      · simp [z, bt]
      · have z' : ¬ N (48 + o) = a5 := fun q => z q.symm
        simp [z, z', bt]
theorem m_choices (hB : MB σ vv P nc nl nt n) (hP : PV P nc nl nt n) (hS : SV P w nc nl nt n N) (hF : MF F w vv nc nl nt) (hR : MR w N s) (hw2 : w ≤ 2) (htn : t < nt) : ∃ (F' g' : fI), qev en (d + 6) 312 [.ref 151, .int (nI t)] (mM σ F s y g D) = some (some (.int (nI (chs P w N t nt))), mM σ F' s y g' D) ∧ ∀ j, j ≠ 62 → F' j = F j := by
  have hP' := hP
  have hS' := hS
  obtain ⟨⟨hc0, hc8⟩, ⟨hl0, hl4⟩, ⟨ht0, ht4⟩, ⟨hn0, hn100⟩, hln, hth⟩ := hP
  obtain ⟨St, Sl, Sk, Sc, Sq, Sw⟩ := hS
  obtain ⟨hv, hBl, hBc, hBt⟩ := hB
  have ht : t < 4 := by omega
  have est := mr_st hR ht
  obtain ⟨q, hq, hq3⟩ := sv_q Sq ht
  have hie := m_isE (en := en) (d := d + 4) (σ := σ) (y := y) (g := g) (D := D) hF hR hw2 ht Sq
  have o164 : ∀ (F s y g : fI) (D : Int64), (mM σ F s y g D).1 164 = σ.1 164 := fun F s y g D => mM_o (by decide) (by decide) (by decide) (by decide)
  have o166 : ∀ (F s y g : fI) (D : Int64), (mM σ F s y g D).1 166 = σ.1 166 := fun F s y g D => mM_o (by decide) (by decide) (by decide) (by decide)
  have o155 : ∀ (F s y g : fI) (D : Int64), (mM σ F s y g D).1 155 = σ.1 155 := fun F s y g D => mM_o (by decide) (by decide) (by decide) (by decide)
  have n31 : ¬ ((3 : Int32) = 1) := by decide
  have other : N t ≠ 3 → N t ≠ 1 → ∃ (F' g' : fI), qev en (d + 6) 312 [.ref 151, .int (nI t)] (mM σ F s y g D) = some (some (.int (nI (chs P w N t nt))), mM σ F' s y g' D) ∧ ∀ j, j ≠ 62 → F' j = F j := by
    intro a3 a1
    refine ⟨F, g, le_X12_choices en (d + 5) _ _ _ ?_, fun _ _ => rfl⟩
    rw [n_al, gd_true (n_in (by omega) (by decide)), n_cl (by omega), Nat.zero_add, mM_s, est, if_pos a3, if_neg a1]
    unfold chs
    rw [if_neg a3, if_neg a1]; rfl
  rcases St.1 t htn with ⟨z, h4, -, -⟩ | ⟨s1, ⟨i, hi, h4, h8⟩, -, -⟩ | ⟨z, ⟨i, hi, h4, h8, hk7⟩, -, -⟩ | ⟨z, h4, -, -⟩
  · refine other ?_ ?_
    · rcases z with z | z <;> rw [z] <;> decide
    · rcases z with z | z <;> rw [z] <;> decide
  · have hi100 : i < 100 := by omega
    have hL := hBl i hi
    obtain ⟨e164, e166, e167, -, -, -, ⟨t', ht', h8', ex5, ex7⟩, hem5, hem7, tg⟩ := hL
    have htt : t' = t := by
      rw [h8] at h8'
      exact ((nI_eq (by omega) (by omega)).mp h8').symm
    subst htt
    obtain ⟨⟨hk, hk19⟩, -, ho1, ho2, ho3, hx5, hx7⟩ := hln i hi
    have ei : clp (N (4 + t')) = i := by rw [h4]; exact n_cl (by omega)
    have hml := m_line (en := en) (d := d + 4) (σ := σ) (y := y) (g := g) (D := D) hF hR ht hv h4 hi100
    have hcs : chs P w N t' nt = chK P w N t' nt i (ob P i) (kd P i) := by
      unfold chs
      rw [s1, if_neg (by decide), if_pos rfl, ei]
    have f499 : ∀ (b : Bool) (m : Nat) (F' g' : fI), L_X12_choices_499 en (d + 5) (bt b) (nI m) (mM σ F' s y g' D) = some (some (.int (nI (if b = true then m else 0))), mM σ F' s y g' D) := by
      intro b m F' g'
      refine le_X12_choices_499 en (d + 5) _ _ _ _ ?_
      cases b
      · rw [if_pos (show bt false = 0 from rfl)]; rfl
      · rw [if_neg (show ¬ bt true = 0 by decide)]; rfl
    have f499t : ∀ (m : Nat) (F' g' : fI), L_X12_choices_499 en (d + 5) 1 (nI m) (mM σ F' s y g' D) = some (some (.int (nI m)), mM σ F' s y g' D) := fun m F' g' => f499 true m F' g'
    have f499f : ∀ (m : Nat) (F' g' : fI), L_X12_choices_499 en (d + 5) 0 (nI m) (mM σ F' s y g' D) = some (some (.int (nI 0)), mM σ F' s y g' D) := fun m F' g' => f499 false m F' g'
    have g1 : (1 : Int32) = nI 1 := rfl
    have key : exQ (qev en (d + 6) 312 [.ref 151, .int (nI t')] (mM σ F s y g D)) (fun r => ∃ (F' g' : fI), r = (some (.int (nI (chK P w N t' nt i (ob P i) (kd P i)))), mM σ F' s y g' D) ∧ ∀ j, j ≠ 62 → F' j = F j) := by
      refine exQ.le (le_X12_choices en (d + 5) _ _) ?_
      have n13 : ¬ ((1 : Int32) = 3) := by decide
      rw [n_al, gd_true (n_in (by omega) (by decide)), n_cl (by omega), Nat.zero_add, mM_s, est, s1, if_pos n13, if_pos rfl, hml, bI_some, gd_true (n_in (by omega) (by decide)), n_cl (by omega), nm_eq, o166, o164, e164, e166, hk, n_to (by omega)]
      have ret : ∀ (m : Nat) (X : Option qR), X = some (some (.int (nI m)), mM σ F s y g D) → m = chK P w N t' nt i (ob P i) (kd P i) → exQ X (fun r => ∃ (F' g' : fI), r = (some (.int (nI (chK P w N t' nt i (ob P i) (kd P i)))), mM σ F' s y g' D) ∧ ∀ j, j ≠ 62 → F' j = F j) := fun m X hX hm => exQ.of hX ⟨F, g, by rw [hm], fun _ _ => rfl⟩
      have hq0 : (N (56 + t') = 0) = (q = 0) := by rw [hq, n_eq (k := 0) (by decide) (by omega)]
      have f451 : ∀ b : Bool, b = decide (N (56 + t') = 0) → L_X12_choices_451 en (d + 5) (nI t') 1 (mM σ F s y g D) = some (some (.int (nI (if b = true then 1 else 0))), mM σ F s y g D) := by
        intro b hb
        refine le_X12_choices_451 en (d + 5) _ _ _ _ ?_
        rw [hie, bI_some, ← hb]
        exact f499 b 1 F g
      have hch451 : kd P i = 6 ∨ kd P i = 7 ∨ kd P i = 9 ∨ kd P i = 10 ∨ kd P i = 12 → (if decide (N (56 + t') = 0) = true then 1 else 0) = chK P w N t' nt i (ob P i) (kd P i) := by
        intro z
        unfold chK
        by_cases y : N (56 + t') = 0
        · rw [if_pos (decide_eq_true y), if_neg (fun z => z.1 y), if_neg (by omega), if_neg (by omega), if_neg (by omega), if_neg (by omega), if_neg (by omega)]
        · rw [if_neg (by rw [decide_eq_false y]; decide), if_pos ⟨y, Or.inl (by omega)⟩]
      have hch1 : kd P i = 0 ∨ 13 ≤ kd P i → 1 = chK P w N t' nt i (ob P i) (kd P i) := by
        intro z
        unfold chK
        rw [if_neg (fun z => by omega), if_neg (by omega), if_neg (by omega), if_neg (by omega), if_neg (by omega), if_neg (by omega)]
      have hz : ∀ X : Option qR, kd P i = 3 ∨ kd P i = 4 ∨ kd P i = 5 → ¬ N (56 + t') = 0 → 0 = chK P w N t' nt i (ob P i) (kd P i) := by
        intro X z y
        unfold chK
        rw [if_pos ⟨y, Or.inl (by omega)⟩]
      have hnz : kd P i = 3 ∨ kd P i = 4 → N (56 + t') = 0 → chK P w N t' nt i (ob P i) (kd P i) = if roS P w N t' i (ob P i) (kd P i) = true then 1 else 0 := by
        intro z y
        unfold chK
        rw [if_neg (fun z => z.1 y), if_neg (by omega), if_pos (Or.inr z)]
      have e52 : w = 2 → ob P i < 8 → s (52 + ob P i) = N (72 + ob P i) := by
        intro z z2
        subst z
        rw [mr_v hR (by omega) (by omega), show 52 + ob P i + 20 = 72 + ob P i by omega]
      rcases (show kd P i = 0 ∨ kd P i = 1 ∨ kd P i = 2 ∨ kd P i = 3 ∨ kd P i = 4 ∨ kd P i = 5 ∨ kd P i = 6 ∨ kd P i = 7 ∨ kd P i = 8 ∨ kd P i = 9 ∨ kd P i = 10 ∨ kd P i = 11 ∨ kd P i = 12 ∨ 13 ≤ kd P i by omega) with z | z | z | z | z | z | z | z | z | z | z | z | z | z
      · rw [z] at ret hch1 ⊢
        exact ret 1 _ (f499t 1 F g) (hch1 (by decide))
      · obtain ⟨ho, hoc⟩ := ho1 (by omega) (by omega)
        have hbc := (hBc _ hoc).2
        rw [z] at ret ⊢
        refine (?_ : exQ (if ¬ ((mM σ F s y g D).1 151 58) = (2 : Int32) then _ else _) _)
        rw [mM_F, hF.2.2.2.1]
        by_cases h2 : w = 2
        · subst h2
          obtain ⟨a, h72, a1, a9, -⟩ := sv_ce Sw rfl hc8 hoc
          rw [if_neg (show ¬ ¬ (nI 2 = 2) by decide), ho, gd_true (n_in (by omega) (by decide)), o155, n_cl (by omega), hbc]
          cases hvo : vol P (ob P i)
          · rw [if_neg (show ¬ ¬ (bt false = 0) by decide)]
            have hl : qev en (d + 5) 307 [.ref 151, .int (nI (ob P i))] (mM σ F s y g D) = some (some (.int (nI (a - 1))), mM σ F s y g D) := by
              refine le_X12_lastWrite en (d + 4) _ _ _ ?_
              simp (disch := omega) only [n_al, n_in, gdT, n_cl, mM_s, e52 rfl (by omega), h72, n_sr]
            have hview : nb (N (224 + t')) (ob P i) < a := by
              have := sv_vw Sw rfl ht htn (ob P i) (by omega)
              rcases this with ⟨-, z⟩ | ⟨z, -⟩
              · rw [h72, n_clp (by omega)] at z; exact z
              · omega
            have ev : s (204 + t') = N (224 + t') := by rw [mr_v hR (by omega) (by omega), show 204 + t' + 20 = 224 + t' by omega]
            rw [hl, bI_some, n_al, gd_true (n_in (by omega) (by decide)), n_cl (by omega), mM_s, ev, m_view (show ob P i < 8 by omega), bI_some, nm_eq, nI_sub (by omega), nI_1]
            refine ret _ _ (f499t _ F g) ?_
            unfold chK
            rw [if_neg (fun z => by omega), if_pos rfl, if_pos ⟨rfl, hvo⟩, h72, n_clp (by omega)]
            omega
          · rw [if_pos (show ¬ (bt true = 0) by decide)]
            refine ret 1 _ (f499t 1 F g) ?_
            unfold chK
            rw [if_neg (fun z => by omega), if_pos rfl, if_neg (fun z => by rw [hvo] at z; exact absurd z.2 (by decide))]
        · rw [if_pos (show ¬ (nI w = 2) by rw [n_eq (by decide) (by omega)]; exact h2)]
          refine ret 1 _ (f499t 1 F g) ?_
          unfold chK
          rw [if_neg (fun z => by omega), if_pos rfl, if_neg (fun z => h2 z.1)]
      · obtain ⟨ho, hoc⟩ := ho1 (by omega) (by omega)
        have hbc := (hBc _ hoc).2
        rw [z] at ret ⊢
        refine (?_ : exQ (if ((mM σ F s y g D).1 151 58) = (0 : Int32) then _ else _) _)
        rw [mM_F, hF.2.2.2.1, ho]
        by_cases h0 : w = 0
        · subst h0
          rw [if_pos (show nI 0 = 0 from rfl)]
          refine ret 1 _ (f499t 1 F g) ?_
          have hqz : N (56 + t') = 0 := by
            rcases Sq t' ht with ⟨z, -⟩ | ⟨-, z, -⟩
            · exact absurd z (by decide)
            · exact z
          unfold chK roS
          rw [if_neg (fun z => z.1 hqz), if_neg (by decide), if_pos (by decide)]
          rfl
        · rw [if_neg (show ¬ (nI w = 0) by rw [n_eq (by decide) (by omega)]; exact h0)]
          by_cases h1 : w = 1
          · subst h1
            have e := mr_bu hR ht
            rw [if_neg (show ¬ ¬ (nI 1 = 1) by decide), gd_true (n_in (by omega) (by decide)), o155, n_cl (by omega), hbc]
            cases hvo : vol P (ob P i)
            · rw [if_pos (show bt false = 0 from rfl), n_al, gd_true (n_in (by omega) (by decide)), n_cl (by omega), mM_s, e, hq]
              by_cases h3 : 3 ≤ q
              · rw [if_pos (show (3 : Int32) ≤ nI q by rw [n_le (by decide) (by omega)]; exact h3)]
                refine ret 0 _ (f499f 1 F g) ?_
                unfold chK roS
                rw [if_neg (fun z => by rcases z.2 with y | y; omega; rw [hvo] at y; exact absurd y.2 (by decide)), if_neg (by decide), if_pos (by decide), if_pos rfl, hq, n_clp (by omega), decide_eq_false (by omega)]
                rfl
              · rw [if_neg (show ¬ (3 : Int32) ≤ nI q by rw [n_le (by decide) (by omega)]; exact h3)]
                refine ret 1 _ (f499t 1 F g) ?_
                unfold chK roS
                rw [if_neg (fun z => by rcases z.2 with y | y; omega; rw [hvo] at y; exact absurd y.2 (by decide)), if_neg (by decide), if_pos (by decide), if_pos rfl, hq, n_clp (by omega), decide_eq_true (by omega)]
                rfl
            · rw [if_neg (show ¬ bt true = 0 by decide), hie, bI_some]
              by_cases hqz : N (56 + t') = 0
              · rw [decide_eq_true hqz, if_neg (show ¬ bt true = 0 by decide)]
                refine ret 1 _ (f499t 1 F g) ?_
                unfold chK roS
                rw [if_neg (fun z => z.1 hqz), if_neg (by decide), if_pos (by decide), if_pos rfl, hqz]
                rfl
              · rw [decide_eq_false hqz, if_pos (show bt false = 0 from rfl)]
                refine ret 0 _ (f499f 1 F g) ?_
                unfold chK
                rw [if_pos ⟨hqz, Or.inr ⟨rfl, hvo⟩⟩]
          · have h2 : w = 2 := by omega
            subst h2
            have hqz : N (56 + t') = 0 := by
              rcases Sq t' ht with ⟨z, -⟩ | ⟨-, z, -⟩
              · exact absurd z (by decide)
              · exact z
            obtain ⟨a, h72, a1, a9, -⟩ := sv_ce Sw rfl hc8 hoc
            rw [if_pos (show ¬ (nI 2 = 1) by decide), n_al, gd_true (n_in (by omega) (by decide)), n_cl (by omega), mM_s, e52 rfl (by omega), h72]
            by_cases h9 : 9 ≤ a
            · rw [if_pos (show (9 : Int32) ≤ nI a by rw [n_le (by decide) (by omega)]; exact h9)]
              refine ret 0 _ (f499f 1 F g) ?_
              have hro : roS P 2 N t' i (ob P i) 2 = false := by
                unfold roS
                rw [if_neg (by decide), if_neg (by decide), h72, n_clp (by omega), if_neg (by omega), if_neg (by decide)]
              unfold chK
              rw [if_neg (fun z => z.1 hqz), if_neg (by decide), if_pos (by decide), hro]
              rfl
            · rw [if_neg (show ¬ (9 : Int32) ≤ nI a by rw [n_le (by decide) (by omega)]; exact h9)]
              refine ret 1 _ (f499t 1 F g) ?_
              have hro : roS P 2 N t' i (ob P i) 2 = true := by
                unfold roS
                rw [if_neg (by decide), if_neg (by decide), h72, n_clp (by omega), if_pos (by omega)]
              unfold chK
              rw [if_neg (fun z => z.1 hqz), if_neg (by decide), if_pos (by decide), hro]
              rfl
      · obtain ⟨ho, hoc⟩ := ho1 (by omega) (by omega)
        have hz' := hz none (Or.inl z)
        have hnz' := hnz (Or.inl z)
        rw [z] at ret hz' hnz' ⊢
        refine (?_ : exQ (bI (qev en (d + 5) 310 [.ref 151, .int (nI t')] (mM σ F s y g D)) _) _)
        rw [hie, bI_some]
        by_cases hqz : N (56 + t') = 0
        · rw [decide_eq_true hqz, if_neg (show ¬ bt true = 0 by decide), mM_F, hF.2.2.2.1, ho]
          by_cases h2 : w = 2
          · subst h2
            obtain ⟨a, h72, a1, a9, -⟩ := sv_ce Sw rfl hc8 hoc
            rw [if_neg (show ¬ ¬ (nI 2 = 2) by decide), n_al, gd_true (n_in (by omega) (by decide)), n_cl (by omega), mM_s, e52 rfl (by omega), h72]
            by_cases h9 : a < 9
            · rw [if_pos (show nI a < (9 : Int32) by rw [n_gt (by decide) (by omega)]; exact h9)]
              refine ret 1 _ (f499t 1 F g) ?_
              rw [hnz' hqz, rov_lt h72 h9]
              rfl
            · rw [if_neg (show ¬ nI a < (9 : Int32) by rw [n_gt (by decide) (by omega)]; exact h9)]
              obtain ⟨g', b', hw⟩ := m_would (en := en) (d := d) (σ := σ) (F := F) (y := y) (g := g) (D := D) (by rw [e166, ho]) ex5 ex7 hR hv hi100 ht (show ob P i < 8 by omega) (sl_in Sl ht)
              rw [hw, bI_some]
              have hro : roS P 2 N t' i (ob P i) 3 = (match exv P 5 N i, exv P 7 N i with
                | some v, some _ => decide (¬ N (48 + ob P i) = v)
                | _, _ => true) := by
                unfold roS
                rw [if_neg (by decide), if_neg (by decide), h72, n_clp (by omega), if_neg h9, if_pos rfl]
                rfl
              have fin2 : ∀ b : Bool, roS P 2 N t' i (ob P i) 3 = !b → exQ (if ¬ bt b = 0 then L_X12_choices_499 en (d + 5) 0 1 (mM σ (upd F 62 b') s y g' D) else L_X12_choices_499 en (d + 5) 1 1 (mM σ (upd F 62 b') s y g' D)) (fun r => ∃ (F' g' : fI), r = (some (.int (nI (chK P 2 N t' nt i (ob P i) 3))), mM σ F' s y g' D) ∧ ∀ j, j ≠ 62 → F' j = F j) := by
                intro b hb
                cases b
                · rw [if_neg (show ¬ ¬ bt false = 0 by decide)]
                  exact exQ.of (f499t 1 _ _) ⟨_, _, by rw [hnz' hqz, hb]; rfl, fun j hj => pk_un hj⟩
                · rw [if_pos (show ¬ bt true = 0 by decide)]
                  exact exQ.of (f499f 1 _ _) ⟨_, _, by rw [hnz' hqz, hb]; rfl, fun j hj => pk_un hj⟩
              refine fin2 _ ?_
              rw [hro]
              cases exv P 5 N i with
              | none => rfl
              | some x =>
                cases exv P 7 N i with
                | none => rfl
                | some x' =>
                  by_cases zz : N (48 + ob P i) = x
                  · simp [zz]
                  · simp [zz]
          · rw [if_pos (show ¬ (nI w = 2) by rw [n_eq (by decide) (by omega)]; exact h2)]
            refine ret 1 _ (f499t 1 F g) ?_
            rw [hnz' hqz, rov_n h2 hw2 hqz]
            rfl
        · rw [decide_eq_false hqz, if_pos (show bt false = 0 from rfl)]
          exact ret 0 _ (f499f 1 F g) (hz' hqz)
      · obtain ⟨ho, hoc⟩ := ho1 (by omega) (by omega)
        have hz' := hz none (Or.inr (Or.inl z))
        have hnz' := hnz (Or.inr z)
        rw [z] at ret hz' hnz' ⊢
        refine (?_ : exQ (bI (qev en (d + 5) 310 [.ref 151, .int (nI t')] (mM σ F s y g D)) _) _)
        rw [hie, bI_some]
        by_cases hqz : N (56 + t') = 0
        · rw [decide_eq_true hqz, if_neg (show ¬ bt true = 0 by decide), mM_F, hF.2.2.2.1, ho]
          by_cases h2 : w = 2
          · subst h2
            obtain ⟨a, h72, a1, a9, -⟩ := sv_ce Sw rfl hc8 hoc
            rw [if_neg (show ¬ ¬ (nI 2 = 2) by decide), n_al, gd_true (n_in (by omega) (by decide)), n_cl (by omega), mM_s, e52 rfl (by omega), h72]
            by_cases h9 : 9 ≤ a
            · rw [if_pos (show (9 : Int32) ≤ nI a by rw [n_le (by decide) (by omega)]; exact h9)]
              refine ret 0 _ (f499f 1 F g) ?_
              rw [hnz' hqz, rov_ge h72 h9 (by omega) (by decide)]
              rfl
            · rw [if_neg (show ¬ (9 : Int32) ≤ nI a by rw [n_le (by decide) (by omega)]; exact h9)]
              refine ret 1 _ (f499t 1 F g) ?_
              rw [hnz' hqz, rov_lt h72 (by omega)]
              rfl
          · rw [if_pos (show ¬ (nI w = 2) by rw [n_eq (by decide) (by omega)]; exact h2)]
            refine ret 1 _ (f499t 1 F g) ?_
            rw [hnz' hqz, rov_n h2 hw2 hqz]
            rfl
        · rw [decide_eq_false hqz, if_pos (show bt false = 0 from rfl)]
          exact ret 0 _ (f499f 1 F g) (hz' hqz)
      · obtain ⟨ho, hol⟩ := ho2 (by omega) (by omega)
        have hz' := hz none (Or.inr (Or.inr z))
        rw [z] at ret hz' ⊢
        refine (?_ : exQ (bI (qev en (d + 5) 310 [.ref 151, .int (nI t')] (mM σ F s y g D)) _) _)
        rw [hie, bI_some]
        have eo := mr_ow hR (show ob P i < 4 by omega)
        by_cases hqz : N (56 + t') = 0
        · rw [decide_eq_true hqz, if_neg (show ¬ bt true = 0 by decide), ho, n_al, gd_true (n_in (by omega) (by decide)), n_cl (by omega), mM_s, eo]
          have hck : ∀ b : Bool, (b = true ↔ (N (40 + ob P i) < 0 ∨ N (40 + ob P i) = nI t')) → (if b = true then 1 else 0) = chK P w N t' nt i (ob P i) 5 := by
            intro b hb
            have e : chK P w N t' nt i (ob P i) 5 = if N (40 + ob P i) < 0 ∨ N (40 + ob P i) = nI t' then 1 else 0 := by
              unfold chK
              rw [if_neg (fun z => z.1 hqz), if_neg (by decide), if_neg (by decide), if_pos rfl]
            rw [e]
            by_cases h : N (40 + ob P i) < 0 ∨ N (40 + ob P i) = nI t'
            · rw [if_pos h, if_pos (hb.mpr h)]
            · rw [if_neg h, if_neg (fun z => h (hb.mp z))]
          rcases Sk (ob P i) (by omega) with ⟨hm, -⟩ | ⟨-, tt, qq, b1, b2, -⟩
          · rw [hm, if_pos (show (-1 : Int32) + 1 = 0 by decide)]
            exact ret 1 _ (f499t 1 F g) (hck true ⟨fun _ => Or.inl (by rw [hm]; decide), fun _ => rfl⟩)
          · rw [b2, nI_1, if_neg (show ¬ nI (tt + 1) = 0 by rw [n_eq (by decide) (by omega)]; omega), nI_1]
            by_cases htt : tt = t'
            · rw [if_neg (show ¬ ¬ nI (tt + 1) = nI (t' + 1) by rw [htt]; exact not_not_intro rfl)]
              exact ret 1 _ (f499t 1 F g) (hck true ⟨fun _ => Or.inr (by rw [b2, htt]), fun _ => rfl⟩)
            · rw [if_pos (show ¬ nI (tt + 1) = nI (t' + 1) by rw [n_EQ (by omega) (by omega)]; omega)]
              refine ret 0 _ (f499f 1 F g) (hck false ⟨fun z => (by cases z), fun z => ?_⟩)
              rcases z with z | z
              · rw [b2] at z; exact absurd z (nI_pos (by omega))
              · rw [b2, n_EQ (by omega) (by omega)] at z; exact absurd z htt
        · rw [decide_eq_false hqz, if_pos (show bt false = 0 from rfl)]
          exact ret 0 _ (f499f 1 F g) (hz' hqz)
      · have h := hch451 (Or.inl z)
        rw [z] at ret h ⊢
        exact ret _ _ (f451 _ rfl) h
      · have h := hch451 (Or.inr (Or.inl z))
        rw [z] at ret h ⊢
        exact ret _ _ (f451 _ rfl) h
      · obtain ⟨ho, hol⟩ := ho2 (by omega) (by omega)
        rw [z] at ret ⊢
        refine (?_ : exQ (bI (qev en (d + 5) 310 [.ref 151, .int (nI t')] (mM σ F s y g D)) _) _)
        have hs : ∀ u, u < nt → N u = 2 → ∃ i, N (4 + u) = nI i ∧ i < n := by
          intro u hu h2
          rcases St.1 u hu with ⟨z, -⟩ | ⟨z, -⟩ | ⟨-, ⟨i, a1, a2, -⟩, -⟩ | ⟨z, -⟩
          · rcases z with z | z <;> rw [h2] at z <;> exact absurd z (by decide)
          · rw [h2] at z; exact absurd z (by decide)
          · exact ⟨i, a2, a1⟩
          · rw [h2] at z; exact absurd z (by decide)
        have hwt := m_wts (en := en) (d := d + 3) (σ := σ) (F := F) (y := y) (g := g) (D := D) (l := ob P i) (fun i hi => (hBl i hi).2.1) hF hR hv ht4 hn100 hs
        have eo := mr_ow hR (show ob P i < 4 by omega)
        have hwl := @wts_le (ob P i) P N nt
        rw [hie, bI_some, ho, hwt, bI_some, n_al, gd_true (n_in (by omega) (by decide)), n_cl (by omega), mM_s, eo]
        have hck : ∀ m : Nat, (N (56 + t') = 0 → m = if N (40 + ob P i) = nI t' then max 1 (wts P N (ob P i) nt) else 1) → (if decide (N (56 + t') = 0) = true then m else 0) = chK P w N t' nt i (ob P i) 8 := by
          intro m hm
          unfold chK
          by_cases hqz : N (56 + t') = 0
          · rw [decide_eq_true hqz, if_pos rfl, if_neg (fun z => z.1 hqz), if_neg (by decide), if_neg (by decide), if_neg (by decide), if_pos rfl]
            exact hm hqz
          · rw [decide_eq_false hqz, if_neg (by decide), if_pos ⟨hqz, Or.inl (by decide)⟩]
        have ee : (N (40 + ob P i) + 1 = nI t' + 1) ↔ N (40 + ob P i) = nI t' := by
          refine ⟨fun z => ?_, fun z => by rw [z]⟩
          rcases Sk (ob P i) (by omega) with ⟨hm, -⟩ | ⟨-, tt, qq, b1, b2, -⟩
          · rw [hm] at z
            exfalso
            have : nI t' + 1 = 0 := z.symm
            rw [nI_1, n_eq (by decide) (by omega)] at this
            omega
          · rw [b2, nI_1, nI_1, n_EQ (by omega) (by omega)] at z
            rw [b2, show tt = t' by omega]
        by_cases hh : N (40 + ob P i) = nI t'
        · rw [if_neg (not_not_intro (ee.mpr hh))]
          by_cases h1 : wts P N (ob P i) nt ≤ 1
          · rw [if_pos (show nI (wts P N (ob P i) nt) ≤ (1 : Int32) by rw [n_ge (by decide) (by omega)]; exact h1)]
            exact ret _ _ (f499 _ 1 F g) (hck 1 (fun _ => by rw [if_pos hh]; omega))
          · rw [if_neg (show ¬ nI (wts P N (ob P i) nt) ≤ (1 : Int32) by rw [n_ge (by decide) (by omega)]; exact h1)]
            exact ret _ _ (f499 _ _ F g) (hck _ (fun _ => by rw [if_pos hh]; omega))
        · rw [if_pos (fun z => hh (ee.mp z))]
          exact ret _ _ (f499 _ 1 F g) (hck 1 (fun _ => by rw [if_neg hh]))
      · have h := hch451 (Or.inr (Or.inr (Or.inl z)))
        rw [z] at ret h ⊢
        exact ret _ _ (f451 _ rfl) h
      · have h := hch451 (Or.inr (Or.inr (Or.inr (Or.inl z))))
        rw [z] at ret h ⊢
        exact ret _ _ (f451 _ rfl) h
      · obtain ⟨ho, hou⟩ := ho3 (Or.inr z)
        rw [z] at ret ⊢
        refine (?_ : exQ (gd (p_inB ((0 : Int32) + P 9 i) 216 = true) _) _)
        have esu := mr_st hR (show ob P i < 4 by omega)
        have hiu := m_isE (en := en) (d := d + 4) (σ := σ) (y := y) (g := g) (D := D) hF hR hw2 (show ob P i < 4 by omega) Sq
        rw [ho, n_al, gd_true (n_in (by omega) (by decide)), n_cl (by omega), Nat.zero_add, mM_s, esu]
        have hck : ∀ b : Bool, (b = true ↔ N (56 + t') = 0 ∧ N (ob P i) = 4 ∧ N (56 + ob P i) = 0) → (if b = true then 1 else 0) = chK P w N t' nt i (ob P i) 11 := by
          intro b hb
          by_cases hqz : N (56 + t') = 0
          · have e : chK P w N t' nt i (ob P i) 11 = if N (ob P i) = 4 ∧ N (56 + ob P i) = 0 then 1 else 0 := by
              unfold chK
              rw [if_neg (fun z => z.1 hqz), if_neg (by decide), if_neg (by decide), if_neg (by decide), if_neg (by decide), if_pos rfl]
            rw [e]
            by_cases h : N (ob P i) = 4 ∧ N (56 + ob P i) = 0
            · rw [if_pos h, if_pos (hb.mpr ⟨hqz, h⟩)]
            · rw [if_neg h, if_neg (fun z => h (hb.mp z).2)]
          · have e : chK P w N t' nt i (ob P i) 11 = 0 := by
              unfold chK
              rw [if_pos ⟨hqz, Or.inl (by decide)⟩]
            rw [e, if_neg (fun z => hqz (hb.mp z).1)]
        by_cases h4 : N (ob P i) = 4
        · rw [if_neg (not_not_intro h4), hie, bI_some]
          by_cases hqz : N (56 + t') = 0
          · rw [decide_eq_true hqz, if_neg (show ¬ bt true = 0 by decide), hiu, bI_some]
            by_cases hqu : N (56 + ob P i) = 0
            · rw [decide_eq_true hqu, if_neg (show ¬ bt true = 0 by decide)]
              exact ret 1 _ (f499t 1 F g) (hck true ⟨fun _ => ⟨hqz, h4, hqu⟩, fun _ => rfl⟩)
            · rw [decide_eq_false hqu, if_pos (show bt false = 0 from rfl)]
              exact ret 0 _ (f499f 1 F g) (hck false ⟨fun z => (by cases z), fun z => absurd z.2.2 hqu⟩)
          · rw [decide_eq_false hqz, if_pos (show bt false = 0 from rfl)]
            exact ret 0 _ (f499f 1 F g) (hck false ⟨fun z => (by cases z), fun z => absurd z.1 hqz⟩)
        · rw [if_pos h4]
          exact ret 0 _ (f499f 1 F g) (hck false ⟨fun z => (by cases z), fun z => absurd z.2.1 h4⟩)
      · have h := hch451 (Or.inr (Or.inr (Or.inr (Or.inr z))))
        rw [z] at ret h ⊢
        exact ret _ _ (f451 _ rfl) h
      · have h := hch1 (Or.inr z)
        refine ret 1 _ ?_ h
        rw [show ((kd P i : Nat) : Int) = ((kd P i : Nat) : Int) from rfl]
        exact (swI_far _ (kd P i) 1 (Or.inr (by simp only [List.length_cons, List.length_nil]; omega))).trans (f499t 1 F g)
    obtain ⟨r, h1, F', g', rfl, h2⟩ := key
    exact ⟨F', g', by rw [hcs]; exact h1, h2⟩
  · rcases z with s2 | s3
    · exact other (by rw [s2]; decide) (by rw [s2]; decide)
    · have hi100 : i < 100 := by omega
      obtain ⟨e164, e166, -⟩ := hBl i hi
      obtain ⟨-, -, -, ho2, -⟩ := hln i hi
      obtain ⟨ho, hol⟩ := ho2 (by omega) (by omega)
      have ei : clp (N (4 + t)) = i := by rw [h4]; exact n_cl (by omega)
      have hml := m_line (en := en) (d := d + 4) (σ := σ) (y := y) (g := g) (D := D) hF hR ht hv h4 hi100
      have eo := mr_ow hR (show ob P i < 4 by omega)
      refine ⟨F, g, le_X12_choices en (d + 5) _ _ _ ?_, fun _ _ => rfl⟩
      rw [n_al, gd_true (n_in (by omega) (by decide)), n_cl (by omega), Nat.zero_add, mM_s, est, if_neg (not_not_intro s3), hml, bI_some, gd_true (n_in (by omega) (by decide)), n_cl (by omega), o166, e166, ho, n_al, gd_true (n_in (by omega) (by decide)), n_cl (by omega), mM_s, eo]
      unfold chs
      rw [if_pos s3, ei]
      rcases Sk (ob P i) (by omega) with ⟨hm, -⟩ | ⟨-, tt, qq, b1, b2, -⟩
      · rw [hm, if_neg (show ¬ ¬ (-1 : Int32) + 1 = 0 by decide), hie, bI_some]
        by_cases hqz : N (56 + t) = 0
        · rw [decide_eq_true hqz, if_neg (show ¬ bt true = 0 by decide), if_pos ⟨by decide, hqz⟩]; rfl
        · rw [decide_eq_false hqz, if_pos (show bt false = 0 from rfl), if_neg (fun z => hqz z.2)]; rfl
      · rw [b2, nI_1, if_pos (show ¬ nI (tt + 1) = 0 by rw [n_eq (by decide) (by omega)]; omega), if_neg (fun z => absurd z.1 (nI_pos (by omega)))]; rfl
  · refine other ?_ ?_ <;> rw [z] <;> decide
end MC
