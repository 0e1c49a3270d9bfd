/-! THE MODEL'S STEP: all of it. -/
section MT
variable {en : pN} {d t i n top k K w e a c l u ch nc nl nt vv j m p o : Nat} {v x z : Int32} {q : Nat} {σ : qS} {F s y g N : fI} {P : Nat → fI} {D : Int64}
theorem m_step (hB : MB σ vv P nc nl nt n) (hP : PV P nc nl nt n) (hS : SV P w nc nl nt n N) (hF : MF F w vv nc nl nt) (hR : MR w N s) (hw2 : w ≤ 2) (hr : rdS P w N t ch nt) (hch : ch < 10) : exQ (qev en (d + 6) 324 [.ref 151, .int (nI t), .int (nI ch)] (mM σ F s y g D)) (stQ σ P w N t ch nl nt vv F y) := by
  have hP' := hP
  have hS' := hS
  have hB' := hB
  obtain ⟨htn, hr⟩ := hr
  have hle := ch_le hP hS htn
  obtain ⟨⟨hc0, hc8⟩, ⟨hl0, hl4⟩, ⟨ht0, ht4⟩, ⟨hn0, hn100⟩, hln, hth⟩ := hP
  obtain ⟨St, Sl, Sk, Sc, Sq, Sw⟩ := hS
  obtain ⟨hv, hBl, hBc, hBt⟩ := hB
  have ht : t < 4 := by omega
  have hin := sl_in Sl ht
  refine exQ.le (le_X12_doStep en (d + 5) _ _ _) ?_
  by_cases h9 : ch = 9
  · subst h9
    have hq : ¬ N (56 + t) = 0 := by
      rcases hr with z | ⟨-, z⟩
      · omega
      · exact z
    rcases Sq t ht with ⟨w1, -, q, hq0, hq3, hqe⟩ | ⟨-, z, -⟩
    · subst w1
      have q1 : 1 ≤ q := by
        rcases Nat.eq_zero_or_pos q with z | z
        · subst z; exact absurd hq0 hq
        · exact z
      rcases hqe 0 (by decide) with ⟨-, c, v, hcn, hvol, hv', he⟩ | ⟨z, -⟩
      · have he : N (60 + t * 3) = pkq v c := he
        have a1 := pkq_and (v := v) (show c < 8 by omega)
        have a2 := pkq_shr (show c < 8 by omega) hv'
        obtain ⟨s', e1, e2⟩ := m_flush (en := en) (d := d + 4) (σ := σ) (F := upd (upd (upd F 68 (-2)) 69 20) 70 (s (56 + 3 * t))) (y := y) (g := g) (D := D) hR ht (show c < 8 by omega) (by rw [he, a1]) (by rw [he, a2]) hq0 q1 hq3
        have n9 : ¬ ¬ (nI 9 = (9 : Int32)) := not_not_intro rfl
        rw [if_neg n9]
        simp (disch := omega) only [nm_eq, mM_wF, n_ml, n_al, n_in, gdT, n_cl, mM_s, e1, bV_some]
        have hst : stp P 1 N t 9 nt = flu N t c v := by
          unfold stp
          rw [if_pos rfl, he, a1, a2, n_clp (by omega)]
        refine exQ.ret ⟨_, s', y, g, D, rfl, ?_, ?_, ?_, ?_, ?_, ?_, ?_, ?_, ?_⟩
        · exact ((FE.up (by decide) (by decide)).tr (FE.up (by decide) (by decide))).tr (FE.up (by decide) (by decide))
        · rw [hst]; exact e2
        · rw [pk_un (by decide), pk_un (by decide), pk_us]; rfl
        · rw [pk_un (by decide), pk_us]; rfl
        · intro z; exact absurd rfl z
        · intro z
          rcases z with z | z <;> exact absurd (show (20 : Int32) = _ from z) (by decide)
        · intro z; exact absurd rfl z
        · rw [pk_un (by decide), pk_un (by decide), pk_un (by decide)]; rfl
        · intro hy u hu
          rw [hst, fr_flu (by omega) (by omega), hy u hu]
      · omega
    · exact absurd z hq
  · have hr : ch < chs P w N t nt := hr.resolve_right (fun z => h9 z.1)
    have e9 : ¬ nI ch = (9 : Int32) := by rw [n_eq (by decide) (by omega)]; exact h9
    have o164 : ∀ (F s y g : fI) (D : Int64), (mM σ F s y g D).1 164 = σ.1 164 := fun F s y g D => mM_o (by decide) (by decide) (by decide) (by decide)
    have o166 : ∀ (F s y g : fI) (D : Int64), (mM σ F s y g D).1 166 = σ.1 166 := fun F s y g D => mM_o (by decide) (by decide) (by decide) (by decide)
    have o174 : ∀ (F s y g : fI) (D : Int64), (mM σ F s y g D).1 174 = σ.1 174 := fun F s y g D => mM_o (by decide) (by decide) (by decide) (by decide)
    have o176 : ∀ (F s y g : fI) (D : Int64), (mM σ F s y g D).1 176 = σ.1 176 := fun F s y g D => mM_o (by decide) (by decide) (by decide) (by decide)
    have o177 : ∀ (F s y g : fI) (D : Int64), (mM σ F s y g D).1 177 = σ.1 177 := fun F s y g D => mM_o (by decide) (by decide) (by decide) (by decide)
    have o178 : ∀ (F s y g : fI) (D : Int64), (mM σ F s y g D).1 178 = σ.1 178 := fun F s y g D => mM_o (by decide) (by decide) (by decide) (by decide)
    have o179 : ∀ (F s y g : fI) (D : Int64), (mM σ F s y g D).1 179 = σ.1 179 := fun F s y g D => mM_o (by decide) (by decide) (by decide) (by decide)
    have o180 : ∀ (F s y g : fI) (D : Int64), (mM σ F s y g D).2.1 180 = σ.2.1 180 := fun F s y g D => mM_J (by decide)
    have est := mr_st hR ht
    rw [if_pos e9]
    have mlt : ∀ i, N (4 + t) = nI i → i < 100 → qev en (d + 5) 303 [.ref 151, .int (nI t)] (mM σ F s y g D) = some (some (.int (nI (100 * vv + i))), mM σ F s y g D) := fun i h4 hi => m_line (d := d + 4) hF hR ht hv h4 hi
    have hsub : ∀ i, i < 100 → nI (100 * vv + i) - ((100 : Int32) * nI vv) = nI i := fun i hi => by
      rw [n_ml, nI_sub (by omega), show 100 * vv + i - 100 * vv = i by omega]
    by_cases s3 : N t = 3
    · obtain ⟨⟨i, hi, h4, h8, hk7⟩, -, qq, hqq, hqq1, hqq9⟩ := sv_wok (St.1 t htn) s3
      have hi100 : i < 100 := by omega
      obtain ⟨e164, e166, e167, -, -, fo, -, -, -, tg⟩ := hBl i hi
      obtain ⟨⟨hk, -⟩, -, -, ho, -⟩ := hln i hi
      obtain ⟨ho, hol⟩ := ho (by omega) (by omega)
      have ei : clp (N (4 + t)) = i := by rw [h4]; exact n_clp (by omega)
      have eT : stp P w N t ch nt = tkb N t (ob P i) (P 23 i) := by
        unfold stp
        rw [if_neg h9, if_pos s3, ei]
      have hm1 : N (40 + ob P i) = -1 := by
        unfold chs at hr
        rw [if_pos s3, ei] at hr
        by_cases z : N (40 + ob P i) < 0 ∧ N (56 + t) = 0
        · rcases Sk (ob P i) (by omega) with ⟨y, -⟩ | ⟨-, tt, qq, b1, b2, -⟩
          · exact y
          · have := z.1; rw [b2] at this; exact absurd this (nI_pos (by omega))
        · rw [if_neg z] at hr; omega
      have n33 : ¬ ¬ N t = (3 : Int32) := not_not_intro s3
      have hO : ∀ k, k < nl → N (40 + k) = -1 ∨ ∃ j, N (40 + k) = nI j ∧ j < 4 := by
        intro k hk
        rcases Sk k (by omega) with ⟨z, -⟩ | ⟨-, tt, q, a1, a2, -⟩
        · exact Or.inl z
        · exact Or.inr ⟨tt, a2, by omega⟩
      have ehd : s (8 + t) = nI qq := by rw [mr_hd hR ht, if_neg (by rw [s3]; decide), hqq]
      -- the fields when the lock is taken
      generalize hFF : upd (upd (upd (upd (upd F 68 (nI i)) 69 (σ.1 164 (100 * vv + i))) 70 (σ.1 166 (100 * vv + i))) 71 0) 69 19 = F1
      have f1 : FE F F1 := by
        rw [← hFF]
        exact ((((FE.up (by decide) (by decide)).tr (FE.up (by decide) (by decide))).tr (FE.up (by decide) (by decide))).tr (FE.up (by decide) (by decide))).tr (FE.up (by decide) (by decide))
      have f73 : F1 73 = F 73 := by rw [← hFF, pk_un (by decide), pk_un (by decide), pk_un (by decide), pk_un (by decide), pk_un (by decide)]
      obtain ⟨s1, e1, r1⟩ := m_takeL (en := en) (d := d + 4) (σ := σ) (F := F1) (y := y) (g := g) (D := σ.2.1 180 (100 * vv + i)) (x := nI qq) (hF.fe f1) hR hl4 ht (show ob P i < 4 by omega) hO
      have r2 := uw_had (v := 0) r1 ht (by rw [pk_un (by omega), pk_un (by omega), s3]; decide)
      have r3 := uw_st (v := 1) r2 ht (by decide) (by rw [pk_un (by omega), pk_un (by omega), pk_un (by omega), s3]; decide)
      have f2 : FE F (upd F1 73 (oB N t (ob P i) nl (F1 73))) := f1.tr (FE.up (by decide) (by decide))
      obtain ⟨s2, e2, r4⟩ := m_jv (en := en) (d := d + 2) (σ := σ) (F := upd F1 73 (oB N t (ob P i) nl (F1 73))) (y := y) (g := g) (D := σ.2.1 180 (100 * vv + i)) (a := 208 + ob P i) (hF.fe f2) r3 hw2 ht (by omega) (by omega)
      obtain ⟨s3', e3, r5⟩ := m_goTo (en := en) (d := d + 4) (σ := σ) (F := upd F1 73 (oB N t (ob P i) nl (F1 73))) (y := y) (g := g) (D := σ.2.1 180 (100 * vv + i)) r4 ht (by unfold lrn; rw [pk_un (by omega), pk_us]) (tg 174 (Or.inr (Or.inr rfl)))
      have hfin : MR w (stp P w N t ch nt) s3' := by
        rw [eT, show P 23 i = uv (σ.1 174 (100 * vv + i)) from fo (by omega)]
        have e : gto (lrn (upd (upd (upd (upd N (40 + ob P i) (nI t)) (44 + ob P i) (nI qq)) (12 + t) 0) t 1) t ((upd (upd (upd (upd N (40 + ob P i) (nI t)) (44 + ob P i) (nI qq)) (12 + t) 0) t 1) (208 + ob P i + 20))) t (uv (σ.1 174 (100 * vv + i))) = tkb N t (ob P i) (uv (σ.1 174 (100 * vv + i))) := by
          unfold tkb lrn gto
          rw [hqq, show 208 + ob P i + 20 = 228 + ob P i by omega, pk_un (show 228 + ob P i ≠ t by omega), pk_un (show 228 + ob P i ≠ 12 + t by omega), pk_un (show 228 + ob P i ≠ 44 + ob P i by omega), pk_un (show 228 + ob P i ≠ 40 + ob P i by omega), pk_un (show 224 + t ≠ t by omega)]
          rw [upd_cm (show t ≠ 224 + t by omega), upd_cm (show t ≠ 4 + t by omega), pk_uu, pk_un (show 224 + t ≠ 12 + t by omega), pk_un (show 224 + t ≠ 44 + ob P i by omega), pk_un (show 224 + t ≠ 40 + ob P i by omega)]
        rw [e] at r5
        exact r5
      rw [mlt i h4 hi100, bI_some, gd_true (n_in (by omega) (by decide)), n_cl (by omega), nm_eq, o166]
      simp only [nm_eq, mM_F, mM_wF, o164, o180, mM_wD]
      rw [hF.2.2.2.2, hsub i hi100, n_al, gd_true (n_in (by omega) (by decide)), n_cl (by omega), Nat.zero_add, mM_s, est, if_neg n33]
      rw [hFF, gd_true (by rw [n_al]; exact n_in (by omega) (by decide)), n_al, n_cl (by omega), mM_s, ehd, e166, ho, e1, bV_some, mM_ws, mM_ws]
      have e2 : qev en (d + 5) 319 [.ref 151, .int (nI t), .int (nI (208 + ob P i))] (mM σ (upd F1 73 (oB N t (ob P i) nl (F1 73))) (upd (upd s1 (8 + t) 0) t 1) y g (σ.2.1 180 (100 * vv + i))) = _ := e2
      rw [n_al, e2, bV_some, o174, e3, bV_some]
      refine exQ.ret ⟨_, s3', y, g, _, rfl, f2, hfin, ?_, ?_, ?_, ?_, ?_, ?_, ?_⟩
      · rw [pk_un (by decide), ← hFF, pk_un (by decide), pk_un (by decide), pk_un (by decide), pk_un (by decide), pk_us]
        unfold lnA; rw [if_neg h9, h4]
      · rw [pk_un (by decide), ← hFF, pk_us]
        unfold acA; rw [if_neg h9, if_pos s3]
      · intro _
        rw [pk_un (by decide), ← hFF, pk_un (by decide), pk_un (by decide), pk_us, e166, ei]
      · intro z
        unfold acA at z
        rw [if_neg h9, if_pos s3] at z
        rcases z with z | z <;> exact absurd z (by decide)
      · intro _; rw [ei]
      · rw [pk_us, f73]
        have hla : laS P N t = nI (ob P i) := by
          unfold laS
          rw [if_pos (Or.inl s3), ei]
        have hnm : ¬ nI (ob P i) = -1 := by rw [n_m1 (by omega)]; exact fun z => z
        unfold ordS
        rw [if_neg h9, hla, if_neg hnm, n_clp (by omega), if_neg (by rw [hm1, n_1m (by omega)]; exact fun z => z)]
      · intro hy u hu
        rw [eT, fr_tkb (by omega) (by omega) ht]
        exact hy u hu
    · have s1 : N t = 1 := by
        unfold chs at hr
        rw [if_neg s3] at hr
        by_cases z : N t = 1
        · exact z
        · rw [if_neg z] at hr; omega
      obtain ⟨⟨i, hi, h4, h8⟩, -, -⟩ := sv_run (St.1 t htn) s1
      have hi100 : i < 100 := by omega
      have hL := hBl i hi
      obtain ⟨e164, e166, e167, -, -, -, ⟨t', ht', h8', ex5, ex7⟩, hem5, hem7, tg⟩ := hL
      have htt : t' = t := by
        rw [h8] at h8'
        exact ((nI_eq (by omega) (by omega)).mp h8').symm
      subst htt
      have ei : clp (N (4 + t')) = i := by rw [h4]; exact n_clp (by omega)
      obtain ⟨⟨hk, hk19⟩, -, ho1, ho2, ho3, hx5, hx7⟩ := hln i hi
      have hrk : ch < chK P w N t' nt i (ob P i) (kd P i) := by
        unfold chs at hr
        rwa [if_neg s3, if_pos s1, ei] at hr
      generalize hFF : upd (upd (upd (upd F 68 (nI i)) 69 (σ.1 164 (100 * vv + i))) 70 (σ.1 166 (100 * vv + i))) 71 0 = F1
      have f1 : FE F F1 := by
        rw [← hFF]
        exact (((FE.up (by decide) (by decide)).tr (FE.up (by decide) (by decide))).tr (FE.up (by decide) (by decide))).tr (FE.up (by decide) (by decide))
      have f73 : F1 73 = F 73 := by rw [← hFF, pk_un (by decide), pk_un (by decide), pk_un (by decide), pk_un (by decide)]
      have f68 : F1 68 = nI i := by rw [← hFF, pk_un (by decide), pk_un (by decide), pk_un (by decide), pk_us]
      have f69 : F1 69 = nI (kd P i) := by rw [← hFF, pk_un (by decide), pk_un (by decide), pk_us, e164, hk]
      have f70 : F1 70 = P 9 i := by rw [← hFF, pk_un (by decide), pk_us, e166]
      have f71 : F1 71 = 0 := by rw [← hFF, pk_us]
      obtain ⟨v5, g5, w5, r5⟩ := m_exp (en := en) (d := d + 1) (F := F1) (s := s) (y := y) (g := g) (D := σ.2.1 180 (100 * vv + i)) hR ht ex5 hin
      obtain ⟨v7, g7, w7, r7⟩ := m_exp (en := en) (d := d + 1) (F := upd F1 62 (exb (exv P 5 N i))) (s := s) (y := y) (g := g5) (D := σ.2.1 180 (100 * vv + i)) hR ht ex7 hin
      have w5 : qev en (d + 5) 296 [.ref 151, .int (σ.1 176 (100 * vv + i)), .int (σ.1 177 (100 * vv + i)), .int (nI t')] (mM σ F1 s y g (σ.2.1 180 (100 * vv + i))) = _ := w5
      have w7 : qev en (d + 5) 296 [.ref 151, .int (σ.1 178 (100 * vv + i)), .int (σ.1 179 (100 * vv + i)), .int (nI t')] (mM σ (upd F1 62 (exb (exv P 5 N i))) s y g5 (σ.2.1 180 (100 * vv + i))) = _ := w7
      rw [mlt i h4 hi100, bI_some, gd_true (n_in (by omega) (by decide)), n_cl (by omega), nm_eq, o166]
      simp only [nm_eq, mM_F, mM_wF, o164, o180, mM_wD]
      rw [hF.2.2.2.2, hsub i hi100, n_al, gd_true (n_in (by omega) (by decide)), n_cl (by omega), Nat.zero_add, mM_s, est, if_pos s3]
      rw [hFF, o176, o177, w5, bI_some, o178, o179, w7, bI_some, mM_F, pk_us, pk_uu, mM_F, pk_us]
      -- the fields then
      have f2 : FE F (upd F1 62 (exb (exv P 7 N i))) := f1.tr (FE.up (by decide) (by decide))
      have bad : (exv P 5 N i = none ∨ kd P i = 3 ∧ exv P 7 N i = none) → exQ (L_X12_doStep_229 en (d + 5) (nI t') (mM σ (upd F1 62 (exb (exv P 7 N i))) s y g7 (σ.2.1 180 (100 * vv + i)))) (stQ σ P w N t' ch nl nt vv F y) := by
        intro hbad
        have hkk : ¬ (kd P i = 1 ∨ 5 ≤ kd P i ∧ kd P i ≤ 13) := by
          intro z
          rcases hbad with y | ⟨y, -⟩
          · have := hem5 z
            have e : exv P 5 N i = some 0 := by
              unfold exv
              rw [show P (7 + 5) i = P (8 + 5) i from this]
              unfold evl
              rw [Nat.sub_self]; rfl
            rw [e] at y; cases y
          · omega
        have hA : actS w P N t' ch nt i (ob P i) (kd P i) = (1, N) := by
          unfold actS
          by_cases k4 : kd P i ≤ 4
          · rw [if_pos k4]
            unfold touS
            rw [if_neg (by omega)]
            rcases hbad with y | ⟨y, y7⟩
            · rw [y]
            · cases h5 : exv P 5 N i with
              | none => rfl
              | some x =>
                simp only [y, y7]
                rfl
          · rw [if_neg k4, if_neg (by omega), if_neg (by omega)]
            unfold telS
            rcases hbad with y | ⟨y, -⟩
            · rw [y]
            · omega
        obtain ⟨s', e1, e2⟩ := m_wrong (en := en) (d := d + 4) (σ := σ) (F := upd F1 62 (exb (exv P 7 N i))) (y := y) (g := g7) (D := σ.2.1 180 (100 * vv + i)) (x := 1) hR ht
        have hho : kd P i = 10 → ob P i < 4 := fun z => by have := (ho3 (Or.inl z)).2; omega
        have n1 : ¬ ((1 : Int32) = 0) := by decide
        have eT : stp P w N t' ch nt = linS w P N t' ch nt i (ob P i) (kd P i) := by
          unfold stp
          rw [if_neg h9, if_neg s3, ei]
        refine exQ.le (le_X12_doStep_229 en (d + 5) _ _) ?_
        rw [e1, bV_some]
        refine exQ.ret ⟨_, s', upd y t' 1, g7, _, rfl, f2.tr (FE.up (by decide) (by decide)), ?_, ?_, ?_, ?_, ?_, ?_, ?_, ?_⟩
        · rw [eT]; unfold linS; rw [hA, if_pos n1]; exact e2
        · rw [pk_un (by decide), pk_un (by decide), f68]; unfold lnA; rw [if_neg h9, h4]
        · rw [pk_us]; unfold acA; rw [if_neg h9, if_neg s3, ei, hA, if_pos n1]
        · intro _; rw [pk_un (by decide), pk_un (by decide), f70, ei]
        · intro z
          unfold acA at z
          rw [if_neg h9, if_neg s3, ei, hA, if_pos n1] at z
          rcases z with z | z <;> exact absurd z (by decide)
        · intro _; rw [ei]
        · rw [pk_un (by decide), pk_un (by decide), f73]
          have hla : laS P N t' = -1 := by
            unfold laS
            rw [if_neg]
            rintro (q | ⟨-, q⟩)
            · exact s3 q
            · rw [ei] at q; omega
          unfold ordS
          rw [if_neg h9, hla, if_pos rfl]
        · rw [eT]
          exact fun hy => y_lin hy ht ht4 hho (by rw [hA, if_pos n1])
      by_cases b5 : exv P 5 N i = none
      · rw [b5]
        rw [if_pos (show ¬ exb none = 0 by decide)]
        exact bad (Or.inl b5)
      · have g5' : exb (exv P 5 N i) = 0 := by
          cases h : exv P 5 N i with
          | none => exact absurd h b5
          | some x => rfl
        rw [g5', if_neg (not_not_intro rfl)]
        by_cases b7 : exv P 7 N i = none
        · by_cases k3 : kd P i = 3
          · rw [if_neg (show ¬ exb (exv P 7 N i) = 0 by rw [b7]; decide)]
            exact bad (Or.inr ⟨k3, b7⟩)
          · exfalso
            have := hem7 k3
            have e : exv P 7 N i = some 0 := by
              unfold exv
              rw [show P (7 + 7) i = P (8 + 7) i from this]
              unfold evl
              rw [Nat.sub_self]; rfl
            rw [e] at b7; cases b7
        · have g7' : exb (exv P 7 N i) = 0 := by
            cases h : exv P 7 N i with
            | none => exact absurd h b7
            | some x => rfl
          rw [g7', if_pos rfl]
          have h5 : exv P 5 N i = some v5 := by
            have := r5 b5
            cases h : exv P 5 N i with
            | none => exact absurd h b5
            | some x => rw [h] at this; rw [this]; rfl
          have h7 : exv P 7 N i = some v7 := by
            have := r7 b7
            cases h : exv P 7 N i with
            | none => exact absurd h b7
            | some x => rw [h] at this; rw [this]; rfl
          rw [o164, e164, hk, n_to (by omega), e166]
          refine m_runs (en := en) (d := d) (v := v5) (z := v7) (g := g7) hB' hP' hS' (hF.fe (f1.tr (FE.up (k := 62) (x := 0) (by decide) (by decide)))) hR hw2 hi htn s1 h4 hrk (by omega) h5 (fun _ => h7) (by rw [pk_un (by decide), f68]) (by rw [pk_un (by decide), f69]) (by rw [pk_un (by decide), f70]) (by rw [pk_un (by decide), f71]) rfl (f1.tr (FE.up (by decide) (by decide))) (by rw [pk_un (by decide), f73]) ?_
          intro Q c0 c1 c2 c34 c59 c10 c11 c12 cgo c14 c156
          generalize hkk : kd P i = kk at *
          rcases (show kk = 0 ∨ kk = 1 ∨ kk = 2 ∨ kk = 3 ∨ kk = 4 ∨ kk = 5 ∨ kk = 6 ∨ kk = 7 ∨ kk = 8 ∨ kk = 9 ∨ kk = 10 ∨ kk = 11 ∨ kk = 12 ∨ kk = 13 ∨ kk = 14 ∨ kk = 15 ∨ kk = 16 ∨ kk = 17 ∨ kk = 18 by omega) with z | z | z | z | z | z | z | z | z | z | z | z | z | z | z | z | z | z | z <;> subst z
          · exact c0 rfl
          · exact c1 rfl
          · exact c2 rfl
          · exact c34 (Or.inl rfl)
          · exact c34 (Or.inr rfl)
          · exact c59 (by decide)
          · exact c59 (by decide)
          · exact c59 (by decide)
          · exact c59 (by decide)
          · exact c59 (by decide)
          · exact c10 rfl
          · exact c11 rfl
          · exact c12 rfl
          · exact cgo (by decide)
          · exact c14 rfl
          · exact c156 (by decide)
          · exact c156 (by decide)
          · exact cgo (by decide)
          · exact cgo (by decide)
end MT
