/-! WHAT HOLDS OF STATES is kept by every step. -/
section SVF
variable {t i n w a c l u ch nc nl nt k o j : Nat} {v x z : Int32} {N M : fI} {P : Nat → fI}
theorem wak_n {co : Option Nat} (h : N j ≠ 2) : ∀ u, wak P N l co u j = N j := by
  intro u
  induction u with
  | zero => rfl
  | succ u ih =>
    show (if wtf P N u l = true ∧ (co = none ∨ co = some (wts P N l u)) then upd (wak P N l co u) u 3 else wak P N l co u) j = N j
    split
    · rename_i hc
      have h2 : N u = 2 := by
        have := hc.1
        unfold wtf at this
        exact (of_decide_eq_true this).1
      rw [pk_un (fun q => h (by rw [q]; exact h2))]
      exact ih
    · exact ih
theorem SV_tkb (hP : PV P nc nl nt n) (hS : SV P w nc nl nt n N) (ht : t < nt) (hl : l < nl) (hx : goV P n t x) (h3 : N t = 3) : SV P w nc nl nt n (tkb N t l x) := by
  obtain ⟨⟨hc0, hc8⟩, ⟨hl0, hl4⟩, ⟨ht0, ht4⟩, ⟨hn0, hn100⟩, hln, hth⟩ := hP
  obtain ⟨-, h8, q, hq, q1, q9⟩ := sv_wok (hS.1.1 t ht) h3
  have hA := SV_take (x := N (12 + t)) hS ht ht4 hl hl4 ⟨q, hq, q1, q9⟩
  have Sw := hS.2.2.2.2.2
  have hB := SV_lrn (v := N (228 + l)) hA ht ht4 (fun h => vwV_cg (fun e he => by rw [pk_un (by omega), pk_un (by omega)]) (svw_l Sw h hl hl4)) (fun h => svw_0 Sw h (by omega) (by omega))
  have e : ∀ j, j ≠ t → j ≠ 4 + t → j ≠ 12 + t → tkb N t l x j = lrn (upd (upd N (40 + l) (nI t)) (44 + l) (N (12 + t))) t (N (228 + l)) j := by
    intro j a b c
    unfold tkb
    rw [fr_gto a b]
    unfold lrn
    by_cases z : j = 224 + t
    · rw [z, pk_us, pk_us, pk_un (by omega)]
    · rw [pk_un z, pk_un z, pk_un c]
  refine SV_t hB (svt_up ht4 ht hB.1 (fun j a b c d e' => e j b c e') ?_) (fun j a b => e j (by omega) (by omega) (by omega))
  have e1 : tkb N t l x t = if 0 ≤ x then 1 else 4 := by unfold tkb gto; rw [pk_us]
  have e4 : tkb N t l x (4 + t) = x := by unfold tkb gto; rw [pk_un (by omega), pk_us]
  have e8 : tkb N t l x (8 + t) = 0 := by rw [fr_tkb (by omega) (by omega) (by omega)]; exact h8
  have e12 : tkb N t l x (12 + t) = 0 := by unfold tkb lrn; rw [fr_gto (by omega) (by omega), pk_un (by omega), pk_us]
  rcases hx with rfl | ⟨j, rfl, hj, h8'⟩
  · exact Or.inl ⟨Or.inr (by rw [e1]; rfl), e4, e8, e12⟩
  · exact Or.inr (Or.inl ⟨by rw [e1, if_pos (nI_pos' (by omega))], ⟨j, hj, e4, h8'⟩, e8, e12⟩)
theorem SV_wait (hP : PV P nc nl nt n) (hS : SV P w nc nl nt n N) (ht : t < nt) (hl : l < nl) (hi : i < n) (h1 : N t = 1) (h4 : N (4 + t) = nI i) (h8 : P 8 i = nI t) (hk : kd P i = 7) (h40 : N (40 + l) = nI t) : SV P w nc nl nt n (lev (upd (upd (upd N (12 + t) (N (44 + l))) (44 + l) 0) t 2) t l) := by
  obtain ⟨⟨hc0, hc8⟩, ⟨hl0, hl4⟩, ⟨ht0, ht4⟩, ⟨hn0, hn100⟩, hln, hth⟩ := hP
  obtain ⟨-, e8, -⟩ := sv_run (hS.1.1 t ht) h1
  have hC := SV_lev (x := 0) hS ht ht4 hl hl4 h40 ⟨0, rfl, by decide⟩
  have eC : lev (upd N (44 + l) 0) t l = upd (upd (upd N (44 + l) 0) (228 + l) (N (224 + t))) (40 + l) (-1) := by
    unfold lev
    rw [pk_us, if_pos rfl, pk_un (show 224 + t ≠ 44 + l by omega)]
  have eB : lev (upd (upd (upd N (12 + t) (N (44 + l))) (44 + l) 0) t 2) t l = upd (upd (upd (upd (upd N (12 + t) (N (44 + l))) (44 + l) 0) t 2) (228 + l) (N (224 + t))) (40 + l) (-1) := by
    unfold lev
    rw [pk_un (show 44 + l ≠ t by omega), pk_us, if_pos rfl, pk_un (show 224 + t ≠ t by omega), pk_un (show 224 + t ≠ 44 + l by omega), pk_un (show 224 + t ≠ 12 + t by omega)]
  have e : ∀ j, j ≠ t → j ≠ 12 + t → lev (upd (upd (upd N (12 + t) (N (44 + l))) (44 + l) 0) t 2) t l j = lev (upd N (44 + l) 0) t l j := by
    intro j a b
    rw [eB, eC]
    by_cases z1 : j = 40 + l
    · rw [z1, pk_us, pk_us]
    · rw [pk_un z1, pk_un z1]
      by_cases z2 : j = 228 + l
      · rw [z2, pk_us, pk_us]
      · rw [pk_un z2, pk_un z2, pk_un a]
        by_cases z3 : j = 44 + l
        · rw [z3, pk_us, pk_us]
        · rw [pk_un z3, pk_un z3, pk_un b]
  refine SV_t hC (svt_up ht4 ht hC.1 (fun j a b c d e' => e j b e') ?_) (fun j a b => e j (by omega) (by omega))
  obtain ⟨q, hq, q1, q9⟩ : ∃ q, N (44 + l) = nI q ∧ 1 ≤ q ∧ q ≤ 9 := by
    rcases hS.2.2.1 l (by omega) with ⟨z, -⟩ | ⟨-, tt, q, b1, b2, b3, b4, b5⟩
    · rw [h40] at z; exact absurd z (by rw [n_m1 (by omega)]; exact fun z => z)
    · exact ⟨q, b3, b4, b5⟩
  refine Or.inr (Or.inr (Or.inl ⟨Or.inl ?_, ⟨i, hi, ?_, h8, hk⟩, ?_, q, ?_, q1, q9⟩))
  · rw [eB, pk_un (by omega), pk_un (by omega), pk_us]
  · rw [eB, pk_un (by omega), pk_un (by omega), pk_un (by omega), pk_un (by omega), pk_un (by omega)]; exact h4
  · rw [eB, pk_un (by omega), pk_un (by omega), pk_un (by omega), pk_un (by omega), pk_un (by omega)]; exact e8
  · rw [eB, pk_un (by omega), pk_un (by omega), pk_un (by omega), pk_un (by omega), pk_us]; exact hq
/-- why a thread goes wrong -/
theorem act_y (h : ¬ (actS w P N t ch nt i o k).1 = 0) : ∃ y, (actS w P N t ch nt i o k).1 = nI y ∧ 1 ≤ y ∧ y ≤ 5 := by
  revert h
  unfold actS
  split
  · unfold touS
    split
    · intro h; exact absurd rfl h
    · split
      · intro _; exact ⟨1, rfl, by decide, by decide⟩
      · split
        · intro h; exact absurd rfl h
        · split
          · intro h; exact absurd rfl h
          · split
            · split
              · intro _; exact ⟨1, rfl, by decide, by decide⟩
              · intro h; exact absurd rfl h
            · unfold add2
              split
              · intro _; exact ⟨1, rfl, by decide, by decide⟩
              · intro h; exact absurd rfl h
  · split
    · unfold lckS
      split
      · split
        · intro _; exact ⟨5, rfl, by decide, by decide⟩
        · intro h; exact absurd rfl h
      · split
        · intro _; exact ⟨2, rfl, by decide, by decide⟩
        · split
          · intro h; exact absurd rfl h
          · split
            · intro h; exact absurd rfl h
            · intro h; exact absurd rfl h
    · split
      · unfold metS
        split
        · split
          · intro _; exact ⟨3, rfl, by decide, by decide⟩
          · intro h; exact absurd rfl h
        · split
          · intro h; exact absurd rfl h
          · split
            · intro h; exact absurd rfl h
            · intro h; exact absurd rfl h
      · unfold telS
        split
        · intro _; exact ⟨1, rfl, by decide, by decide⟩
        · split
          · intro _; exact ⟨4, rfl, by decide, by decide⟩
          · intro h; exact absurd rfl h
theorem SV_stp (hP : PV P nc nl nt n) (hS : SV P w nc nl nt n N) (hw2 : w ≤ 2) (hr : rdS P w N t ch nt) (hch : ch < 10) : SV P w nc nl nt n (stp P w N t ch nt) := by
  have hP' := hP
  have hS' := hS
  obtain ⟨htn, hr⟩ := hr
  have hle := ch_le hP hS htn
  obtain ⟨⟨hc0, hc8⟩, ⟨hl0, hl4⟩, ⟨ht0, ht4⟩, ⟨hn0, hn100⟩, hln, hth⟩ := hP
  obtain ⟨St, Sl, Sk, Sc, Sq, Sw⟩ := hS
  by_cases h9 : ch = 9
  · have e : stp P w N t ch nt = flu N t (clp (N (60 + t * 3) &&& (7 : Int32))) (N (60 + t * 3) >>> ((3 : Int32) &&& 31)) := by unfold stp; rw [if_pos h9]
    rw [e]
    refine SV_flu hS' hc8 htn ht4 ?_
    rcases hr with z | ⟨-, z⟩
    · omega
    · exact z
  · have hr : ch < chs P w N t nt := hr.resolve_right (fun z => h9 z.1)
    by_cases s3 : N t = 3
    · obtain ⟨⟨i, hi, h4, h8, hk7⟩, -⟩ := sv_wok (St.1 t htn) s3
      have ei : clp (N (4 + t)) = i := by rw [h4]; exact n_clp (by omega)
      obtain ⟨-, ⟨t', ht', h8', -, hg, -⟩, -, ho, -⟩ := hln i hi
      have htt : t' = t := by
        rw [h8] at h8'
        exact ((nI_eq (by omega) (by omega)).mp h8').symm
      subst htt
      have e : stp P w N t' ch nt = tkb N t' (ob P i) (P 23 i) := by unfold stp; rw [if_neg h9, if_pos s3, ei]
      rw [e]
      exact SV_tkb hP' hS' htn (ho (by omega) (by omega)).2 hg s3
    · have s1 : N t = 1 := by
        unfold chs at hr
        rw [if_neg s3] at hr
        by_cases z : N t = 1
        · exact z
        · rw [if_neg z] at hr; omega
      obtain ⟨⟨i, hi, h4, h8⟩, e8, e12⟩ := sv_run (St.1 t htn) s1
      have ei : clp (N (4 + t)) = i := by rw [h4]; exact n_clp (by omega)
      have hrk : ch < chK P w N t nt i (ob P i) (kd P i) := by
        unfold chs at hr
        rwa [if_neg s3, if_pos s1, ei] at hr
      have e : stp P w N t ch nt = linS w P N t ch nt i (ob P i) (kd P i) := by unfold stp; rw [if_neg h9, if_neg s3, ei]
      rw [e]
      obtain ⟨⟨hk, hk19⟩, ⟨t', ht', h8', hg22, hg23, hl10⟩, ho1, ho2, ho3, hx5, hx7⟩ := hln i hi
      have htt : t' = t := by
        rw [h8] at h8'
        exact ((nI_eq (by omega) (by omega)).mp h8').symm
      subst htt
      have htg : goV P n t' (tgtS P N i (kd P i)) := by
        unfold tgtS
        split
        · exact Or.inl rfl
        · split
          · exact hg22
          · exact hg23
      -- what the act leaves holds; the thread runs on, or waits
      have key : (actS w P N t' ch nt i (ob P i) (kd P i)).1 = 0 → SV P w nc nl nt n (actS w P N t' ch nt i (ob P i) (kd P i)).2 ∧ ((actS w P N t' ch nt i (ob P i) (kd P i)).2 t' = 1 ∨ (actS w P N t' ch nt i (ob P i) (kd P i)).2 t' = 2) := by
        intro h0
        have hroo : kd P i = 2 ∨ kd P i = 3 ∨ kd P i = 4 → roS P w N t' i (ob P i) (kd P i) = true := by
          intro z
          unfold chK at hrk
          by_cases y : ¬ N (56 + t') = 0 ∧ (3 ≤ kd P i ∧ kd P i ≤ 12 ∨ kd P i = 2 ∧ vol P (ob P i) = true)
          · rw [if_pos y] at hrk; omega
          · rw [if_neg y, if_neg (by omega), if_pos z] at hrk
            by_cases x : roS P w N t' i (ob P i) (kd P i) = true
            · exact x
            · rw [if_neg x] at hrk; omega
        by_cases k4 : kd P i ≤ 4
        · have e : actS w P N t' ch nt i (ob P i) (kd P i) = touS w P N t' (ob P i) ch i (kd P i) := by unfold actS; rw [if_pos k4]
          rw [e] at h0 ⊢
          refine ⟨?_, Or.inl (by rw [fr_tou (by omega)]; exact s1)⟩
          by_cases k1 : kd P i = 1
          · obtain ⟨ho, hoc⟩ := ho1 (by omega) (by omega)
            have e2 : (touS w P N t' (ob P i) ch i (kd P i)).2 = lok w P (setl P N t' i (ldb w P N t' (ob P i) ch)) t' (ob P i) ch := by unfold touS; rw [if_pos k1]
            rw [e2]
            have hl6 := ln_of (hln i hi) (fun t ht => (hth t ht).2.2)
            have hnb : w = 2 → vol P (ob P i) = false → nb (N (224 + t')) (ob P i) + ch < clp (N (72 + ob P i)) := by
              intro y hv
              unfold chK at hrk
              rw [if_neg (fun z => by omega), if_pos k1, if_pos ⟨y, hv⟩] at hrk
              omega
            have hin : inR (ldb w P N t' (ob P i) ch) := by
              unfold ldb
              split
              · rename_i hc
                obtain ⟨a, h72, a1, a9, -, h5⟩ := sv_ce Sw hc.1 hc8 hoc
                have := hnb hc.1 hc.2
                rw [h72, n_clp (by omega)] at this
                rcases h5 (nb (N (224 + t')) (ob P i) + ch) (by omega) with ⟨-, z, -⟩ | ⟨z, -⟩
                · rw [Nat.add_assoc]; exact z
                · omega
              · have hm : inR (N (48 + ob P i)) := by
                  rcases Sc (ob P i) (by omega) with ⟨-, z⟩ | ⟨z, -⟩
                  · exact z
                  · omega
                rcases Sq t' (by omega) with ⟨-, -, q, hq, hq3, hqe⟩ | ⟨-, z, -⟩
                · rw [hq, n_clp (by omega)]
                  have : ∀ k, k ≤ q → inR (ldq N t' (ob P i) k) := by
                    intro k
                    induction k with
                    | zero => intro _; exact hm
                    | succ k ih =>
                      intro hk
                      rw [show ldq N t' (ob P i) (k + 1) = if N (60 + t' * 3 + k) &&& (7 : Int32) = nI (ob P i) then N (60 + t' * 3 + k) >>> ((3 : Int32) &&& 31) else ldq N t' (ob P i) k from rfl]
                      split
                      · rcases hqe k (by omega) with ⟨-, c, v, b1, -, b3, b4⟩ | ⟨z, -⟩
                        · rw [b4, pkq_shr (by omega) b3]; exact b3
                        · omega
                      · exact ih (by omega)
                  exact this q (Nat.le_refl _)
                · rw [z]; exact hm
            refine SV_lok (SV_setl hS' hP' htn hi h8 hin) hc8 htn ht4 hoc (fun y hv => ?_)
            rw [fr_setl2 hl6 (by omega) (by omega), fr_setl2 hl6 (by omega) (by omega)]
            exact hnb y hv
          · cases h5 : exv P 5 N i with
            | none =>
              have e2 : touS w P N t' (ob P i) ch i (kd P i) = (1, N) := by unfold touS; rw [if_neg k1, h5]
              rw [e2]; exact hS'
            | some y =>
              have hy := exv_in h5
              rcases (show kd P i = 0 ∨ kd P i = 2 ∨ kd P i = 3 ∨ kd P i = 4 by omega) with z | z | z | z
              · have e2 : touS w P N t' (ob P i) ch i (kd P i) = (0, setl P N t' i y) := by unfold touS; rw [z, if_neg (by decide), h5]; rfl
                rw [e2]; exact SV_setl hS' hP' htn hi h8 hy
              · obtain ⟨ho, hoc⟩ := ho1 (by omega) (by omega)
                have hro := hroo (Or.inl z)
                have e2 : touS w P N t' (ob P i) ch i (kd P i) = (0, sto w P N t' (ob P i) y) := by unfold touS; rw [z, if_neg (by decide), h5]; rfl
                rw [e2]
                refine SV_sto hS' hc8 htn ht4 hoc hy (fun h => ?_) (fun h => ?_)
                · subst h; exact ro_2 hro (by omega)
                · subst h; exact ro_1 hro
              · obtain ⟨ho, hoc⟩ := ho1 (by omega) (by omega)
                have hro := hroo (Or.inr (Or.inl z))
                cases h7 : exv P 7 N i with
                | none =>
                  have e2 : touS w P N t' (ob P i) ch i (kd P i) = (1, N) := by unfold touS; rw [z, if_neg (by decide), h5]; simp only [h7]; rfl
                  rw [e2]; exact hS'
                | some x' =>
                  have e2 : touS w P N t' (ob P i) ch i (kd P i) = (0, swp w P N t' (ob P i) i y x') := by unfold touS; rw [z, if_neg (by decide), h5]; simp only [h7]; rfl
                  rw [e2]
                  show SV P w nc nl nt n (swp w P N t' (ob P i) i y x')
                  unfold swp
                  have hl := SV_lal hS' hc8 htn ht4 hoc
                  split
                  · rename_i hx
                    refine SV_setl (SV_wrt hl hc8 htn ht4 hoc (exv_in h7) (fun h => ?_)) hP' htn hi h8 ⟨by decide, by decide⟩
                    rw [fr_lal (by omega)]
                    subst h
                    rw [z] at hro
                    by_cases g : clp (N (72 + ob P i)) < 9
                    · exact g
                    · exact absurd hx (ro_3 hro g (by rw [h7]; exact fun z => by cases z) y h5)
                  · exact SV_setl hl hP' htn hi h8 ⟨by decide, by decide⟩
              · obtain ⟨ho, hoc⟩ := ho1 (by omega) (by omega)
                have hro := hroo (Or.inr (Or.inr z))
                have e2 : touS w P N t' (ob P i) ch i (kd P i) = add2 w P N t' (ob P i) i y := by unfold touS; rw [z, if_neg (by decide), h5]; rfl
                rw [e2]
                have hm : inR (N (48 + ob P i)) := by
                  rcases Sc (ob P i) (by omega) with ⟨-, z⟩ | ⟨z, -⟩
                  · exact z
                  · omega
                unfold add2
                split
                · exact hS'
                · rename_i hx
                  refine SV_setl (SV_wrt (SV_lal hS' hc8 htn ht4 hoc) hc8 htn ht4 hoc ⟨Int32.not_lt.mp fun q => hx (Or.inr q), Int32.not_lt.mp fun q => hx (Or.inl q)⟩ (fun h => ?_)) hP' htn hi h8 hm
                  rw [fr_lal (by omega)]
                  subst h
                  exact ro_2 hro (by omega)
        · by_cases k9 : kd P i ≤ 9
          · have e : actS w P N t' ch nt i (ob P i) (kd P i) = lckS P N t' (ob P i) ch (kd P i) nt := by unfold actS; rw [if_neg k4, if_pos k9]
            obtain ⟨ho, hol⟩ := ho2 (by omega) k9
            rw [e] at h0 ⊢
            by_cases k5 : kd P i = 5
            · by_cases h9' : 9 ≤ N (44 + ob P i)
              · have e2 : lckS P N t' (ob P i) ch (kd P i) nt = (5, N) := by unfold lckS; rw [if_pos k5, if_pos h9']
                rw [e2] at h0; exact absurd (show (5 : Int32) = 0 from h0) (by decide)
              · have e2 : lckS P N t' (ob P i) ch (kd P i) nt = (0, lrn (upd (upd N (40 + ob P i) (nI t')) (44 + ob P i) (N (44 + ob P i) + 1)) t' (N (228 + ob P i))) := by unfold lckS; rw [if_pos k5, if_neg h9']
                rw [e2]
                have hq : ∃ q, N (44 + ob P i) + 1 = nI q ∧ 1 ≤ q ∧ q ≤ 9 := by
                  rcases Sk (ob P i) (by omega) with ⟨-, z⟩ | ⟨-, tt, q, b1, b2, b3, b4, b5⟩
                  · exact ⟨1, by rw [z]; rfl, by decide, by decide⟩
                  · refine ⟨q + 1, by rw [b3, nI_1], by omega, ?_⟩
                    rw [b3, n_le (by decide) (by omega)] at h9'
                    omega
                have hA := SV_take hS' htn ht4 hol hl4 hq
                refine ⟨SV_lrn (v := N (228 + ob P i)) hA htn ht4 (fun h => vwV_cg (fun e he => by rw [pk_un (by omega), pk_un (by omega)]) (svw_l Sw h hol hl4)) (fun h => svw_0 Sw h (by omega) (by omega)), Or.inl ?_⟩
                show lrn _ _ _ t' = 1
                unfold lrn
                rw [pk_un (by omega), pk_un (by omega), pk_un (by omega)]; exact s1
            · by_cases hh : N (40 + ob P i) = nI t'
              · by_cases k6 : kd P i = 6
                · have e2 : lckS P N t' (ob P i) ch (kd P i) nt = (0, lev (upd N (44 + ob P i) (N (44 + ob P i) - 1)) t' (ob P i)) := by unfold lckS; rw [if_neg k5, if_neg (not_not_intro hh), if_pos k6]
                  rw [e2]
                  have hq : ∃ q, N (44 + ob P i) - 1 = nI q ∧ q ≤ 8 := by
                    rcases Sk (ob P i) (by omega) with ⟨z, -⟩ | ⟨-, tt, q, b1, b2, b3, b4, b5⟩
                    · rw [hh] at z; exact absurd z (by rw [n_m1 (by omega)]; exact fun z => z)
                    · refine ⟨q - 1, ?_, by omega⟩
                      rw [b3]
                      exact nI_sub (b := 1) b4
                  refine ⟨SV_lev hS' htn ht4 hol hl4 hh hq, Or.inl ?_⟩
                  show lev _ _ _ t' = 1
                  rw [fr_lev (by omega), pk_un (by omega)]; exact s1
                · by_cases k7 : kd P i = 7
                  · have e2 : lckS P N t' (ob P i) ch (kd P i) nt = (0, lev (upd (upd (upd N (12 + t') (N (44 + ob P i))) (44 + ob P i) 0) t' 2) t' (ob P i)) := by unfold lckS; rw [if_neg k5, if_neg (not_not_intro hh), if_neg k6, if_pos k7]
                    rw [e2]
                    refine ⟨SV_wait hP' hS' htn hol hi s1 h4 h8 k7 hh, Or.inr ?_⟩
                    show lev _ _ _ t' = 2
                    rw [fr_lev (by omega), pk_us]
                  · have e2 : lckS P N t' (ob P i) ch (kd P i) nt = (0, wak P N (ob P i) (if kd P i = 8 then some ch else none) nt) := by unfold lckS; rw [if_neg k5, if_neg (not_not_intro hh), if_neg k6, if_neg k7]
                    rw [e2]
                    refine ⟨SV_wak hS' ht4 nt (Nat.le_refl _), Or.inl ?_⟩
                    show wak _ _ _ _ _ t' = 1
                    rw [wak_n (by rw [s1]; decide)]; exact s1
              · have e2 : lckS P N t' (ob P i) ch (kd P i) nt = (2, N) := by unfold lckS; rw [if_neg k5, if_pos hh]
                rw [e2] at h0; exact absurd (show (2 : Int32) = 0 from h0) (by decide)
          · by_cases k13 : kd P i ≤ 13
            · have e : actS w P N t' ch nt i (ob P i) (kd P i) = metS P N t' (ob P i) (kd P i) := by unfold actS; rw [if_neg k4, if_neg k9, if_pos k13]
              rw [e] at h0 ⊢
              rcases (show kd P i = 10 ∨ kd P i = 11 ∨ kd P i = 12 ∨ kd P i = 13 by omega) with z | z | z | z
              · obtain ⟨ho, hou⟩ := ho3 (Or.inl z)
                by_cases hu0 : N (ob P i) = 0
                · have e2 : metS P N t' (ob P i) (kd P i) = (0, upd (gto N (ob P i) (P 5 (ob P i))) (224 + ob P i) (N (224 + t'))) := by unfold metS; rw [if_pos z, if_neg (not_not_intro hu0)]
                  rw [e2]
                  have hut : ob P i ≠ t' := fun q => by rw [q, s1] at hu0; exact absurd hu0 (by decide)
                  have hz : N (8 + ob P i) = 0 ∧ N (12 + ob P i) = 0 := by
                    rcases St.1 (ob P i) hou with ⟨-, -, a, b⟩ | ⟨z, -⟩ | ⟨z, -⟩ | ⟨z, -⟩
                    · exact ⟨a, b⟩
                    · rw [hu0] at z; exact absurd z (by decide)
                    · rcases z with z | z <;> rw [hu0] at z <;> exact absurd z (by decide)
                    · rw [hu0] at z; exact absurd z (by decide)
                  have hA := SV_gto hS' hn100 ht4 hou (hth _ hou).1 hz
                  refine ⟨SV_w hA ht4 (svw_view hA.2.2.2.2.2 hou ht4 (fun h => vwV_cg (fun e he => fr_gto (by omega) (by omega)) (svw_t Sw h htn ht4)) (fun h => svw_0 Sw h (by omega) (by omega))) (fun j a => pk_un (by omega)), Or.inl ?_⟩
                  show upd _ _ _ t' = 1
                  rw [pk_un (by omega), fr_gto (by omega) (by omega)]; exact s1
                · have e2 : metS P N t' (ob P i) (kd P i) = (3, N) := by unfold metS; rw [if_pos z, if_pos hu0]
                  rw [e2] at h0; exact absurd (show (3 : Int32) = 0 from h0) (by decide)
              · obtain ⟨ho, hou⟩ := ho3 (Or.inr z)
                have e2 : metS P N t' (ob P i) (kd P i) = (0, lrn N t' (N (224 + ob P i))) := by unfold metS; rw [z, if_neg (by decide), if_pos rfl]
                rw [e2]
                refine ⟨SV_lrn hS' htn ht4 (fun h => svw_t Sw h hou ht4) (fun h => svw_0 Sw h (by omega) (by omega)), Or.inl ?_⟩
                show lrn _ _ _ t' = 1
                unfold lrn
                rw [pk_un (by omega)]; exact s1
              · have e2 : metS P N t' (ob P i) (kd P i) = (0, upd (lrn N t' (N 232)) 232 (jn (N (224 + t')) (N 232))) := by unfold metS; rw [z, if_neg (by decide), if_neg (by decide), if_pos rfl]
                rw [e2]
                have hA := SV_lrn (v := N 232) hS' htn ht4 (fun h => svw_f Sw h) (fun h => svw_0 Sw h (by decide) (by decide))
                refine ⟨SV_w hA ht4 (svw_fence hA.2.2.2.2.2 (fun h => vwV_cg (fun e he => pk_un (by omega)) (jn_V (svw_t Sw h htn ht4) (svw_f Sw h))) (fun h => ?_)) (fun j a => pk_un (by omega)), Or.inl ?_⟩
                · rw [svw_0 Sw h (by omega) (by omega), svw_0 Sw h (by decide) (by decide)]; exact jn_0
                · show upd _ _ _ t' = 1
                  unfold lrn
                  rw [pk_un (by omega), pk_un (by omega)]; exact s1
              · have e2 : metS P N t' (ob P i) (kd P i) = (0, N) := by unfold metS; rw [z, if_neg (by decide), if_neg (by decide), if_neg (by decide)]
                rw [e2]; exact ⟨hS', Or.inl s1⟩
            · have e : actS w P N t' ch nt i (ob P i) (kd P i) = (telS P N i (kd P i), N) := by unfold actS; rw [if_neg k4, if_neg k9, if_neg k13]
              rw [e]; exact ⟨hS', Or.inl s1⟩
      unfold linS
      by_cases h0 : (actS w P N t' ch nt i (ob P i) (kd P i)).1 = 0
      · rw [if_neg (not_not_intro h0)]
        obtain ⟨hB, ht1⟩ := key h0
        rcases ht1 with ht1 | ht1
        · rw [if_pos ht1]
          obtain ⟨-, b8, b12⟩ := sv_run (hB.1.1 t' htn) ht1
          exact SV_gto hB hn100 ht4 htn htg ⟨b8, b12⟩
        · rw [if_neg (by rw [ht1]; decide)]
          exact hB
      · rw [if_pos h0, act_N h0]
        refine SV_wrg hS' ht4 htn e12 ?_
        revert h0
        generalize hA : actS w P N t' ch nt i (ob P i) (kd P i) = A
        intro h0
        rw [← hA] at h0 ⊢
        exact act_y h0
end SVF

