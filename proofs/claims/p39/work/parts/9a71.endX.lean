/-! ALL TURNS, the class's side: an end noted. -/
section NE
variable {en : pN} {d p w nc nl nt n t u k a m0 e0 : Nat} {σ : qS} {P : Nat → fI} {F N M G g : fI} {b : Int32} {S : Nat → fI}
theorem rw87m {lim w' : Nat} {st : Nat → Nat} {R : Nat → fJ} {σ' : qS} (h : RW σ 87 84 88 89 15 k w' lim st R) (h1 : ∀ c, c = 87 ∨ c = 88 ∨ c = 89 → σ'.1 c = σ.1 c) (h2 : σ'.2.1 84 = σ.2.1 84) : RW σ' 87 84 88 89 15 k w' lim st R :=
  h.fr (fun j _ => by rw [h1 87 (by omega)]) (fun i _ => by rw [h1 88 (by omega)]) (fun i _ => by rw [h1 89 (by omega)]) (fun i _ j _ => by rw [h2])
theorem x_noteEnd (hP : PV P nc nl nt n) (hB : XB σ 71 p P) (hw2 : w ≤ 2) (hS : ∀ i, i < k + 1 → SV P w nc nl nt n (S i)) (hk : k < 20000) (hN : eqS N (S k)) (h233 : N 233 = nI (soS (S k) nt)) (hend : endC P w (S k) nt = true)
    (hw4 : σ.1 83 4 = nI ((slA P w nc nl nt).length / 2)) (hdat : ∀ j, j < (slA P w nc nl nt).length / 2 → σ.2.1 84 (k * ((slA P w nc nl nt).length / 2) + j) = pkR (slA P w nc nl nt) (cnS nt (S k)) j) (hroom : k * ((slA P w nc nl nt).length / 2) + (slA P w nc nl nt).length / 2 ≤ 740000)
    (hR : RW σ 87 84 88 89 15 (outL P w nt S k).length ((slO P nc nt).length / 2) 20000 (fun i => (outL P w nt S k).getD i 0 * ((slA P w nc nl nt).length / 2)) (fun i => pkR (slO P nc nt) (cnS nt (S ((outL P w nt S k).getD i 0)))))
    (h14 : σ.1 70 14 = nI e0) (he0 : e0 ≤ 20000) (h93 : σ.1 93 k = nI m0) (hm0 : m0 < 32) (h80 : σ.1 80 = g) :
    ∃ σ', qev en (d + 5) 182 [.ref 70, .int (nI k)] (mS σ 71 F N b G) = some (none, mS σ' 71 F N b G) ∧ (∀ c, c ≠ 70 → c ≠ 80 → c ≠ 93 → c ≠ 87 → c ≠ 88 → c ≠ 89 → c ≠ 71 → c ≠ 72 → c ≠ 10 → c ≠ 7 → σ'.1 c = σ.1 c) ∧ (∀ j, j ≠ 14 → σ'.1 70 j = σ.1 70 j) ∧ (∀ i, i ≠ k → σ'.1 93 i = σ.1 93 i) ∧ σ'.2 = σ.2 ∧ σ'.1 70 14 = nI (e0 + 1) ∧ σ'.1 93 k = nI ((if soS (S k) nt = 0 then m0 else m0 ||| 32) ||| (outN P w nt S k + 1) * 256) ∧ (∀ c, c < 5 → σ'.1 80 c = if soS (S k) nt = 0 then g c else stkS P (S k) nt (nI k) g c) ∧
      RW σ' 87 84 88 89 15 (outL P w nt S (k + 1)).length ((slO P nc nt).length / 2) 20000 (fun i => (outL P w nt S (k + 1)).getD i 0 * ((slA P w nc nl nt).length / 2)) (fun i => pkR (slO P nc nt) (cnS nt (S ((outL P w nt S (k + 1)).getD i 0)))) := by
  have ht4 := hP.2.2.1.2
  have hSk := hS k (Nat.lt_succ_self k)
  have hNs := SV_eqS hP hN hSk
  have so2 : soS (S k) nt ≤ 2 := soF_le nt 0 true
  have hlen := outL_len (P := P) (w := w) (nt := nt) (S := S) k
  have hA := slA_len (w := w) hP
  have hA' : (slA P w nc nl nt).length ≤ 220 := by
    have := hA.1
    by_cases w2 : w = 2
    · rw [if_pos w2] at this; exact this
    · rw [if_neg w2] at this; omega
  have hO := slO_len hP
  have hOA := hA.2.2
  -- the outcome, from a state whose mark is m1
  have l47 : ∀ (σ1 : qS) (m1 : Nat), m1 < 64 → σ1.1 93 k = nI m1 → (∀ c, c = 87 ∨ c = 88 ∨ c = 89 → σ1.1 c = σ.1 c) → σ1.2 = σ.2 → σ1.1 83 = σ.1 83 → ∃ σ', L_X10_noteEnd_47 en (d + 4) (nI k) (mS σ1 71 F N b G) = some (none, mS σ' 71 F N b G) ∧ (∀ c, c ≠ 93 → c ≠ 87 → c ≠ 88 → c ≠ 89 → c ≠ 71 → c ≠ 72 → c ≠ 10 → c ≠ 7 → σ'.1 c = σ1.1 c) ∧ (∀ i, i ≠ k → σ'.1 93 i = σ1.1 93 i) ∧ σ'.2 = σ.2 ∧ σ'.1 93 k = nI (m1 ||| (outN P w nt S k + 1) * 256) ∧
      RW σ' 87 84 88 89 15 (outL P w nt S (k + 1)).length ((slO P nc nt).length / 2) 20000 (fun i => (outL P w nt S (k + 1)).getD i 0 * ((slA P w nc nl nt).length / 2)) (fun i => pkR (slO P nc nt) (cnS nt (S ((outL P w nt S (k + 1)).getD i 0)))) := by
    intro σ1 m1 hm1 h1 h2 h3 h4
    have HR : RW (mS σ1 71 F N b G) 87 84 88 89 15 (outL P w nt S k).length ((slO P nc nt).length / 2) 20000 (fun i => (outL P w nt S k).getD i 0 * ((slA P w nc nl nt).length / 2)) (fun i => pkR (slO P nc nt) (cnS nt (S ((outL P w nt S k).getD i 0)))) := RW_m (rw87m hR h2 (by rw [h3])) (by decide) (by decide) (by decide)
    have hsm : ∀ i, i < (outL P w nt S k).length → (smR ((slO P nc nt).length / 2) (fun i => pkR (slO P nc nt) (cnS nt (S ((outL P w nt S k).getD i 0)))) (pkR (slO P nc nt) (cnS nt (S k))) i ↔ eqO nt (S k) (S ((outL P w nt S k).getD i 0))) := fun i hi => co_sm hP hSk (hS _ (by have := outL_lt (P := P) (w := w) (nt := nt) (S := S) k _ (getD_mem hi); omega))
    have eL : outL P w nt S (k + 1) = match fndO nt S (S k) (outL P w nt S k) 0 with
      | some _ => outL P w nt S k
      | none => outL P w nt S k ++ [k] := by
      show (if endC P w (S k) nt = true then _ else _) = _
      rw [if_pos hend]
      cases fndO nt S (S k) (outL P w nt S k) 0 <;> rfl
    have e93 : (mS σ1 71 F N b G).1 93 k = nI m1 := by rw [mS_o (by decide) (by decide) (by decide) (by decide)]; exact h1
    have e83 : (mS σ1 71 F N b G).1 83 4 = nI ((slA P w nc nl nt).length / 2) := by rw [mS_o (by decide) (by decide) (by decide) (by decide), h4]; exact hw4
    -- what follows once the outcome has number o
    have fin : ∀ (s' : qS) (o : Nat), o ≤ 20000 → qev en (d + 4) 151 [.ref 87, .int (nI (k * ((slA P w nc nl nt).length / 2)))] (mS σ1 71 F N b G) = some (some (.int (nI o)), s') → L_X10_noteEnd_47 en (d + 4) (nI k) (mS σ1 71 F N b G) = some (none, uI s' 93 k (nI (m1 ||| (o + 1) * 256))) := by
      intro s' o ho e
      refine le_X10_noteEnd_47 en _ _ _ _ ?_
      rw [gd_true (n_in (by omega) (by decide)), e83, n_mul, e, bI_some, nm_eq, n_cl (by omega), e93, n_ar, show (8 : Int32) = nI 8 from rfl, shl_nI (by decide) (by show (o + 1) * 2 ^ 8 < _; omega), or_nI (by omega) (by show (o + 1) * 2 ^ 8 < _; omega)]
    have hrf := x_refer (en := en) (d := d + 1) (f := k * ((slA P w nc nl nt).length / 2)) (g := pkR (slO P nc nt) (cnS nt (S k))) rw87 HR (by decide) ⟨by omega, by show (outL P w nt S k).length + 1 ≤ 20000; omega⟩ (by omega) (by show _ ≤ 740000; omega) (fun j hj => by
      show σ1.2.1 84 _ = _
      rw [h3, hdat j (by omega)]
      unfold pkR
      rw [slO_pre (by omega), slO_pre (by omega)])
    rcases hrf with ⟨i, hi, hs, e5⟩ | ⟨hno, s', e5, ⟨f1, f2, f3⟩, r5⟩
    · have hf : fndO nt S (S k) (outL P w nt S k) 0 = some i := fndO_of (outL_unl k) hi ((hsm i hi).mp hs).sy
      have eN : outN P w nt S k = i := by unfold outN; rw [hf]
      rw [hf] at eL
      refine ⟨uI σ1 93 k (nI (m1 ||| (i + 1) * 256)), ?_, fun c h1 _ _ _ _ _ _ _ => uI_ne h1, fun j hj => by rw [g_I, if_neg (fun z => hj z.2)], h3, by rw [g_I, if_pos ⟨rfl, rfl⟩, eN], ?_⟩
      · rw [fin _ i (by omega) e5, mS_wo (by decide) (by decide) (by decide) (by decide)]
      · rw [eL]
        exact rw87m hR (fun c hc => by rw [uI_ne (by omega)]; exact h2 c hc) (by show σ1.2.1 84 = _; rw [h3])
    · have hf : fndO nt S (S k) (outL P w nt S k) 0 = none := fndO_no fun i hi z => hno i hi ((hsm i hi).mpr z.sy)
      have eN : outN P w nt S k = (outL P w nt S k).length := by unfold outN; rw [hf]
      rw [hf] at eL
      have pic := mS_pic (σ := σ1) (F := F) (N := N) (b := b) (G := G) (s' := s') (fun c hc => f1 c (by omega) (by omega) (by omega)) (by rw [f1 7 (by decide) (by decide) (by decide)])
      generalize hσ4 : ((fun a k => if a = 71 ∨ a = 72 ∨ a = 10 ∨ (a = 7 ∧ k = 4) then σ1.1 a k else s'.1 a k, s'.2) : qS) = σ4 at pic
      have s4 : ∀ c, c ≠ 71 → c ≠ 72 → c ≠ 10 → c ≠ 7 → σ4.1 c = s'.1 c := fun c h1 h2 h3 h4 => by
        rw [← hσ4]
        funext j
        exact if_neg (by omega)
      have s42 : σ4.2 = σ1.2 := by rw [← hσ4]; exact f3
      refine ⟨uI σ4 93 k (nI (m1 ||| ((outL P w nt S k).length + 1) * 256)), ?_, fun c h1 h2 h3 h4 h5 h6 h7 h8 => by rw [uI_ne h1, s4 c h5 h6 h7 h8, f1 c h2 h3 h4, mS_o h5 h6 h7 h8], fun j hj => by rw [g_I, if_neg (fun z => hj z.2), s4 93 (by decide) (by decide) (by decide) (by decide), f1 93 (by decide) (by decide) (by decide), mS_o (by decide) (by decide) (by decide) (by decide)], by show σ4.2 = _; rw [s42, h3], by rw [g_I, if_pos ⟨rfl, rfl⟩, eN], ?_⟩
      · rw [fin _ _ (by omega) e5, pic, mS_wo (by decide) (by decide) (by decide) (by decide)]
      · rw [eL]
        have q1 : (fun i => if i = (outL P w nt S k).length then k * ((slA P w nc nl nt).length / 2) else (outL P w nt S k).getD i 0 * ((slA P w nc nl nt).length / 2)) = fun i => (outL P w nt S k ++ [k]).getD i 0 * ((slA P w nc nl nt).length / 2) := funext fun i => by
          rw [getD_snoc]
          by_cases z : i = (outL P w nt S k).length
          · rw [if_pos z, if_pos z]
          · rw [if_neg z, if_neg z]
        have q2 : (fun i => if i = (outL P w nt S k).length then pkR (slO P nc nt) (cnS nt (S k)) else pkR (slO P nc nt) (cnS nt (S ((outL P w nt S k).getD i 0)))) = fun i => pkR (slO P nc nt) (cnS nt (S ((outL P w nt S k ++ [k]).getD i 0))) := funext fun i => by
          rw [getD_snoc]
          by_cases z : i = (outL P w nt S k).length
          · rw [if_pos z, if_pos z]
          · rw [if_neg z, if_neg z]
        rw [q1, q2] at r5
        dsimp only
        rw [List.length_append, List.length_singleton]
        exact r5.fr (fun j _ => by rw [uI_ne (by decide), s4 87 (by decide) (by decide) (by decide) (by decide)]) (fun i _ => by rw [uI_ne (by decide), s4 88 (by decide) (by decide) (by decide) (by decide)]) (fun i _ => by rw [uI_ne (by decide), s4 89 (by decide) (by decide) (by decide) (by decide)]) (fun i _ j _ => by show σ4.2.1 84 _ = s'.2.1 84 _; rw [s42, f3]; rfl)
  -- the count of ends, the sort
  have e14 : (mS σ 71 F N b G).1 70 14 = nI e0 := by rw [mS_o (by decide) (by decide) (by decide) (by decide)]; exact h14
  let σ1 : qS := uI σ 70 14 (nI (e0 + 1))
  have e233 : (mS σ1 71 F N b G).1 72 233 = nI (soS (S k) nt) := by
    rw [show (mS σ1 71 F N b G).1 72 = N from mS_n]; exact h233
  have start : ∀ r, (if nI (soS (S k) nt) = (0 : Int32) then L_X10_noteEnd_47 en (d + 4) (nI k) (mS σ1 71 F N b G) else gd (p_inB (nI k) 20000 = true) (nm (uI (mS σ1 71 F N b G) 93 (nI k).toNatClampNeg (((mS σ1 71 F N b G).1 93 (nI k).toNatClampNeg) ||| (32 : Int32))) (fun s4 => bV (qev en (d + 4) 7 [.ref 76, .ref 71, .int (nI k)] s4) (fun s6 => L_X10_noteEnd_47 en (d + 4) (nI k) s6)))) = some r → qev en (d + 5) 182 [.ref 70, .int (nI k)] (mS σ 71 F N b G) = some r := by
    intro r hh
    refine le_X10_noteEnd en (d + 4) _ _ _ ?_
    rw [e14, n_ar, nm_eq, mS_wo (by decide) (by decide) (by decide) (by decide), e233]
    exact hh
  by_cases so : soS (S k) nt = 0
  · obtain ⟨σ', a1, a2, a3, a4, a5, a6⟩ := l47 σ1 m0 (by omega) (by rw [show σ1.1 93 = σ.1 93 from uI_ne (by decide)]; exact h93) (fun c hc => uI_ne (by omega)) rfl (uI_ne (by decide))
    refine ⟨σ', start _ ?_, fun c h1 h2 h3 h4 h5 h6 h7 h8 h9 h10 => (a2 c h3 h4 h5 h6 h7 h8 h9 h10).trans (uI_ne h1), fun j hj => by rw [a2 70 (by decide) (by decide) (by decide) (by decide) (by decide) (by decide) (by decide) (by decide), g_I, if_neg (fun z => hj z.2)], fun i hi => by rw [a3 i hi, show σ1.1 93 = σ.1 93 from uI_ne (by decide)], a4, by rw [a2 70 (by decide) (by decide) (by decide) (by decide) (by decide) (by decide) (by decide) (by decide), g_I, if_pos ⟨rfl, rfl⟩], by rw [if_pos so]; exact a5, fun c hc => by rw [if_pos so, a2 80 (by decide) (by decide) (by decide) (by decide) (by decide) (by decide) (by decide) (by decide), show σ1.1 80 = σ.1 80 from uI_ne (by decide), h80], a6⟩
    rw [if_pos (by rw [so]; rfl)]
    exact a1
  · have or32 : m0 ||| 32 < 64 := Nat.or_lt_two_pow (n := 6) (by omega) (by decide)
    let σ2 : qS := uI σ1 93 k (nI (m0 ||| 32))
    have HB2 : XB σ2 71 p P := xb_fr hB (fun z hz => by rw [show σ2.1 z = σ1.1 z from uI_ne (by have := hB.2.1; omega), show σ1.1 z = σ.1 z from uI_ne (by have := hB.2.1; omega)]) rfl
    have e7 := x_seeStuck (en := en) (d := d + 1) (F := F) (N := N) (b := b) (G := G) (sv := nI k) (g := g) HB2 hP hNs (by rw [show σ2.1 80 = σ1.1 80 from uI_ne (by decide), show σ1.1 80 = σ.1 80 from uI_ne (by decide)]; exact h80)
    rw [stkS_cg hP hNs hN] at e7
    let σ3 : qS := uIr σ2 80 (stkS P (S k) nt (nI k) g)
    obtain ⟨σ', a1, a2, a3, a4, a5, a6⟩ := l47 σ3 (m0 ||| 32) or32 (by rw [show σ3.1 93 = σ2.1 93 from uIr_ne (by decide)]; exact (if_pos ⟨rfl, rfl⟩ : (if 93 = 93 ∧ k = k then nI (m0 ||| 32) else _) = _)) (fun c hc => by rw [show σ3.1 c = σ2.1 c from uIr_ne (by omega), show σ2.1 c = σ1.1 c from uI_ne (by omega)]; exact uI_ne (by omega)) rfl (by rw [show σ3.1 83 = σ2.1 83 from uIr_ne (by decide), show σ2.1 83 = σ1.1 83 from uI_ne (by decide)]; exact uI_ne (by decide))
    refine ⟨σ', start _ ?_, fun c h1 h2 h3 h4 h5 h6 h7 h8 h9 h10 => (a2 c h3 h4 h5 h6 h7 h8 h9 h10).trans (by rw [show σ3.1 c = σ2.1 c from uIr_ne h2, show σ2.1 c = σ1.1 c from uI_ne h3]; exact uI_ne h1), fun j hj => by rw [a2 70 (by decide) (by decide) (by decide) (by decide) (by decide) (by decide) (by decide) (by decide), show σ3.1 70 = σ2.1 70 from uIr_ne (by decide), show σ2.1 70 = σ1.1 70 from uI_ne (by decide), g_I, if_neg (fun z => hj z.2)], fun i hi => by rw [a3 i hi, show σ3.1 93 = σ2.1 93 from uIr_ne (by decide), g_I, if_neg (fun z => hi z.2), show σ1.1 93 = σ.1 93 from uI_ne (by decide)], a4, by rw [a2 70 (by decide) (by decide) (by decide) (by decide) (by decide) (by decide) (by decide) (by decide), show σ3.1 70 = σ2.1 70 from uIr_ne (by decide), show σ2.1 70 = σ1.1 70 from uI_ne (by decide), g_I, if_pos ⟨rfl, rfl⟩], by rw [if_neg so]; exact a5, fun c hc => by rw [if_neg so, a2 80 (by decide) (by decide) (by decide) (by decide) (by decide) (by decide) (by decide) (by decide), show σ3.1 80 = _ from uIr_row], a6⟩
    have e93 : (mS σ1 71 F N b G).1 93 k = nI m0 := by rw [mS_o (by decide) (by decide) (by decide) (by decide), show σ1.1 93 = σ.1 93 from uI_ne (by decide)]; exact h93
    rw [if_neg (by rw [n_eq (by decide) (by omega)]; exact so), gd_true (n_in (by omega) (by decide)), nm_eq, n_cl (by omega), e93, show (32 : Int32) = nI 32 from rfl, or_nI (by omega) (by decide), mS_wo (by decide) (by decide) (by decide) (by decide), e7, bV_some]
    exact a1
end NE

