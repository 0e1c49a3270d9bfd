/-! THE RUN, the class's side: what holds of it between calls; a turn. -/
abbrev RXi (τ : qS) (p : Nat) (P : Nat → fI) (w : Nat) (N : fI) (len : Nat) (f : Nat → fI) : Prop := XB τ 112 p P ∧ τ.1 113 = N ∧ τ.1 112 8 = nI w ∧ τ.1 111 3 = nI len ∧ ¬ τ.1 111 4 = 0 ∧ (∀ k, k < 6 → τ.1 (118 + k) = f k) ∧ AH (τ.2.1 124) (fun a b => decide (ldS P f a b)) len
section TX
variable {en : pN} {d : Nat} {σ τ : qS} {H : fJ} {p t ch w nc nl nt n len : Nat} {P f : Nat → fI} {F N G R : fI} {b : Int32} {l : Int32} {u v : Int32}
theorem rn_id (hl : τ.1 111 3 = l) (h : ∀ k, k < 6 → τ.1 (118 + k) = f k) : rnS τ l f (τ.2.1 124) = τ := by
  refine Prod.ext (funext fun a => funext fun k => ?_) (Prod.ext (funext fun a => funext fun k => ?_) rfl)
  · show (if 118 ≤ a ∧ a < 124 then f (a - 118) k else if a = 111 ∧ k = 3 then l else τ.1 a k) = τ.1 a k
    by_cases q : 118 ≤ a ∧ a < 124
    · rw [if_pos q, ← h (a - 118) (by omega), show 118 + (a - 118) = a by omega]
    · rw [if_neg q]
      by_cases z : a = 111 ∧ k = 3
      · rw [if_pos z, z.1, z.2, hl]
      · rw [if_neg z]
  · show (if a = 124 then τ.2.1 124 k else τ.2.1 a k) = τ.2.1 a k
    by_cases q : a = 124
    · rw [if_pos q, q]
    · rw [if_neg q]
theorem rx_pic (h : RXi τ p P w N len f) : mS (rnS τ (nI len) f (τ.2.1 124)) 112 (τ.1 112) N (τ.1 7 4) (τ.1 10) = τ := by
  obtain ⟨hB, hN, hw, hl, hv, hf, hA⟩ := h
  rw [rn_id hl hf, ← hN]
  exact mS_id
theorem rx_mk (hB : XB σ 112 p P) (hF : F 8 = nI w) (hv : ¬ σ.1 111 4 = 0) (hA : AH H (fun a b => decide (ldS P f a b)) len) : RXi (mS (rnS σ (nI len) f H) 112 F N b G) p P w N len f := by
  have hB' : XB (rnS σ (nI len) f H) 112 p P := rn_XB hB
  refine ⟨⟨Or.inr rfl, hB.2.1, hB.2.2.1, fun a ha => xb_P hB' ha, ⟨hB.2.2.2.2.1.1, fun j hj => xb_8 hB' hj⟩, fun j hj => xb_9 hB' hj⟩, mS_n, ?_, mrn_l, ?_, fun k hk => mrn_f hk, ?_⟩
  · rw [mS_m]; exact hF
  · rw [mS_o (by decide) (by decide) (by decide) (by decide)]
    exact hv
  · have e : (mS (rnS σ (nI len) f H) 112 F N b G).2.1 124 = H := by
      funext k
      show (if (124 : Nat) = 124 then H k else σ.2.1 124 k) = H k
      exact if_pos rfl
    rw [e]
    exact hA
theorem rn_r : uIr (rnS σ l f H) 115 R = rnS (uIr σ 115 R) l f H := by
  refine Prod.ext (funext fun a => funext fun k => ?_) rfl
  show (if a = 115 then R k else if 118 ≤ a ∧ a < 124 then f (a - 118) k else if a = 111 ∧ k = 3 then l else σ.1 a k) = (if 118 ≤ a ∧ a < 124 then f (a - 118) k else if a = 111 ∧ k = 3 then l else if a = 115 then R k else σ.1 a k)
  by_cases q : a = 115
  · rw [if_pos q, if_neg (by omega), if_neg (by omega), if_pos q]
  · rw [if_neg q, if_neg q]
theorem ir_id : uIr σ 115 (σ.1 115) = σ := by
  refine Prod.ext (funext fun a => funext fun k => ?_) rfl
  show (if a = 115 then σ.1 115 k else σ.1 a k) = σ.1 a k
  by_cases q : a = 115
  · rw [if_pos q, q]
  · rw [if_neg q]
/-- what a call on the class's run may change -/
abbrev frX (σ τ : qS) : Prop := (∀ a, a ≠ 7 → a ≠ 10 → a ≠ 111 → a ≠ 112 → a ≠ 113 → a ≠ 115 → (a < 118 ∨ 124 ≤ a) → τ.1 a = σ.1 a) ∧ (∀ k, k ≠ 4 → τ.1 7 k = σ.1 7 k) ∧ (∀ k, k ≠ 3 → τ.1 111 k = σ.1 111 k) ∧ (∀ a, a ≠ 124 → τ.2.1 a = σ.2.1 a) ∧ τ.2.2 = σ.2.2
theorem fx_pic : frX σ (mS (rnS (uIr σ 115 R) l f H) 112 F N b G) := by
  refine ⟨fun a h1 h2 h3 h4 h5 h6 h7 => ?_, fun k hk => ?_, fun k hk => ?_, fun a ha => ?_, rfl⟩
  · rw [mS_o h4 h5 h2 h1, rn_o h7 h3, uIr_ne h6]
  · rw [mS_7 (Or.inr rfl) hk, rn_o (Or.inl (by decide)) (by decide), uIr_ne (by decide)]
  · rw [mS_o (by decide) (by decide) (by decide) (by decide)]
    show (if 118 ≤ 111 ∧ 111 < 124 then f (111 - 118) k else if (111 : Nat) = 111 ∧ k = 3 then l else (uIr σ 115 R).1 111 k) = _
    rw [if_neg (by omega), if_neg (fun w => hk w.2), uIr_ne (by decide)]
  · funext k
    exact if_neg ha
theorem rx_mkR (hB : XB σ 112 p P) (hF : F 8 = nI w) (hv : ¬ σ.1 111 4 = 0) (hA : AH H (fun a b => decide (ldS P f a b)) len) : RXi (mS (rnS (uIr σ 115 R) (nI len) f H) 112 F N b G) p P w N len f :=
  rx_mk (xb_Ir (m := 112) hB) hF (by rw [uIr_ne (by decide)]; exact hv) hA
/-- what a turn comes to, the class's side -/
def trX (τ : qS) (p : Nat) (P : Nat → fI) (w : Nat) (N : fI) (nt len : Nat) (f : Nat → fI) (u v : Int32) (r : Int32) (τ' : qS) : Prop := frX τ τ' ∧
  ((¬ (∃ t ch, u = nI t ∧ v = nI ch ∧ ch < 10 ∧ rdS P w N t ch nt) ∧ r = -2 ∧ RXi τ' p P w N len f) ∨
   ∃ t ch, (u = nI t ∧ v = nI ch ∧ ch < 10 ∧ rdS P w N t ch nt) ∧ ((len = 200 ∧ r = -3 ∧ RXi τ' p P w N len f) ∨ (len < 200 ∧ r = nI (rdl P w (stp P w N t ch nt) nt nt).length ∧ ∃ told, (acA P w N t ch nt = 15 ∨ acA P w N t ch nt = 16 → told = exr (exv P 5 N (clp (N (4 + t))))) ∧ RXi τ' p P w (stp P w N t ch nt) (len + 1) (stR f len (stV P w N t ch nt told)))))
theorem x_turn (h : RXi τ p P w N len f) (hP : PV P nc nl nt n) (hS : SV P w nc nl nt n N) (hw2 : w ≤ 2) (hlen : len ≤ 200) : ∃ (r : Int32) (τ' : qS), qev en (d + 8) 209 [.ref 0, .int u, .int v] τ = some (some (.int r), τ') ∧ trX τ p P w N nt len f u v r τ' := by
  have hpic := rx_pic h
  obtain ⟨hB, hN, hw, hl, hv, hf, hA⟩ := h
  obtain ⟨G1, b1, rb, e1, q1⟩ := x_isReady (en := en) (d := d + 1) (σ := rnS τ (nI len) f (τ.2.1 124)) (F := τ.1 112) (G := τ.1 10) (b := τ.1 7 4) (v := u) (x := v) (rn_XB hB) hP hS hw hw2
  rw [hpic] at e1
  have e0 : rnS τ (nI len) f (τ.2.1 124) = rnS (uIr τ 115 (τ.1 115)) (nI len) f (τ.2.1 124) := by rw [ir_id]
  by_cases hr : rb = true
  · obtain ⟨t, ch, ru, rv, rc, rd⟩ := q1.mp hr
    by_cases h200 : len < 200
    · obtain ⟨F2, G2, b2, told, H2, e2, f2, t2, a2⟩ := x_rtake (en := en) (d := d) (σ := τ) (H := τ.2.1 124) (F := τ.1 112) (G := G1) (b := b1) hB hP hS hw hw2 rd rc h200 hA
      have hS' := SV_stp hP hS hw2 rd rc
      have hF2 : F2 8 = nI w := (f2 8 (by decide) (by decide) (by decide) (by decide)).trans hw
      obtain ⟨F3, G3, R3, b3, e3, f3, -, -, -⟩ := x_list (en := en) (d := d + 1) (σ := rnS τ (nI (len + 1)) (stR f len (stV P w N t ch nt told)) H2) (F := F2) (G := G2) (b := b2) (rn_XB hB) hP hS' hF2 hw2
      rw [show (112 : Nat) + 3 = 115 from rfl, rn_r] at e3
      refine ⟨nI (rdl P w (stp P w N t ch nt) nt nt).length, mS (rnS (uIr τ 115 R3) (nI (len + 1)) (stR f len (stV P w N t ch nt told)) H2) 112 F3 (stp P w N t ch nt) b3 G3, le_X11_turn en (d + 7) _ _ _ _ ?_, fx_pic, Or.inr ⟨t, ch, ⟨ru, rv, rc, rd⟩, Or.inr ⟨h200, rfl, told, t2, rx_mkR hB ((f3 8 (by decide)).trans hF2) hv a2⟩⟩⟩
      rw [if_pos hv, e1, bI_some]
      show (if ¬ bt rb = 0 then _ else _) = _
      rw [if_pos (by rw [hr]; decide), mrn_l, if_pos (by rw [n_gt (by decide) (by omega)]; exact h200), ru, rv, e2, bV_some, e3, bI_some]
    · refine ⟨-3, mS (rnS (uIr τ 115 (τ.1 115)) (nI len) f (τ.2.1 124)) 112 (τ.1 112) N b1 G1, le_X11_turn en (d + 7) _ _ _ _ ?_, fx_pic, Or.inr ⟨t, ch, ⟨ru, rv, rc, rd⟩, Or.inl ⟨by omega, rfl, rx_mkR hB hw hv hA⟩⟩⟩
      rw [if_pos hv, e1, bI_some]
      show (if ¬ bt rb = 0 then _ else _) = _
      rw [if_pos (by rw [hr]; decide), mrn_l, if_neg (by rw [n_gt (by decide) (by omega)]; exact h200), e0]
  · refine ⟨-2, mS (rnS (uIr τ 115 (τ.1 115)) (nI len) f (τ.2.1 124)) 112 (τ.1 112) N b1 G1, le_X11_turn en (d + 7) _ _ _ _ ?_, fx_pic, Or.inl ⟨fun w => hr (q1.mpr w), rfl, rx_mkR hB hw hv hA⟩⟩
    rw [if_pos hv, e1, bI_some]
    show (if ¬ bt rb = 0 then _ else _) = _
    rw [if_neg (by rw [Bool.eq_false_iff.mpr hr]; decide), e0]
end TX

