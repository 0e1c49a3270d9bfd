/-! THE CLASS'S CALLS: a run: what is ready, what is told of locals. -/
section RQC
variable {en : pN} {d : Nat} {σ τ : qS} {p w nc nl nt n len t : Nat} {P f g : Nat → fI} {N T : fI} {u v : Int32}
theorem x_localQ (h : RXi τ p P w N len f) (h11 : τ.1 11 11 = nI nt) (ht4 : nt ≤ 4) (h3 : ∀ t, t < nt → τ.1 (11 + 3) t = nI (lct P t) ∧ lct P t ≤ 6) : qev en (d + 3) 211 [.ref 0, .int u, .int v] τ = some (some (.int (if u < 0 then -1000 else if u < nI nt then (if v < 0 then -1000 else if v < nI (lct P (clp u)) then N (16 + clp u * 6 + clp v) else -1000) else -1000)), τ) := by
  obtain ⟨hB, hN, hw, hl, hv, hf, hA⟩ := h
  have e92 : qev en (d + 1) 92 [.ref 11, .int u] τ = some (some (.int (if u < 0 then 0 else if nI nt ≤ u then 0 else 1)), τ) := by
    refine le_X5_hasThread en d 11 _ _ _ ?_
    rw [gd_true (by rfl), h11]
    by_cases a0 : u < 0
    · rw [if_pos a0, if_pos a0]
    rw [if_neg a0, if_neg a0]
    by_cases a1 : nI nt ≤ u
    · rw [if_pos a1, if_pos a1]
    · rw [if_neg a1, if_neg a1]
  have out : ∀ {x : Int32}, qev en (d + 2) 93 [.ref 11, .int u, .int v] τ = some (some (.int 0), τ) → x = -1000 → qev en (d + 3) 211 [.ref 0, .int u, .int v] τ = some (some (.int x), τ) := by
    intro x e hx
    refine le_X11_local en (d + 2) _ _ _ _ ?_
    rw [if_pos hv, e, bI_some, hx]
    exact if_pos rfl
  by_cases a0 : u < 0
  · refine out (le_X5_hasLocal en (d + 1) 11 _ _ _ _ ?_) (if_pos a0)
    rw [gd_true (by rfl), e92, bI_some, if_pos a0]
    exact if_pos rfl
  by_cases a1 : u < nI nt
  · obtain ⟨t, ht, rfl⟩ := nI_of a0
    have a2 := a1
    rw [n_LT (by omega) (by omega)] at a1
    obtain ⟨h31, h32⟩ := h3 t a1
    rw [if_neg a0, if_pos a2, show clp (nI t) = t from n_clp (by omega)]
    rw [if_neg a0, if_neg (Int32.not_le.mpr a2)] at e92
    by_cases v0 : v < 0
    · refine out (le_X5_hasLocal en (d + 1) 11 _ _ _ _ ?_) (if_pos v0)
      rw [gd_true (by rfl), e92, bI_some, if_neg (by decide), if_pos v0]
    obtain ⟨k, hk, rfl⟩ := nI_of v0
    rw [if_neg v0]
    by_cases v1 : k < lct P t
    · rw [if_pos (by rw [n_LT (by omega) (by omega)]; exact v1), show clp (nI k) = k from n_clp (by omega)]
      refine le_X11_local en (d + 2) _ _ _ _ ?_
      have e93 : qev en (d + 2) 93 [.ref 11, .int (nI t), .int (nI k)] τ = some (some (.int 1), τ) := by
        refine le_X5_hasLocal en (d + 1) 11 _ _ _ _ ?_
        rw [gd_true (by rfl), e92, bI_some, if_neg (by decide), if_neg v0, gd_true (n_in (by omega) (by decide)), n_cl (by omega), h31, if_neg (by rw [n_LE (by omega) (by omega)]; omega)]
      have e32 : qev en (d + 2) 32 [.int (nI t), .int (nI k)] τ = some (some (.int (nI (16 + t * 6 + k))), τ) := by
        refine le_X3_localSlot en (d + 1) _ _ _ _ ?_
        rw [n_mr, n_al]
        congr 4
        exact (Int32.ofNat_add _ _).symm
      rw [if_pos hv, e93, bI_some, if_neg (by decide), e32, bI_some, gd_true (n_in (by omega) (by decide)), hN, n_cl (by omega)]
    · refine out (le_X5_hasLocal en (d + 1) 11 _ _ _ _ ?_) (if_neg (by rw [n_LT (by omega) (by omega)]; exact v1))
      rw [gd_true (by rfl), e92, bI_some, if_neg (by decide), if_neg v0, gd_true (n_in (by omega) (by decide)), n_cl (by omega), h31, if_pos (by rw [n_LE (by omega) (by omega)]; omega)]
  · refine out (le_X5_hasLocal en (d + 1) 11 _ _ _ _ ?_) (by rw [if_neg a0, if_neg a1])
    rw [gd_true (by rfl), e92, bI_some, if_neg a0, if_pos (Int32.not_lt.mp a1)]
    exact if_pos rfl
def rdR (L : List Nat) (u : Int32) : Int32 := if u < 0 then -2 else if h : clp u < L.length then nI L[clp u] else -2
theorem x_readyQ (h : RXi τ p P w N len f) (hP : PV P nc nl nt n) (hS : SV P w nc nl nt n N) (hw2 : w ≤ 2) : ∃ τ', qev en (d + 7) 208 [.ref 0, .int u] τ = some (some (.int (rdR (rdl P w N nt nt) u)), τ') ∧ frX τ τ' ∧ RXi τ' p P w N len f := by
  have hpic := rx_pic h
  obtain ⟨hB, hN, hw, hl, hv, hf, hA⟩ := h
  obtain ⟨F3, G3, R3, b3, e3, f3, -, hr, h40⟩ := x_list (en := en) (d := d) (σ := rnS τ (nI len) f (τ.2.1 124)) (F := τ.1 112) (G := τ.1 10) (b := τ.1 7 4) (rn_XB hB) hP hS hw hw2
  rw [hpic, show (112 : Nat) + 3 = 115 from rfl, rn_r] at e3
  have e115 : (mS (rnS (uIr τ 115 R3) (nI len) f (τ.2.1 124)) 112 F3 N b3 G3).1 115 = R3 := by
    rw [mS_o (by decide) (by decide) (by decide) (by decide), rn_o (by decide) (by decide)]
    funext k
    show (if (115 : Nat) = 115 then R3 k else τ.1 115 k) = R3 k
    exact if_pos rfl
  refine ⟨mS (rnS (uIr τ 115 R3) (nI len) f (τ.2.1 124)) 112 F3 N b3 G3, le_X11_ready en (d + 6) _ _ _ ?_, fx_pic, rx_mkR hB ((f3 8 (by decide)).trans hw) hv hA⟩
  rw [if_pos hv, e3, bI_some]
  unfold rdR
  by_cases a0 : u < 0
  · rw [if_pos a0, if_pos a0]
  rw [if_neg a0, if_neg a0]
  obtain ⟨k, hk, rfl⟩ := nI_of a0
  have ek : clp (nI k) = k := n_clp hk
  by_cases a1 : k < (rdl P w N nt nt).length
  · rw [if_pos (by rw [n_LT (by omega) (by omega)]; exact a1), dif_pos (by rw [ek]; exact a1), gd_true (n_in (by omega) (by decide)), e115, n_cl (by omega), hr k a1]
    simp only [ek]
  · rw [if_neg (by rw [n_LT (by omega) (by omega)]; exact a1), dif_neg (by rw [ek]; exact a1)]
end RQC
