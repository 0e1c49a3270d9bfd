/-! LAWS: an expression worked out by the class, in a state. -/
/-- the class's place of law expressions: whether it went beyond, the pile -/
def lS (τ : qS) (b : Int32) (G : fI) : qS := (fun a k => if a = 61 ∧ k = 4 then b else if a = 64 then G k else τ.1 a k, τ.2)
section LAW
variable {en : pN} {d i n top : Nat} {v b : Int32} {τ : qS} {F N G O Q : fI}
theorem lS_g : (lS τ b G).1 64 = G := by
  funext k
  show (if 64 = 61 ∧ k = 4 then b else if 64 = 64 then G k else τ.1 64 k) = _
  rw [if_neg (by omega), if_pos rfl]
theorem lS_o {a : Nat} (h : a ≠ 61) (h' : a ≠ 64) : (lS τ b G).1 a = τ.1 a := by
  funext k
  show (if a = 61 ∧ k = 4 then b else if a = 64 then G k else τ.1 a k) = _
  rw [if_neg (fun z => h z.1), if_neg h']
theorem lS_61 {k : Nat} : (lS τ b G).1 61 k = if k = 4 then b else τ.1 61 k := by
  show (if 61 = 61 ∧ k = 4 then b else if 61 = 64 then G k else τ.1 61 k) = _
  by_cases q : k = 4
  · rw [if_pos ⟨rfl, q⟩, if_pos q]
  · rw [if_neg (fun z => q z.2), if_neg (by decide), if_neg q]
theorem lS_wb {c : Int32} : uI (lS τ b G) 61 4 c = lS τ c G := by
  refine Prod.ext ?_ rfl
  funext a k
  show (if a = 61 ∧ k = 4 then c else if a = 61 ∧ k = 4 then b else if a = 64 then G k else τ.1 a k) = (if a = 61 ∧ k = 4 then c else if a = 64 then G k else τ.1 a k)
  by_cases q : a = 61 ∧ k = 4
  · rw [if_pos q, if_pos q]
  · rw [if_neg q, if_neg q, if_neg q]
theorem lS_wg {k : Nat} {c : Int32} : uI (lS τ b G) 64 k c = lS τ b (upd G k c) := by
  refine Prod.ext ?_ rfl
  funext a j
  show (if a = 64 ∧ j = k then c else if a = 61 ∧ j = 4 then b else if a = 64 then G j else τ.1 a j) = (if a = 61 ∧ j = 4 then b else if a = 64 then (if j = k then c else G j) else τ.1 a j)
  by_cases q : a = 64
  · subst q
    rw [if_neg (show ¬ (64 = 61 ∧ j = 4) by omega), if_pos rfl, if_neg (show ¬ (64 = 61 ∧ j = 4) by omega), if_pos rfl]
    by_cases q' : j = k
    · rw [if_pos ⟨rfl, q'⟩, if_pos q']
    · rw [if_neg (fun z => q' z.2), if_neg q']
  · rw [if_neg (fun z => q z.1), if_neg q, if_neg q]
theorem lS_id : lS τ (τ.1 61 4) (τ.1 64) = τ := by
  refine Prod.ext ?_ rfl
  funext a k
  show (if a = 61 ∧ k = 4 then τ.1 61 4 else if a = 64 then τ.1 64 k else τ.1 a k) = τ.1 a k
  by_cases q : a = 61 ∧ k = 4
  · rw [if_pos q, q.1, q.2]
  · rw [if_neg q]
    by_cases q' : a = 64
    · rw [if_pos q', q']
    · rw [if_neg q']
theorem x_applyL {k tp : Nat} {q : Int32} (hN : τ.1 72 = N) (hk : k ∈ opL) (ht : tp < 401) (h2 : k = 2 → ∃ z, q = nI z ∧ z < 236) (h3 : k = 3 → ∃ z, q = nI z ∧ z / 8 < 236) : qev en (d + 1) 79 [.ref 61, .int (nI k), .int q, .int (nI tp), .ref 72] (lS τ b G) = some (some (.int (ap k q (G tp) (G (tp + 1)) N)), lS τ b G) := by
  refine le_X4_apply en d 61 _ _ _ _ _ _ ?_
  have e7 : lc 61 = 4 := rfl
  have e72 : lc 72 = 20 := rfl
  have l72 : ln 72 = 236 := rfl
  have e10 : ln (61 + 3) = 402 := rfl
  have eg : (lS τ b G).1 (61 + 3) = G := lS_g
  have en' : (lS τ b G).1 72 = N := (lS_o (by decide) (by decide)).trans hN
  simp (disch := omega) only [e7, e72, l72, e10, gdT, n_in, n_ar, n_cl, eg, nm_eq, en']
  generalize lS τ b G = S
  generalize G tp = x
  generalize G (tp + 1) = y
  rw [n_to (by have := op_lt k hk; omega)]
  simp only [opL, List.mem_cons, List.not_mem_nil, or_false] at hk
  rcases hk with rfl | rfl | rfl | rfl | rfl | rfl | rfl | rfl | rfl | rfl | rfl | rfl | rfl | rfl | rfl | rfl
  · rfl
  · obtain ⟨z, rfl, hz⟩ := h2 rfl
    exact (if_pos (n_in hz (by decide)))
  · obtain ⟨z, rfl, hz⟩ := h3 rfl
    have hz' : z < 2 ^ 31 := by omega
    show gd (p_inB ((0 : Int32) + nI z / (8 : Int32)) 236 = true) (if ¬ N ((0 : Int32) + nI z / (8 : Int32)).toNatClampNeg = nI z - nI z / (8 : Int32) * (8 : Int32) then some (some (Value.int (0 : Int32)), S) else some (some (Value.int (1 : Int32)), S)) = some (some (Value.int (if ¬ N (nI z / 8).toNatClampNeg = nI z - nI z / 8 * 8 then 0 else 1)), S)
    rw [n_d8 hz', Int32.zero_add, gd_true (n_in hz (by decide))]
    exact ite_1
  all_goals first | rfl | exact ite_1 | exact ite_2
theorem x_exLL {e : Nat} (hN : τ.1 72 = N) (hO : τ.1 62 = O) (hQ : τ.1 63 = Q) (he : e ≤ 400) : ∀ (n i top : Nat) (G : fI), i + n = e → top ≤ i → dpk O Q 236 n i top → ∃ G' : fI, L_X4_workOut_18 en (d + 1) 61 (nI e) 72 (nI top) (nI i) (lS τ 0 G) = some (some (.int (exr (wk O Q N n i G top))), lS τ (exb (wk O Q N n i G top)) G') := by
  intro n
  have e7 : lc 61 = 4 := rfl
  have e72 : lc 72 = 20 := rfl
  have e8 : ln (61 + 1) = 400 := rfl
  have e9 : ln (61 + 2) = 400 := rfl
  have e10 : ln (61 + 3) = 402 := rfl
  have w0 : p_inB 0 402 = true := rfl
  induction n with
  | zero =>
    intro i top G hi ht hd
    refine ⟨G, le_X4_workOut_18 en (d + 1) 61 _ _ _ _ _ _ ?_⟩
    have eg : (lS τ 0 G).1 (61 + 3) = G := lS_g
    simp (disch := omega) only [e7, e72, gdT, n_LE, if_pos, e10, w0, eg]
    rfl
  | succ n ih =>
    intro i top G hi ht hd
    obtain ⟨⟨k, hk, hOi, ha, h2, h3⟩, hd2⟩ := hd
    have hk' := op_lt k hk
    have hck : (O i).toNatClampNeg = k := by rw [hOi]; exact n_cl (by omega)
    have a2 := @ar_le k
    rw [hck] at hd2
    have o8 : (lS τ 0 G).1 (61 + 1) = O := (lS_o (by decide) (by decide)).trans hO
    have o9 : (lS τ 0 G).1 (61 + 2) = Q := (lS_o (by decide) (by decide)).trans hQ
    have key : ∀ j : Nat, j = ar k → ∃ G' : fI, L_X4_workOut_63 en (d + 1) 61 (nI e) 72 (nI i) (nI k) (nI top) (nI j) (lS τ 0 G) = some (some (.int (exr (wk O Q N (n + 1) i G top))), lS τ (exb (wk O Q N (n + 1) i G top)) G') := by
      intro j hj
      subst hj
      unfold wk
      dsimp only
      rw [hck]
      generalize hv : ap k (Q i) (G (top - ar k)) (G (top - ar k + 1)) N = v
      by_cases hbig : 999 < v ∨ v < -999
      · rw [if_pos hbig]
        refine ⟨G, le_X4_workOut_63 en (d + 1) 61 _ _ _ _ _ _ _ _ ?_⟩
        simp (disch := omega) only [e7, e72, gdT, e9, n_in, o9, n_cl, n_sub]
        rw [x_applyL hN hk (by omega) h2 h3, bI_some, hv]
        have hd : L_X4_workOut_100 en (d + 1) 61 (lS τ 0 G) = some (some (.int (0 : Int32)), lS τ 1 G) := by
          refine le_X4_workOut_100 en (d + 1) 61 _ _ ?_
          simp only [e7, gdT, nm_eq, lS_wb]
        rw [hd]
        by_cases q : 999 < v
        · rw [if_pos q]; rfl
        · rw [if_neg q, if_neg (Int32.not_le.mpr (hbig.resolve_left q))]; rfl
      · rw [if_neg hbig]
        obtain ⟨G', hG⟩ := ih (i + 1) (top - ar k + 1) (upd G (top - ar k) v) (by omega) (by omega) hd2
        refine ⟨G', le_X4_workOut_63 en (d + 1) 61 _ _ _ _ _ _ _ _ ?_⟩
        simp (disch := omega) only [e7, e72, gdT, e9, n_in, o9, n_cl, n_sub]
        rw [x_applyL hN hk (by omega) h2 h3, bI_some, hv, if_neg (fun q => hbig (Or.inl q)), if_pos (Int32.not_lt.mp (fun q => hbig (Or.inr q)))]
        have eg : uI (lS τ 0 G) (61 + 3) (top - ar k) v = lS τ 0 (upd G (top - ar k) v) := lS_wg
        simp (disch := omega) only [e10, n_in, gdT, n_cl, nm_eq, eg, n_ar]
        exact hG
    have hcase : ar k = 0 ∧ k ≤ 3 ∨ ar k = 1 ∧ k = 4 ∨ ar k = 1 ∧ k = 33 ∨ ar k = 2 ∧ 4 < k ∧ k ≠ 33 := by
      unfold ar
      by_cases q1 : k ≤ 3
      · rw [if_pos q1]; exact Or.inl ⟨rfl, q1⟩
      · rw [if_neg q1]
        by_cases q2 : k = 4
        · rw [if_pos (Or.inl q2)]; exact Or.inr (Or.inl ⟨rfl, q2⟩)
        · by_cases q3 : k = 33
          · rw [if_pos (Or.inr q3)]; exact Or.inr (Or.inr (Or.inl ⟨rfl, q3⟩))
          · rw [if_neg (by omega)]; exact Or.inr (Or.inr (Or.inr ⟨rfl, by omega, q3⟩))
    obtain ⟨G', hG⟩ := key (ar k) rfl
    refine ⟨G', le_X4_workOut_18 en (d + 1) 61 _ _ _ _ _ _ ?_⟩
    simp (disch := omega) only [e7, e72, gdT, n_LE, if_neg, e8, n_in, o8, n_cl, hOi, nm_eq, n_lt, n_eq]
    rcases hcase with ⟨q, r⟩ | ⟨q, r⟩ | ⟨q, r⟩ | ⟨q, r, r'⟩
    · rw [if_neg (by omega)]; rw [q] at hG; exact hG
    · rw [if_pos (by omega), if_pos r]; rw [q] at hG; exact hG
    · rw [if_pos (by omega), if_neg (by omega), if_neg (by omega)]; rw [q] at hG; exact hG
    · rw [if_pos (by omega), if_neg (by omega), if_pos r']; rw [q] at hG; exact hG
/-- what the nodes from a to e come to -/
def lwE (O Q N : fI) (a e : Nat) : Option Int32 := wk O Q N (e - a) a (fun _ => 0) 0
/-- the fact holds -/
def lwT (O Q N : fI) (a e : Nat) : Bool := match lwE O Q N a e with
  | none => false
  | some v => decide (v ≠ 0)
theorem x_isTrue {a e : Nat} (hN : τ.1 72 = N) (hO : τ.1 62 = O) (hQ : τ.1 63 = Q) (ha : a ≤ e) (he : e ≤ 400) (hd : dpk O Q 236 (e - a) a 0) : ∃ (b' : Int32) (G' : fI), qev en (d + 3) 21 [.ref 103, .int (nI a), .int (nI e), .ref 72] (lS τ b G) = some (some (.int (bt (lwT O Q N a e))), lS τ b' G') := by
  obtain ⟨G', h⟩ := x_exLL (en := en) (d := d) hN hO hQ he (e - a) a 0 (upd G 0 0) (by omega) (by omega) hd
  have hw : wk O Q N (e - a) a (upd G 0 0) 0 = lwE O Q N a e := wk_ag _ _ _ _ _ hd (fun j hj => by omega) pk_us
  rw [hw] at h
  have e7 : lc 61 = 4 := rfl
  have e72 : lc 72 = 20 := rfl
  have e10 : ln (61 + 3) = 402 := rfl
  have w0 : p_inB 0 402 = true := rfl
  have h78 : qev en (d + 2) 78 [.ref 61, .int (nI a), .int (nI e), .ref 72] (lS τ b G) = some (some (.int (exr (lwE O Q N a e))), lS τ (exb (lwE O Q N a e)) G') := by
    refine le_X4_workOut en (d + 1) 61 _ _ _ _ _ ?_
    have eb : uI (lS τ b G) 61 4 0 = lS τ 0 G := lS_wb
    have eg : uI (lS τ 0 G) (61 + 3) 0 0 = lS τ 0 (upd G 0 0) := lS_wg
    simp only [e7, e72, gdT, nm_eq, eb, e10, w0, eg]
    exact h
  refine ⟨exb (lwE O Q N a e), G', le_X2_isTrue en _ _ _ _ _ _ ?_⟩
  rw [gd_true e72, h78, bI_some, lS_61, if_pos rfl]
  unfold lwT
  cases hx : lwE O Q N a e with
  | none =>
    show (if (0 : Int32) = 0 then _ else _) = _
    rw [if_pos rfl]; rfl
  | some x =>
    show (if x = 0 then _ else if ¬ (0 : Int32) = 0 then _ else _) = _
    by_cases q : x = 0
    · rw [if_pos q]
      show _ = some (some (Value.int (bt (decide (x ≠ 0)))), lS τ 0 G')
      rw [decide_eq_false (not_not_intro q)]; rfl
    · rw [if_neg q, if_neg (not_not_intro rfl)]
      show _ = some (some (Value.int (bt (decide (x ≠ 0)))), lS τ 0 G')
      rw [decide_eq_true q]; rfl
end LAW
