/-! EXPRESSIONS worked out by the class. -/
/-- the operators: 0 nothing is taken, 1 one value, 2 two -/
def ar (k : Nat) : Nat := if k ≤ 3 then 0 else if k = 4 ∨ k = 33 then 1 else 2
def opL : List Nat := [1, 2, 3, 4, 33, 38, 42, 43, 45, 60, 62, 124, 161, 188, 189, 190]
/-- what comes of one -/
def ap (k : Nat) (q a b : Int32) (N : fI) : Int32 :=
  if k = 1 then q else if k = 2 then N q.toNatClampNeg else if k = 3 then (if ¬ N (q / 8).toNatClampNeg = q - q / 8 * 8 then 0 else 1)
  else if k = 4 then -a else if k = 33 then (if ¬ a = 0 then 0 else 1) else if k = 38 then (if a = 0 then 0 else if b = 0 then 0 else 1)
  else if k = 42 then a * b else if k = 43 then a + b else if k = 45 then a - b else if k = 60 then (if b ≤ a then 0 else 1)
  else if k = 62 then (if a ≤ b then 0 else 1) else if k = 124 then (if ¬ a = 0 then 1 else if b = 0 then 0 else 1)
  else if k = 161 then (if a = b then 0 else 1) else if k = 188 then (if b < a then 0 else 1) else if k = 189 then (if ¬ a = b then 0 else 1) else (if a < b then 0 else 1)
/-- n nodes from i on, top values lying on the pile f -/
def wk (O Q N : fI) : Nat → Nat → fI → Nat → Option Int32
  | 0, _, f, _ => some (f 0)
  | n + 1, i, f, top =>
    let tp := top - ar (O i).toNatClampNeg
    let v := ap (O i).toNatClampNeg (Q i) (f tp) (f (tp + 1)) N
    if 999 < v ∨ v < -999 then none else wk O Q N n (i + 1) (upd f tp v) (tp + 1)
/-- the nodes are such that there are always values enough -/
def dpk (O Q : fI) (W : Nat) : Nat → Nat → Nat → Prop
  | 0, _, _ => True
  | n + 1, i, top => (∃ k ∈ opL, O i = nI k ∧ ar k ≤ top ∧ (k = 2 → ∃ q, Q i = nI q ∧ q < W) ∧ (k = 3 → ∃ q, Q i = nI q ∧ q / 8 < W)) ∧ dpk O Q W n (i + 1) (top - ar (O i).toNatClampNeg + 1)
theorem op_lt : ∀ k ∈ opL, k < 256 := by decide
theorem ap_4 {q a b : Int32} {N : fI} : ap 4 q a b N = -a := rfl
theorem ap_33 {q a b : Int32} {N : fI} : ap 33 q a b N = if ¬ a = 0 then 0 else 1 := rfl
theorem ap_ag {k top : Nat} {q : Int32} {f g N : fI} (hk : k ∈ opL) (ha : ar k ≤ top) (h : ∀ j, j < top → f j = g j) : ap k q (f (top - ar k)) (f (top - ar k + 1)) N = ap k q (g (top - ar k)) (g (top - ar k + 1)) N := by
  have ha' : ar k = 0 ∨ ar k = 1 ∨ ar k = 2 := by
    unfold ar
    by_cases q1 : k ≤ 3
    · rw [if_pos q1]; exact Or.inl rfl
    · rw [if_neg q1]
      by_cases q2 : k = 4 ∨ k = 33
      · rw [if_pos q2]; exact Or.inr (Or.inl rfl)
      · rw [if_neg q2]; exact Or.inr (Or.inr rfl)
  rcases ha' with q | q | q
  · have h3 : k ≤ 3 := by
      unfold ar at q
      split at q
      · assumption
      · split at q <;> omega
    unfold ap
    by_cases k1 : k = 1
    · rw [if_pos k1, if_pos k1]
    · by_cases k2 : k = 2
      · rw [if_neg k1, if_neg k1, if_pos k2, if_pos k2]
      · by_cases k3 : k = 3
        · rw [if_neg k1, if_neg k1, if_neg k2, if_neg k2, if_pos k3, if_pos k3]
        · exfalso
          have : k = 0 := by omega
          subst this
          exact absurd hk (by decide)
  · have h3 : k = 4 ∨ k = 33 := by
      unfold ar at q
      split at q
      · omega
      · split at q
        · assumption
        · omega
    rw [q, h (top - 1) (by omega)]
    rcases h3 with rfl | rfl
    · rw [ap_4, ap_4]
    · rw [ap_33, ap_33]
  · rw [q, h (top - 2) (by omega), h (top - 2 + 1) (by omega)]
theorem wk_ag {O Q N : fI} {W : Nat} : ∀ (n i top : Nat) (f g : fI), dpk O Q W n i top → (∀ j, j < top → f j = g j) → f 0 = g 0 → wk O Q N n i f top = wk O Q N n i g top := by
  intro n
  induction n with
  | zero => intro i top f g _ _ h0; exact congrArg some h0
  | succ n ih =>
    intro i top f g hd h h0
    obtain ⟨⟨k, hk, hO, ha, -, -⟩, h2⟩ := hd
    have hk' := op_lt k hk
    have hc : (O i).toNatClampNeg = k := by rw [hO]; exact n_cl (by omega)
    have e : ap (O i).toNatClampNeg (Q i) (f (top - ar (O i).toNatClampNeg)) (f (top - ar (O i).toNatClampNeg + 1)) N = ap (O i).toNatClampNeg (Q i) (g (top - ar (O i).toNatClampNeg)) (g (top - ar (O i).toNatClampNeg + 1)) N := by
      rw [hc]; exact ap_ag hk ha h
    unfold wk
    dsimp only
    rw [e]
    split
    · rfl
    · refine ih _ _ _ _ h2 (fun j hj => ?_) ?_
      · by_cases q : j = top - ar (O i).toNatClampNeg
        · rw [q, pk_us, pk_us]
        · rw [pk_un q, pk_un q]
          exact h j (by omega)
      · by_cases q : 0 = top - ar (O i).toNatClampNeg
        · rw [← q, pk_us, pk_us]
        · rw [pk_un q, pk_un q]
          exact h0
def exr (o : Option Int32) : Int32 := o.getD 0
def exb (o : Option Int32) : Int32 := match o with
  | none => 1
  | some _ => 0
def evl (P : Nat → fI) (N : fI) (a b : Nat) : Option Int32 := wk (P 25) (P 26) N (b - a) a (fun _ => 0) 0
theorem ite_1 {C : Prop} [Decidable C] {x y : Int32} {S : qS} : (if C then some (some (.int x), S) else some (some (.int y), S)) = (some (some (.int (if C then x else y)), S) : Option qR) := by split <;> rfl
theorem ite_2 {C D : Prop} [Decidable C] [Decidable D] {x y z : Int32} {S : qS} : (if C then some (some (.int x), S) else if D then some (some (.int y), S) else some (some (.int z), S)) = (some (some (.int (if C then x else if D then y else z)), S) : Option qR) := by
  split
  · rfl
  · exact ite_1
theorem n_d8 {z : Nat} (h : z < 2 ^ 31) : nI z / (8 : Int32) = nI (z / 8) := by
  have e : (nI z / (8 : Int32)).toInt = (nI (z / 8)).toInt := by
    rw [Int32.toInt_div, n_to h, n_to (by omega)]
    show ((z : Int).tdiv (8 : Int)).bmod (2 ^ 32) = _
    rw [show (8 : Int) = ((8 : Nat) : Int) from rfl, ← Int.ofNat_tdiv]
    rw [Int.bmod_eq_of_le (by omega) (by omega)]
  exact Int32.toInt_inj.mp e
section XE
variable {en : pN} {d m p t i n top : Nat} {v b : Int32} {σ : qS} {P : Nat → fI} {F N G : fI}
theorem x_apply {k tp : Nat} {q : Int32} (hB : XB σ m p P) (hk : k ∈ opL) (ht : tp < 501) (h2 : k = 2 → ∃ z, q = nI z ∧ z < 236) (h3 : k = 3 → ∃ z, q = nI z ∧ z / 8 < 236) : qev en (d + 1) 79 [.ref 7, .int (nI k), .int q, .int (nI tp), .ref (m + 1)] (mS σ m F N b G) = some (some (.int (ap k q (G tp) (G (tp + 1)) N)), mS σ m F N b G) := by
  refine le_X4_apply en d 7 _ _ _ _ _ _ ?_
  have e7 : lc 7 = 4 := rfl
  have e10 : ln (7 + 3) = 502 := rfl
  have eg : (mS σ m F N b G).1 (7 + 3) = G := mS_g hB.1
  simp (disch := omega) only [e7, xb_ln hB, e10, gdT, n_in, n_ar, n_cl, eg, nm_eq, mS_n, xb_nn hB]
  generalize mS σ m F N b G = S
  generalize G tp = x
  generalize G (tp + 1) = y
  rw [n_to (by have := op_lt k hk; omega)]
  simp only [opL, List.mem_cons, List.not_mem_nil, or_false] at hk
  rcases hk with rfl | rfl | rfl | rfl | rfl | rfl | rfl | rfl | rfl | rfl | rfl | rfl | rfl | rfl | rfl | rfl
  · rfl
  · obtain ⟨z, rfl, hz⟩ := h2 rfl
    exact (if_pos (n_in hz (by decide)))
  · obtain ⟨z, rfl, hz⟩ := h3 rfl
    have hz' : z < 2 ^ 31 := by omega
    show gd (p_inB ((0 : Int32) + nI z / (8 : Int32)) 236 = true) (if ¬ N ((0 : Int32) + nI z / (8 : Int32)).toNatClampNeg = nI z - nI z / (8 : Int32) * (8 : Int32) then some (some (Value.int (0 : Int32)), S) else some (some (Value.int (1 : Int32)), S)) = some (some (Value.int (if ¬ N (nI z / 8).toNatClampNeg = nI z - nI z / 8 * 8 then 0 else 1)), S)
    rw [n_d8 hz', Int32.zero_add, gd_true (n_in hz (by decide))]
    exact ite_1
  all_goals first | rfl | exact ite_1 | exact ite_2
theorem ar_le {k : Nat} : ar k ≤ 2 := by
  unfold ar; split
  · omega
  · split <;> omega
theorem x_exL {e : Nat} (hB : XB σ m p P) (he : e ≤ lmN P) : ∀ (n i top : Nat) (F N G : fI) (b : Int32), i + n = e → top ≤ i → dpk (P 25) (P 26) 236 n i top → ∃ G' : fI, L_X4_workOut_18 en (d + 1) 7 (nI e) (m + 1) (nI top) (nI i) (mS σ m F N 0 G) = some (some (.int (exr (wk (P 25) (P 26) N n i G top))), mS σ m F N (exb (wk (P 25) (P 26) N n i G top)) G') := by
  have h5 : lmN P ≤ 500 := hB.2.2.2.2.1.1
  intro n
  induction n with
  | zero =>
    intro i top F N G b hi ht hd
    refine ⟨G, le_X4_workOut_18 en (d + 1) 7 _ _ _ _ _ _ ?_⟩
    have e7 : lc 7 = 4 := rfl
    have e10 : ln (7 + 3) = 502 := rfl
    have eg : (mS σ m F N 0 G).1 (7 + 3) = G := mS_g hB.1
    have w0 : p_inB 0 502 = true := rfl
    simp (disch := omega) only [e7, xb_ln hB, gdT, n_LE, if_pos, e10, w0, eg]
    rfl
  | succ n ih =>
    intro i top F N G b hi ht hd
    obtain ⟨⟨k, hk, hO, ha, h2, h3⟩, hd2⟩ := hd
    have hk' := op_lt k hk
    have hck : (P 25 i).toNatClampNeg = k := by rw [hO]; exact n_cl (by omega)
    have a2 := @ar_le k
    rw [hck] at hd2
    have key : ∀ j : Nat, j = ar k → ∃ G' : fI, L_X4_workOut_63 en (d + 1) 7 (nI e) (m + 1) (nI i) (nI k) (nI top) (nI j) (mS σ m F N 0 G) = some (some (.int (exr (wk (P 25) (P 26) N (n + 1) i G top))), mS σ m F N (exb (wk (P 25) (P 26) N (n + 1) i G top)) G') := by
      intro j hj
      subst hj
      unfold wk
      dsimp only
      rw [hck]
      generalize hv : ap k (P 26 i) (G (top - ar k)) (G (top - ar k + 1)) N = v
      have e7 : lc 7 = 4 := rfl
      have e9 : ln (7 + 2) = 500 := rfl
      have e10 : ln (7 + 3) = 502 := rfl
      have o9 : (mS σ m F N 0 G).1 (7 + 2) i = P 26 i := xb_9 hB (by omega)
      by_cases hbig : 999 < v ∨ v < -999
      · rw [if_pos hbig]
        refine ⟨G, le_X4_workOut_63 en (d + 1) 7 _ _ _ _ _ _ _ _ ?_⟩
        simp (disch := omega) only [e7, xb_ln hB, gdT, e9, n_in, o9, n_cl, n_sub]
        rw [x_apply hB hk (by omega) h2 h3, bI_some, hv]
        have hd : L_X4_workOut_100 en (d + 1) 7 (mS σ m F N 0 G) = some (some (.int (0 : Int32)), mS σ m F N 1 G) := by
          refine le_X4_workOut_100 en (d + 1) 7 _ _ ?_
          simp only [e7, gdT, nm_eq, mS_wb hB.1]
        rw [hd]
        by_cases q : 999 < v
        · rw [if_pos q]; rfl
        · rw [if_neg q, if_neg (Int32.not_le.mpr (hbig.resolve_left q))]; rfl
      · rw [if_neg hbig]
        obtain ⟨G', hG⟩ := ih (i + 1) (top - ar k + 1) F N (upd G (top - ar k) v) b (by omega) (by omega) hd2
        refine ⟨G', le_X4_workOut_63 en (d + 1) 7 _ _ _ _ _ _ _ _ ?_⟩
        simp (disch := omega) only [e7, xb_ln hB, gdT, e9, n_in, o9, n_cl, n_sub]
        rw [x_apply hB hk (by omega) h2 h3, bI_some, hv, if_neg (fun q => hbig (Or.inl q)), if_pos (Int32.not_lt.mp (fun q => hbig (Or.inr q)))]
        have eg : uI (mS σ m F N 0 G) (7 + 3) (top - ar k) v = mS σ m F N 0 (upd G (top - ar k) v) := mS_wg hB.1
        simp (disch := omega) only [e10, n_in, gdT, n_cl, nm_eq, eg, n_ar]
        exact hG
    have hcase : ar k = 0 ∧ k ≤ 3 ∨ ar k = 1 ∧ k = 4 ∨ ar k = 1 ∧ k = 33 ∨ ar k = 2 ∧ 4 < k ∧ k ≠ 33 := by
      unfold ar
      by_cases q1 : k ≤ 3
      · rw [if_pos q1]; exact Or.inl ⟨rfl, q1⟩
      · rw [if_neg q1]
        by_cases q2 : k = 4
        · rw [if_pos (Or.inl q2)]; exact Or.inr (Or.inl ⟨rfl, q2⟩)
        · by_cases q3 : k = 33
          · rw [if_pos (Or.inr q3)]; exact Or.inr (Or.inr (Or.inl ⟨rfl, q3⟩))
          · rw [if_neg (by omega)]; exact Or.inr (Or.inr (Or.inr ⟨rfl, by omega, q3⟩))
    have e7 : lc 7 = 4 := rfl
    have e8 : ln (7 + 1) = 500 := rfl
    have o8 : (mS σ m F N 0 G).1 (7 + 1) i = P 25 i := xb_8 hB (by omega)
    obtain ⟨G', hG⟩ := key (ar k) rfl
    refine ⟨G', le_X4_workOut_18 en (d + 1) 7 _ _ _ _ _ _ ?_⟩
    simp (disch := omega) only [e7, xb_ln hB, gdT, n_LE, if_neg, e8, n_in, o8, n_cl, hO, nm_eq, n_lt, n_eq]
    rcases hcase with ⟨q, r⟩ | ⟨q, r⟩ | ⟨q, r⟩ | ⟨q, r, r'⟩
    · rw [if_neg (by omega)]; rw [q] at hG; exact hG
    · rw [if_pos (by omega), if_pos r]; rw [q] at hG; exact hG
    · rw [if_pos (by omega), if_neg (by omega), if_neg (by omega)]; rw [q] at hG; exact hG
    · rw [if_pos (by omega), if_neg (by omega), if_pos r']; rw [q] at hG; exact hG
theorem x_exp {a e : Nat} (hB : XB σ m p P) (ha : a ≤ e) (he : e ≤ lmN P) (hd : dpk (P 25) (P 26) 236 (e - a) a 0) : ∃ G' : fI, qev en (d + 2) 78 [.ref 7, .int (nI a), .int (nI e), .ref (m + 1)] (mS σ m F N b G) = some (some (.int (exr (evl P N a e))), mS σ m F N (exb (evl P N a e)) G') := by
  obtain ⟨G', h⟩ := x_exL (en := en) (d := d) hB he (e - a) a 0 F N (upd G 0 0) 0 (by omega) (by omega) hd
  have hw : wk (P 25) (P 26) N (e - a) a (upd G 0 0) 0 = evl P N a e := wk_ag _ _ _ _ _ hd (fun j hj => by omega) pk_us
  rw [hw] at h
  refine ⟨G', le_X4_workOut en (d + 1) 7 _ _ _ _ _ ?_⟩
  have e7 : lc 7 = 4 := rfl
  have e10 : ln (7 + 3) = 502 := rfl
  have w0 : p_inB 0 502 = true := rfl
  have eb : uI (mS σ m F N b G) 7 4 0 = mS σ m F N 0 G := mS_wb hB.1
  have eg : uI (mS σ m F N 0 G) (7 + 3) 0 0 = mS σ m F N 0 (upd G 0 0) := mS_wg hB.1
  simp only [e7, xb_ln hB, gdT, nm_eq, eb, e10, w0, eg]
  exact h
end XE

