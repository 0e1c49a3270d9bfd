/-! ALL TURNS, the class's side: findings cleared, orders noted, quiet steps, whiles. -/
/-- the orders' row tells O -/
abbrev orX (g : fI) (O : Nat → Nat → Bool) : Prop := ∀ a, a < 4 → ∀ q, q < 32 → (g a).toBitVec.getLsbD q = O a q
section TX
variable {en : pN} {d p w nc nl nt n t u k a : Nat} {σ : qS} {P : Nat → fI} {F N G g : fI} {b sv lv : Int32} {O : Nat → Nat → Bool}
theorem mS_Ir {f : fI} (h1 : a ≠ 71) (h2 : a ≠ 72) (h3 : a ≠ 10) (h4 : a ≠ 7) : uIr (mS σ 71 F N b G) a f = mS (uIr σ a f) 71 F N b G := by
  refine Prod.ext (funext fun x => funext fun j => ?_) rfl
  show (if x = a then f j else if x = 71 then F j else if x = 71 + 1 then N j else if x = 10 then G j else if x = 7 ∧ j = 4 then b else σ.1 x j) = if x = 71 then F j else if x = 71 + 1 then N j else if x = 10 then G j else if x = 7 ∧ j = 4 then b else if x = a then f j else σ.1 x j
  by_cases q : x = a
  · rw [if_pos q, if_neg (by omega), if_neg (by omega), if_neg (by omega), if_neg (by omega), if_pos q]
  · rw [if_neg q, if_neg q]
theorem uIr_r {s : qS} {z : Nat} {f f' : fI} : uIr (uIr s z f) z f' = uIr s z f' := by
  refine Prod.ext (funext fun a => funext fun j => ?_) rfl
  show (if a = z then f' j else if a = z then f j else s.1 a j) = if a = z then f' j else s.1 a j
  by_cases q : a = z
  · rw [if_pos q, if_pos q]
  · rw [if_neg q, if_neg q, if_neg q]
theorem lo_bit {t q : Nat} (hq : q < 32) : ∀ l, l ≤ 32 → (loB N t l).toBitVec.getLsbD q = (decide (q < l) && decide (N (40 + q) = nI t)) := by
  intro l
  induction l with
  | zero => intro _; show (0 : Int32).toBitVec.getLsbD q = _; simp
  | succ l ih =>
    intro hl
    have e : loB N t (l + 1) = if N (40 + l) = nI t then loB N t l ||| ((1 : Int32) <<< (nI l &&& 31)) else loB N t l := rfl
    rw [e]
    by_cases c : N (40 + l) = nI t
    · rw [if_pos c, orb (by omega) hq, ih (by omega)]
      by_cases z : q = l
      · subst z; simp [c]
      · have : (q < l + 1) = (q < l) := propext ⟨fun y => by omega, fun y => by omega⟩
        simp [z, this]
    · rw [if_neg c, ih (by omega)]
      by_cases z : q = l
      · subst z; simp [c]
      · have : (q < l + 1) = (q < l) := propext ⟨fun y => by omega, fun y => by omega⟩
        simp [this]
/-- orders noted -/
theorem x_noteTaking (hB : XB σ 71 p P) (hP : PV P nc nl nt n) (hS : SV P w nc nl nt n N) (ht : t < nt) (h80 : σ.1 79 = g) (hg : orX g O) (ha : a / 10 = t) (h9 : a % 10 ≠ 9) : ∃ g', qev en (d + 2) 5 [.ref 76, .ref 71, .int (nI t)] (mS σ 71 F N b G) = some (none, mS (uIr σ 79 g') 71 F N b G) ∧ orX g' (ordO P nl N a O) := by
  have hl4 := hP.2.1.2
  have hn := hP.2.2.2.1.2
  have hla : laS P N t = -1 ∨ ∃ l, l < nl ∧ laS P N t = nI l := by
    unfold laS
    split
    · rename_i y
      right
      rcases y with y | ⟨y1, y2⟩
      · obtain ⟨⟨i, hi, e, -, k7⟩, -⟩ := sv_wok (hS.1.1 t ht) y
        have ei : clp (N (4 + t)) = i := by rw [e]; exact n_clp (by omega)
        obtain ⟨-, -, -, ho, -⟩ := hP.2.2.2.2.1 i hi
        rw [ei]; exact ⟨_, (ho (by omega) (by omega)).2, rfl⟩
      · obtain ⟨⟨i, hi, e, -⟩, -⟩ := sv_run (hS.1.1 t ht) y1
        have ei : clp (N (4 + t)) = i := by rw [e]; exact n_clp (by omega)
        rw [ei] at y2
        obtain ⟨-, -, -, ho, -⟩ := hP.2.2.2.2.1 i hi
        rw [ei]; exact ⟨_, (ho (by omega) (by omega)).2, rfl⟩
    · exact Or.inl rfl
  have oE : ∀ x q, ordO P nl N a O x q = (O x q || (decide (laS P N t = nI q) && decide (x < nl) && decide (x ≠ q) && decide (N (40 + x) = nI t) && decide (¬ N (40 + q) = nI t))) := fun x q => by
    unfold ordO
    rw [ha, decide_eq_true h9, Bool.true_and]
  have start : ∀ r, L_X0_noteTaking_16 en (d + 1) (laS P N t) (loB N t nl) 0 (mS σ 71 F N b G) = some r → qev en (d + 2) 5 [.ref 76, .ref 71, .int (nI t)] (mS σ 71 F N b G) = some r := by
    intro r hr
    refine le_X0_noteTaking en _ _ _ _ _ ?_
    rw [gd_true (xb_lm hB), x_lA hB hP hS.1 ht, bI_some, x_loB hB hP.2.1.1 hl4, bI_some]
    exact hr
  have eg : mS σ 71 F N b G = mS (uIr σ 79 g) 71 F N b G := by rw [← h80, uIr_i]
  rcases hla with hl | ⟨l, hl, el⟩
  · refine ⟨g, start _ ?_, fun x hx q hq => ?_⟩
    · rw [hl]
      refine le_X0_noteTaking_16 en _ _ _ _ _ _ ?_
      rw [if_neg (by decide), if_pos (by decide), eg]
    · rw [oE, hg x hx q hq, hl, decide_eq_false (show ¬ (-1 : Int32) = nI q by rw [n_1m (by omega)]; exact id), Bool.false_and, Bool.false_and, Bool.false_and, Bool.false_and, Bool.or_false]
  · -- one after another
    have loop : ∀ (m x : Nat) (g1 : fI), x + m = 4 → (∀ y, y < 4 → ∀ q, q < 32 → (g1 y).toBitVec.getLsbD q = if y < x then ordO P nl N a O y q else O y q) → ∃ g', L_X0_noteTaking_16 en (d + 1) (nI l) (loB N t nl) (nI x) (mS (uIr σ 79 g1) 71 F N b G) = some (none, mS (uIr σ 79 g') 71 F N b G) ∧ orX g' (ordO P nl N a O) := by
      intro m
      induction m with
      | zero =>
        intro x g1 hx h1
        refine ⟨g1, le_X0_noteTaking_16 en _ _ _ _ _ _ ?_, fun y hy q hq => by rw [h1 y hy q hq, if_pos (by omega)]⟩
        rw [if_pos (by rw [n_le (by decide) (by omega)]; omega)]
      | succ m ih =>
        intro x g1 hx h1
        have bx : (((loB N t nl) >>> (nI x &&& 31)) &&& (1 : Int32)) = if (decide (x < nl) && decide (N (40 + x) = nI t)) = true then 1 else 0 := by
          rw [bitI (by omega), lo_bit (by omega) nl (by omega)]
        have bl : (((loB N t nl) >>> (nI l &&& 31)) &&& (1 : Int32)) = if (decide (l < nl) && decide (N (40 + l) = nI t)) = true then 1 else 0 := by
          rw [bitI (by omega), lo_bit (by omega) nl (by omega)]
        have top : ∀ r, (if (((loB N t nl) >>> (nI x &&& 31)) &&& (1 : Int32)) = (0 : Int32) then L_X0_noteTaking_16 en (d + 1) (nI l) (loB N t nl) (nI (x + 1)) (mS (uIr σ 79 g1) 71 F N b G) else if ¬ (((loB N t nl) >>> (nI l &&& 31)) &&& (1 : Int32)) = (0 : Int32) then L_X0_noteTaking_16 en (d + 1) (nI l) (loB N t nl) (nI (x + 1)) (mS (uIr σ 79 g1) 71 F N b G) else L_X0_noteTaking_16 en (d + 1) (nI l) (loB N t nl) (nI (x + 1)) (mS (uIr σ 79 (upd g1 x (g1 x ||| ((1 : Int32) <<< (nI l &&& 31))))) 71 F N b G)) = some r → L_X0_noteTaking_16 en (d + 1) (nI l) (loB N t nl) (nI x) (mS (uIr σ 79 g1) 71 F N b G) = some r := by
          intro r hr
          refine le_X0_noteTaking_16 en _ _ _ _ _ _ ?_
          have e79 : (mS (uIr σ 79 g1) 71 F N b G).1 79 = g1 := (mS_o (by decide) (by decide) (by decide) (by decide)).trans uIr_row
          rw [if_neg (by rw [n_le (by decide) (by omega)]; omega), if_neg (nI_pos (by omega)), gd_true (n_in (by omega) (by decide)), nm_eq, n_cl (by omega), e79, mS_wo (by decide) (by decide) (by decide) (by decide), uIr_u, n_ar]
          exact hr
        -- what becomes of x's row
        have same : (∀ q, q < 32 → ordO P nl N a O x q = O x q) → ∀ y, y < 4 → ∀ q, q < 32 → (g1 y).toBitVec.getLsbD q = if y < x + 1 then ordO P nl N a O y q else O y q := by
          intro e y hy q hq
          rw [h1 y hy q hq]
          by_cases z : y < x
          · rw [if_pos z, if_pos (by omega)]
          · rw [if_neg z]
            by_cases z2 : y = x
            · rw [if_pos (by omega), z2, e q hq]
            · rw [if_neg (by omega)]
        by_cases c1 : (decide (x < nl) && decide (N (40 + x) = nI t)) = true
        · obtain ⟨c11, c12⟩ := Bool.and_eq_true_iff.mp c1
          have c11' := of_decide_eq_true c11
          have c12' := of_decide_eq_true c12
          by_cases c2 : N (40 + l) = nI t
          · obtain ⟨g', e1, e2⟩ := ih (x + 1) g1 (by omega) (same (fun q hq => by
              rw [oE, el]
              by_cases y : l = q
              · subst y
                rw [decide_eq_false (show ¬ ¬ N (40 + l) = nI t from fun z => z c2), Bool.and_false, Bool.or_false]
              · rw [decide_eq_false (show ¬ nI l = nI q by rw [n_EQ (by omega) (by omega)]; exact y), Bool.false_and, Bool.false_and, Bool.false_and, Bool.false_and, Bool.or_false]))
            refine ⟨g', top _ ?_, e2⟩
            rw [bx, if_pos c1, if_neg (by decide), bl, if_pos (show (decide (l < nl) && decide (N (40 + l) = nI t)) = true by rw [decide_eq_true hl, decide_eq_true c2]; rfl), if_pos (by decide)]
            exact e1
          · obtain ⟨g', e1, e2⟩ := ih (x + 1) (upd g1 x (g1 x ||| ((1 : Int32) <<< (nI l &&& 31)))) (by omega) (fun y hy q hq => by
              by_cases z : y = x
              · rw [z, pk_us, orb (by omega) hq, h1 x (by omega) q hq, if_neg (Nat.lt_irrefl x), if_pos (Nat.lt_succ_self x), oE, el]
                congr 1
                rw [c11, c12, Bool.and_true]
                by_cases y2 : q = l
                · subst y2
                  rw [decide_eq_true rfl, decide_eq_true rfl, decide_eq_true (show x ≠ q from fun w => c2 (w ▸ c12')), decide_eq_true c2]; rfl
                · rw [decide_eq_false y2, decide_eq_false (show ¬ nI l = nI q by rw [n_EQ (by omega) (by omega)]; exact fun w => y2 w.symm)]; rfl
              · rw [pk_un z, h1 y hy q hq]
                by_cases z2 : y < x
                · rw [if_pos z2, if_pos (by omega)]
                · rw [if_neg z2, if_neg (by omega)])
            refine ⟨g', top _ ?_, e2⟩
            rw [bx, if_pos c1, if_neg (by decide), bl, if_neg (show ¬ (decide (l < nl) && decide (N (40 + l) = nI t)) = true by rw [decide_eq_false c2, Bool.and_false]; decide), if_neg (by decide)]
            exact e1
        · obtain ⟨g', e1, e2⟩ := ih (x + 1) g1 (by omega) (same (fun q hq => by
            rw [oE]
            by_cases y : x < nl
            · have y2 : ¬ N (40 + x) = nI t := fun z => c1 (by rw [decide_eq_true y, decide_eq_true z]; rfl)
              rw [decide_eq_false y2, Bool.and_false, Bool.false_and, Bool.or_false]
            · rw [decide_eq_false y, Bool.and_false, Bool.false_and, Bool.false_and, Bool.false_and, Bool.or_false]))
          refine ⟨g', top _ ?_, e2⟩
          rw [bx, if_neg c1, if_pos rfl]
          exact e1
    rw [el] at start
    obtain ⟨g', e1, e2⟩ := loop 4 0 g rfl (fun y hy q hq => by rw [if_neg (Nat.not_lt_zero y)]; exact hg y hy q hq)
    exact ⟨g', start _ (by rw [eg]; exact e1), e2⟩
/-- quiet steps -/
theorem x_quiet (hB : XB σ 71 p P) (hP : PV P nc nl nt n) (hS : SV P w nc nl nt n N) : qev en (d + 1) 179 [.ref 70] (mS σ 71 F N b G) = some (some (.int (match qtF P N nt 0 with
    | some a => nI a
    | none => -1)), mS σ 71 F N b G) := by
  have ht4 := hP.2.2.1.2
  have hn := hP.2.2.2.1.2
  have h11 := hP.2.2.1.1
  have lp5 := xb_lp hB
  have er : (mS σ 71 F N b G).2.2 71 7 = p + 1 := xb_R hB
  have e0 : (mS σ 71 F N b G).1 p = P 0 := xb_P0 hB
  have e7 : (mS σ 71 F N b G).1 (p + 7) = P 7 := xb_P hB (by decide)
  have e72 : (mS σ 71 F N b G).1 72 = N := mS_n (m := 71)
  have loop : ∀ (m t : Nat), t + m = nt → L_X10_quietStep_2 en d (nI t) (mS σ 71 F N b G) = some (some (.int (match qtF P N m t with
      | some a => nI a
      | none => -1)), mS σ 71 F N b G) := by
    intro m
    induction m with
    | zero =>
      intro t ht
      obtain rfl : t = nt := by omega
      refine le_X10_quietStep_2 en _ _ _ _ ?_
      rw [er, show p + 1 - 1 = p from rfl, gdP lp5, nm_eq, e0, h11, if_pos (Int32.le_refl _)]
      rfl
    | succ m ih =>
      intro t ht
      refine le_X10_quietStep_2 en _ _ _ _ ?_
      have el : qtF P N (m + 1) t = if N t = 1 ∧ (kd P (clp (N (4 + t))) = 0 ∨ (13 ≤ kd P (clp (N (4 + t))) ∧ kd P (clp (N (4 + t))) ≤ 17)) then some (10 * t) else qtF P N m (t + 1) := rfl
      rw [el, er, show p + 1 - 1 = p from rfl, gdP lp5, nm_eq, e0, h11, if_neg (by rw [n_LE (by omega) (by omega)]; omega), n_al, gd_true (n_in (by show 0 + t < 236; omega) (by decide)), n_cl (by show 0 + t < _; omega), show (0 : Nat) + t = t from Nat.zero_add t, e72, n_ar]
      by_cases s1 : N t = 1
      · obtain ⟨⟨i, hi, e, -⟩, -⟩ := sv_run (hS.1.1 t (by omega)) s1
        obtain ⟨⟨k1, k2⟩, -⟩ := hP.2.2.2.2.1 i hi
        have ei : clp (N (4 + t)) = i := by rw [e]; exact n_clp (by omega)
        rw [if_neg (fun y => y s1), gdP lp5, nm_eq, n_al, gd_true (n_in (by show 4 + t < 236; omega) (by decide)), n_cl (by show 4 + t < _; omega), e, gd_true (n_in (by omega) (by decide)), nm_eq, e7, n_cl (by omega), k1, show clp (nI i) = i from n_clp (by omega), n_mr]
        by_cases c0 : kd P i = 0
        · rw [if_pos (by rw [c0]; rfl), if_pos ⟨s1, Or.inl c0⟩, Nat.mul_comm]
        · rw [if_neg (by rw [n_eq (by decide) (by omega)]; exact c0)]
          by_cases c1 : kd P i < 13
          · rw [if_pos (by rw [n_gt (by decide) (by omega)]; exact c1), if_neg (by omega)]
            exact ih (t + 1) (by omega)
          · rw [if_neg (by rw [n_gt (by decide) (by omega)]; exact c1)]
            by_cases c2 : 17 < kd P i
            · rw [if_pos (by rw [n_lt (by decide) (by omega)]; exact c2), if_neg (by omega)]
              exact ih (t + 1) (by omega)
            · rw [if_neg (by rw [n_lt (by decide) (by omega)]; exact c2), if_pos ⟨s1, Or.inr ⟨by omega, by omega⟩⟩, Nat.mul_comm]
      · rw [if_pos s1, if_neg (fun y => s1 y.1)]
        exact ih (t + 1) (by omega)
  exact le_X10_quietStep en d _ _ (loop nt 0 (by omega))
/-- a while's step -/
theorem x_isWhile {x : Int32} (hB : XB σ 71 p P) (hP : PV P nc nl nt n) (hx : x = -2 ∨ ∃ i, i < n ∧ x = nI i) : qev en (d + 1) 181 [.ref 70, .int x] (mS σ 71 F N b G) = some (some (.int (bt (decide (¬ x = -2) && decide (kd P (clp x) = 18)))), mS σ 71 F N b G) := by
  have hn := hP.2.2.2.1.2
  have lp5 := xb_lp hB
  have er : (mS σ 71 F N b G).2.2 71 7 = p + 1 := xb_R hB
  have e7 : (mS σ 71 F N b G).1 (p + 7) = P 7 := xb_P hB (by decide)
  refine le_X10_isWhile en _ _ _ _ ?_
  rcases hx with rfl | ⟨i, hi, rfl⟩
  · rw [if_pos (by decide), decide_eq_false (fun y => y rfl)]; rfl
  · obtain ⟨⟨k1, k2⟩, -⟩ := hP.2.2.2.2.1 i hi
    rw [if_neg (nI_pos (by omega)), er, show p + 1 - 1 = p from rfl, gdP lp5, nm_eq, gd_true (n_in (by omega) (by decide)), n_cl (by omega), e7, k1, show clp (nI i) = i from n_clp (by omega), decide_eq_true (by rw [n_m2 (by omega)]; exact id), Bool.true_and]
    by_cases q : kd P i = 18
    · rw [if_neg (fun y => y (by rw [q]; rfl)), decide_eq_true q]; rfl
    · rw [if_pos (by rw [n_eq (by decide) (by omega)]; exact q), decide_eq_false q]; rfl
def clrF (s : qS) (nl : Nat) : qS :=
  let s1 := uIr s 77 (flI (s.1 77) (-1) (ln 77))
  let s2 := uIr s1 78 (flI (s1.1 78) (((1 : Int32) <<< (nI nl &&& 31)) - 1) (ln 78))
  let s3 := uIr s2 79 (flI (s2.1 79) 0 (ln 79))
  let s4 := uIr s3 80 (flI (s3.1 80) (-2) (ln 80))
  uI (uI (uI s4 80 0 0) 80 3 0) 76 6 0
/-- all findings gone -/
theorem x_clearF {s : qS} (hp : lc p = 5) (h10 : s.1 p 10 = nI nl) : ∃ s', qev en (d + 2) 1 [.ref 76, .ref p] s = some (none, s') ∧ (∀ x, x ≠ 76 → x ≠ 77 → x ≠ 78 → x ≠ 79 → x ≠ 80 → s'.1 x = s.1 x) ∧ s'.2 = s.2 ∧ (∀ z, z < 10000 → s'.1 77 z = -1) ∧ s'.1 76 6 = 0 ∧ (∀ c, c < 8 → s'.1 78 c = ((1 : Int32) <<< (nI nl &&& 31)) - 1) ∧ (∀ c, c < 4 → s'.1 79 c = 0) ∧ (∀ c, c < 5 → s'.1 80 c = if c = 0 ∨ c = 3 then 0 else -2) := by
  by_cases hp2 : p = 77 ∨ p = 78 ∨ p = 79 ∨ p = 80 ∨ p = 76
  · rcases hp2 with rfl | rfl | rfl | rfl | rfl <;> exact absurd hp (by decide)
  have n77 : p ≠ 77 := fun y => hp2 (Or.inl y)
  refine ⟨clrF s nl, le_X0_clear en (d + 1) _ _ _ ?_, ?_⟩
  · unfold clrF
    rw [gd_true hp, x_fillI (z := 77) rfl (by decide), bV_some, uIr_ne n77, h10, x_fillI (z := 78) rfl (by decide), bV_some, x_fillI (z := 79) rfl (by decide), bV_some, x_fillI (z := 80) rfl (by decide), bV_some, nm_eq, nm_eq, nm_eq]
  · have L77 : ln 77 = 10000 := rfl
    have L78 : ln 78 = 8 := rfl
    have L79 : ln 79 = 4 := rfl
    have L80 : ln 80 = 5 := rfl
    unfold clrF
    dsimp only
    refine ⟨fun x h1 h2 h3 h4 h5 => by rw [uI_ne h1, uI_ne h5, uI_ne h5, uIr_ne h5, uIr_ne h4, uIr_ne h3, uIr_ne h2], rfl, fun z hz => ?_, by rw [g_I, if_pos ⟨rfl, rfl⟩], fun c hc => ?_, fun c hc => ?_, fun c hc => ?_⟩
    · rw [uI_ne (by decide), uI_ne (by decide), uI_ne (by decide), uIr_ne (by decide), uIr_ne (by decide), uIr_ne (by decide), uIr_row, L77]
      exact if_pos hz
    · rw [uI_ne (by decide), uI_ne (by decide), uI_ne (by decide), uIr_ne (by decide), uIr_ne (by decide), uIr_row, L78]
      exact if_pos hc
    · rw [uI_ne (by decide), uI_ne (by decide), uI_ne (by decide), uIr_ne (by decide), uIr_row, L79]
      exact if_pos hc
    · rw [uI_ne (by decide), g_I, g_I, uIr_row, L80]
      by_cases q3 : c = 3
      · rw [if_pos ⟨rfl, q3⟩, if_pos (Or.inr q3)]
      · rw [if_neg (fun y => q3 y.2)]
        by_cases q0 : c = 0
        · rw [if_pos ⟨rfl, q0⟩, if_pos (Or.inl q0)]
        · rw [if_neg (fun y => q0 y.2), if_neg (fun y => y.elim q0 q3)]
          exact if_pos hc
end TX

