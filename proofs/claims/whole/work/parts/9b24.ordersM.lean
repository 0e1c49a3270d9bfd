/-! CHANCES, the model's side: orders of threads. -/
/-- the thread with the greatest priority that can go -/
def bsT (c : Nat → Nat) (pr : Nat → Int32) : Nat → Option Nat
  | 0 => none
  | t + 1 => if 0 < c t ∧ (∀ e, bsT c pr t = some e → pr e < pr t) then some t else bsT c pr t
/-- the step chosen, step by step -/
def bstF (pr : Nat → Int32) : List Nat → Option Nat → Option Nat
  | [], b => b
  | a :: l, b => bstF pr l (if ∀ e, b = some e → pr (e / 10) < pr (a / 10) then some a else b)
/-- priorities tell the order -/
abbrev cmpP (nt : Nat) (pr : Nat → Int32) (L : Nat → Nat) : Prop := ∀ i j, i < j → j < nt → pr (L j) < pr (L i)
section CHM
variable {en : pN} {d nc nl nt n t k r m o q u : Nat} {P : Nat → fI} {σ σ' s : qS} {F N : fI} {L : Nat → Nat} {pr : Nat → Int32} {c : Nat → Nat}
theorem plcF_lt : ∀ f wh q, plcF u f wh q = some r → r < q + f := by
  intro f
  induction f with
  | zero => intro wh q h; cases h
  | succ f ih =>
    intro wh q h
    have e : plcF u (f + 1) wh q = if u.testBit q = true then plcF u f wh (q + 1) else if wh = 0 then some q else plcF u f (wh - 1) (q + 1) := rfl
    rw [e] at h
    by_cases h1 : u.testBit q = true
    · rw [if_pos h1] at h
      have := ih _ _ h; omega
    · rw [if_neg h1] at h
      by_cases h2 : wh = 0
      · rw [if_pos h2] at h; cases h; omega
      · rw [if_neg h2] at h
        have := ih _ _ h; omega
theorem m_place (hu : u < 2 ^ 16) (ht : t < 4) {left : Int32} : ∀ f wh q, q + f ≤ 9 → wh < 2 ^ 20 → plcF u f wh q = some r → ∀ x, L_X12_layOrder_7 en d left (nI (u ||| 2 ^ r)) (nI (t + 1)) (uI s 231 t (nI r)) = some x → L_X12_layOrder_40 en d left (nI u) (nI t) (nI wh) (nI q) s = some x := by
  intro f
  induction f with
  | zero => intro wh q _ _ h; cases h
  | succ f ih =>
    intro wh q hq hwh h x hx
    have e : plcF u (f + 1) wh q = if u.testBit q = true then plcF u f wh (q + 1) else if wh = 0 then some q else plcF u f (wh - 1) (q + 1) := rfl
    rw [e] at h
    have eb : ((nI u >>> (nI q &&& 31)) &&& (1 : Int32)) = if u.testBit q = true then 1 else 0 := by rw [bitI (by omega), nI_bit (by omega)]
    have ez : nI q + (1 : Int32) = nI (q + 1) := n_ar
    by_cases h1 : u.testBit q = true
    · rw [if_pos h1] at h eb
      refine le_X12_layOrder_40 en _ _ _ _ _ _ _ _ ?_
      rw [eb, if_pos rfl]
      refine le_X12_layOrder_55 en _ _ _ _ _ _ _ _ ?_
      rw [eb, if_pos (by decide), Int32.sub_zero, ez]
      exact ih wh (q + 1) (by omega) hwh h x hx
    · rw [if_neg h1] at h eb
      refine le_X12_layOrder_40 en _ _ _ _ _ _ _ _ ?_
      rw [eb, if_neg (by decide)]
      by_cases h2 : wh = 0
      · rw [if_pos h2] at h
        cases h
        rw [h2, if_pos (by decide), show (1 : Int32) = nI 1 from rfl, shl_nI (by omega) (by
          have : 2 ^ r ≤ 2 ^ 9 := Nat.pow_le_pow_right (by decide) (by omega)
          omega), Nat.one_mul, or_nI (by omega) (by
          have : 2 ^ r ≤ 2 ^ 9 := Nat.pow_le_pow_right (by decide) (by omega)
          omega), nm_eq, gd_true (n_in (by omega) (by decide)), nm_eq, n_cl (by omega), show nI t + nI 1 = nI (t + 1) from nI_add t 1]
        exact hx
      · rw [if_neg h2] at h
        rw [if_neg (by rw [show (0 : Int32) = nI 0 from rfl, n_LE (by omega) (by omega)]; omega)]
        refine le_X12_layOrder_55 en _ _ _ _ _ _ _ _ ?_
        rw [eb, if_neg (by decide), n_sr (by show 1 ≤ wh; omega), ez]
        exact ih (wh - 1) (q + 1) (by omega) (by omega) h x hx
theorem m_lay7o (hnt : nt ≤ 4) : ∀ (m t left u : Nat) (l pr' : List Nat) (s : qS), t + m = nt → l.length = t → left < 2 ^ 20 → u < 2 ^ 16 → s.1 151 18 = nI nt → (∀ i, i < t → s.1 231 i = nI (l.getD i 0)) → ordG nt m t left u l = some pr' → ∃ s', L_X12_layOrder_7 en d (nI left) (nI u) (nI t) s = some (none, s') ∧ (∀ i, i < nt → s'.1 231 i = nI (pr'.getD i 0)) ∧ (∀ c, c ≠ 231 → s'.1 c = s.1 c) ∧ s'.2 = s.2 := by
  intro m
  induction m with
  | zero =>
    intro t left u l pr' s ht hl hle hu h18 h231 h
    cases h
    refine ⟨s, le_X12_layOrder_7 en _ _ _ _ _ _ ?_, fun i hi => h231 i (by omega), fun _ _ => rfl, rfl⟩
    rw [h18, if_pos (by rw [n_LE (by omega) (by omega)]; omega)]
  | succ m ih =>
    intro t left u l pr' s ht hl hle hu h18 h231 h
    have e : ordG nt (m + 1) t left u l = match plcF u 9 (left % (nt - t)) 0 with
      | none => none
      | some q => ordG nt m (t + 1) (left / (nt - t)) (u ||| 2 ^ q) (l ++ [q]) := rfl
    rw [e] at h
    have hm : left % (nt - t) ≤ left := Nat.mod_le _ _
    have hdv : left / (nt - t) ≤ left := Nat.div_le_self _ _
    cases hp : plcF u 9 (left % (nt - t)) 0 with
    | none => rw [hp] at h; cases h
    | some q =>
      rw [hp] at h
      have h : ordG nt m (t + 1) (left / (nt - t)) (u ||| 2 ^ q) (l ++ [q]) = some pr' := h
      have hq := plcF_lt 9 _ 0 hp
      have hu' : u ||| 2 ^ q < 2 ^ 16 := Nat.or_lt_two_pow hu (Nat.pow_lt_pow_right (by decide) (by omega))
      obtain ⟨s', a1, a2, a3, a4⟩ := ih (t + 1) (left / (nt - t)) (u ||| 2 ^ q) (l ++ [q]) pr' (uI s 231 t (nI q)) (by omega) (by rw [List.length_append, hl]; rfl) (by omega) hu' (by rw [uI_ne (by decide)]; exact h18) (fun i hi => by
        rw [uI_row]
        by_cases z : i = t
        · rw [z, pk_us, List.getD_eq_getElem?_getD, List.getElem?_append_right (by omega), hl, Nat.sub_self]; rfl
        · rw [pk_un z, List.getD_eq_getElem?_getD, List.getElem?_append_left (by omega), ← List.getD_eq_getElem?_getD]; exact h231 i (by omega)) h
      refine ⟨s', le_X12_layOrder_7 en _ _ _ _ _ _ ?_, a2, fun c hc => (a3 c hc).trans (uI_ne hc), a4⟩
      have hne : ¬ nI (nt - t) = 0 := by rw [show (0 : Int32) = nI 0 from rfl, n_EQ (by omega) (by omega)]; omega
      have ediv : nI left / nI (nt - t) = nI (left / (nt - t)) := n_dv (by omega) (by omega)
      have emod : nI left - nI left / nI (nt - t) * nI (nt - t) = nI (left % (nt - t)) := by
        rw [ediv, n_mul, n_sub (Nat.div_mul_le_self _ _)]
        congr 1
        have := Nat.div_add_mod left (nt - t)
        rw [Nat.mul_comm] at this
        omega
      rw [h18, if_neg (by rw [n_LE (by omega) (by omega)]; omega), n_sub (by omega), gd_true hne, emod, nm_eq, gd_true hne, ediv, nm_eq]
      exact m_place hu (by omega) 9 _ 0 (by omega) (by omega) hp _ a1
/-- an order laid: priorities that tell it -/
theorem m_layO (hnt : nt ≤ 4) (ho : o < facN nt) (h18 : s.1 151 18 = nI nt) : ∃ s', qev en (d + 1) 380 [.ref 151, .int (nI o)] s = some (none, s') ∧ (cmpP nt (s'.1 231) (gtL (ordL nt o)) ∧ ∀ t, t < nt → 0 ≤ (s'.1 231 t).toInt ∧ (s'.1 231 t).toInt ≤ 4) ∧ (∀ c, c ≠ 231 → s'.1 c = s.1 c) ∧ s'.2 = s.2 := by
  have hfac : facN nt ≤ 24 := by
    have : nt = 0 ∨ nt = 1 ∨ nt = 2 ∨ nt = 3 ∨ nt = 4 := by omega
    rcases this with z | z | z | z | z <;> subst z <;> decide
  have hok := okO_all nt (by omega) o ho
  unfold okO at hok
  cases hp : ordP nt o with
  | none => rw [hp] at hok; cases hok
  | some pr' =>
    rw [hp] at hok
    have hok : (pr'.length == nt && (List.range nt).all (fun t => decide (pr'.getD t 0 < 4)) && (List.range nt).all (fun j => (List.range j).all (fun i => decide (pr'.getD ((ordL nt o).getD j 0) 0 < pr'.getD ((ordL nt o).getD i 0) 0)))) = true := hok
    rw [Bool.and_eq_true, Bool.and_eq_true] at hok
    obtain ⟨⟨k1, k2⟩, k3⟩ := hok
    rw [List.all_eq_true] at k2 k3
    have k2' : ∀ t, t < nt → pr'.getD t 0 < 4 := fun t ht => of_decide_eq_true (k2 t (List.mem_range.mpr ht))
    obtain ⟨s', a1, a2, a3, a4⟩ := m_lay7o (en := en) (d := d) hnt nt 0 o 0 [] pr' s (by omega) rfl (by omega) (by decide) h18 (fun i hi => absurd hi (Nat.not_lt_zero _)) hp
    obtain ⟨-, hPL⟩ := okPL_PL (ord_ok nt (by omega) o ho)
    refine ⟨s', le_X12_layOrder en _ _ _ _ a1, ⟨fun i j hij hj => ?_, fun t ht => ?_⟩, a3, a4⟩
    · have h1 := k3 j (List.mem_range.mpr hj)
      rw [List.all_eq_true] at h1
      have h2 := of_decide_eq_true (h1 i (List.mem_range.mpr hij))
      have b1 := hPL.1 i (by omega)
      have b2 := hPL.1 j hj
      have c1 := k2' _ b1
      have c2 := k2' _ b2
      rw [a2 _ b1, a2 _ b2, n_LT (by omega) (by omega)]
      exact h2
    · have := k2' t ht
      rw [a2 t ht, n_to (by omega)]
      omega
/-! the best of the steps -/
theorem bstF_app : ∀ (l l' : List Nat) (b : Option Nat), bstF pr (l ++ l') b = bstF pr l' (bstF pr l b) := by
  intro l
  induction l with
  | nil => intro l' b; rfl
  | cons a l ih => intro l' b; exact ih l' _
theorem bstF_blk {b : Option Nat} : ∀ m, m ≤ 10 → bstF pr ((List.range m).map (fun k => 10 * t + k)) b = if 0 < m ∧ (∀ e, b = some e → pr (e / 10) < pr t) then some (10 * t) else b := by
  intro m
  induction m with
  | zero => intro _; rw [if_neg (fun z => absurd z.1 (by decide))]; rfl
  | succ m ih =>
    intro hm
    rw [List.range_succ, List.map_append, bstF_app, ih (by omega)]
    generalize hY : (if 0 < m ∧ (∀ e, b = some e → pr (e / 10) < pr t) then some (10 * t) else b) = Y
    show (if ∀ e, Y = some e → pr (e / 10) < pr ((10 * t + m) / 10) then some (10 * t + m) else Y) = _
    rw [show (10 * t + m) / 10 = t by omega]
    by_cases q : ∀ e, b = some e → pr (e / 10) < pr t
    · have e1 : (if 0 < m + 1 ∧ (∀ e, b = some e → pr (e / 10) < pr t) then some (10 * t) else b) = some (10 * t) := if_pos ⟨by omega, q⟩
      rw [e1]
      by_cases m0 : 0 < m
      · have hY : Y = some (10 * t) := by rw [← hY]; exact if_pos ⟨m0, q⟩
        rw [hY]
        refine if_neg (fun z => ?_)
        have := z (10 * t) rfl
        rw [show 10 * t / 10 = t by omega] at this
        exact Int32.lt_irrefl this
      · have hY : Y = b := by rw [← hY]; exact if_neg (fun z => m0 z.1)
        have m0 : m = 0 := by omega
        rw [hY, m0, Nat.add_zero]
        exact if_pos q
    · have e1 : (if 0 < m + 1 ∧ (∀ e, b = some e → pr (e / 10) < pr t) then some (10 * t) else b) = b := if_neg (fun z => q z.2)
      have hY : Y = b := by rw [← hY]; exact if_neg (fun z => q z.2)
      rw [e1, hY]
      exact if_neg q
theorem bst_bsT (hP : PV P nc nl nt n) (hS : SV P 0 nc nl nt n N) : ∀ T, T ≤ nt → bstF pr (rdl P 0 N nt T) none = (bsT (fun t => chs P 0 N t nt) pr T).map (fun t => 10 * t) := by
  have ht4 := hP.2.2.1.2
  intro T
  induction T with
  | zero => intro _; rfl
  | succ T ih =>
    intro hT
    have hq : N (56 + T) = 0 := by
      rcases hS.2.2.2.2.1 T (by omega) with ⟨z, -⟩ | ⟨-, z, -⟩
      · exact absurd z (by decide)
      · exact z
    have h9 := ch_le hP hS (show T < nt by omega)
    have e : rdl P 0 N nt (T + 1) = rdl P 0 N nt T ++ (List.range (chs P 0 N T nt)).map (fun k => 10 * T + k) := by
      show rdl P 0 N nt T ++ rdT P 0 N nt T = _
      unfold rdT
      rw [if_pos hq, List.append_nil]
    have e2 : bsT (fun t => chs P 0 N t nt) pr (T + 1) = if 0 < chs P 0 N T nt ∧ (∀ e, bsT (fun t => chs P 0 N t nt) pr T = some e → pr e < pr T) then some T else bsT (fun t => chs P 0 N t nt) pr T := rfl
    rw [e, bstF_app, ih (by omega), bstF_blk _ (by omega), e2]
    have hiff : (0 < chs P 0 N T nt ∧ ∀ e, (bsT (fun t => chs P 0 N t nt) pr T).map (fun t => 10 * t) = some e → pr (e / 10) < pr T) ↔ (0 < chs P 0 N T nt ∧ ∀ e, bsT (fun t => chs P 0 N t nt) pr T = some e → pr e < pr T) := by
      cases hb : bsT (fun t => chs P 0 N t nt) pr T with
      | none => exact ⟨fun z => ⟨z.1, fun e h => (by cases h)⟩, fun z => ⟨z.1, fun e h => (by cases h)⟩⟩
      | some e0 =>
        constructor
        · intro z
          refine ⟨z.1, fun e h => ?_⟩
          cases h
          have := z.2 (10 * e0) rfl
          rw [show 10 * e0 / 10 = e0 by omega] at this
          exact this
        · intro z
          refine ⟨z.1, fun e h => ?_⟩
          cases h
          rw [show 10 * e0 / 10 = e0 by omega]
          exact z.2 e0 rfl
    by_cases q : 0 < chs P 0 N T nt ∧ ∀ e, bsT (fun t => chs P 0 N t nt) pr T = some e → pr e < pr T
    · rw [if_pos q, if_pos (hiff.mpr q)]; rfl
    · rw [if_neg q, if_neg (fun z => q (hiff.mp z))]
theorem bsT_some {e : Nat} : ∀ T, bsT c pr T = some e → e < T ∧ 0 < c e := by
  intro T
  induction T with
  | zero => intro h; cases h
  | succ T ih =>
    intro h
    have e2 : bsT c pr (T + 1) = if 0 < c T ∧ (∀ e, bsT c pr T = some e → pr e < pr T) then some T else bsT c pr T := rfl
    rw [e2] at h
    by_cases q : 0 < c T ∧ ∀ e, bsT c pr T = some e → pr e < pr T
    · rw [if_pos q] at h; cases h; exact ⟨by omega, q.1⟩
    · rw [if_neg q] at h
      have := ih h
      exact ⟨by omega, this.2⟩
/-- the best is the first of the order that can go -/
theorem bsT_pk (hL : PL nt L) (hc : cmpP nt pr L) : bsT c pr nt = (pkF c L nt 0).map L := by
  cases hp : pkF c L nt 0 with
  | none =>
    have h0 := pkF_none nt 0 hp
    have : ∀ T, T ≤ nt → bsT c pr T = none := by
      intro T
      induction T with
      | zero => intro _; rfl
      | succ T ih =>
        intro hT
        obtain ⟨i, hi, e⟩ := hL.2.2 T (by omega)
        have h1 := h0 i (Nat.zero_le _) (by omega)
        rw [e] at h1
        show (if 0 < c T ∧ (∀ e, bsT c pr T = some e → pr e < pr T) then some T else bsT c pr T) = none
        rw [if_neg (fun z => by omega)]
        exact ih (by omega)
    exact this nt (Nat.le_refl _)
  | some r =>
    obtain ⟨-, hr, hcr, hz⟩ := pkF_some nt 0 hp
    rw [Nat.zero_add] at hr
    have htn := hL.1 r hr
    -- all others that can go are behind it
    have hlow : ∀ t, t < nt → 0 < c t → t ≠ L r → pr t < pr (L r) := fun t ht hct hne => by
      obtain ⟨i, hi, e⟩ := hL.2.2 t ht
      have h1 : ¬ i < r := fun z => by
        have := hz i (Nat.zero_le _) z
        rw [e] at this; omega
      have h2 : i ≠ r := fun z => hne (by rw [← e, z])
      rw [← e]
      exact hc r i (by omega) hi
    have key : ∀ T, T ≤ nt → (L r < T → bsT c pr T = some (L r)) := by
      intro T
      induction T with
      | zero => intro _ h; omega
      | succ T ih =>
        intro hT h
        show (if 0 < c T ∧ (∀ e, bsT c pr T = some e → pr e < pr T) then some T else bsT c pr T) = some (L r)
        by_cases q : T = L r
        · rw [if_pos ⟨by rw [q]; exact hcr, fun e he => by
            obtain ⟨a, b⟩ := bsT_some T he
            rw [q]
            exact hlow e (by omega) b (by omega)⟩, q]
        · have hb := ih (by omega) (by omega)
          rw [if_neg (fun z => by
            have h1 := z.2 (L r) hb
            have h2 := hlow T (by omega) z.1 q
            exact Int32.lt_irrefl (Int32.lt_trans h1 h2))]
          exact hb
    exact key nt (Nat.le_refl _) htn
end CHM
