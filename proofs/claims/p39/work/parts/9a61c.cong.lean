/-! STEPS OF STATES THAT ARE ONE ARE ONE (by the texts of the steps alone). -/
/-- the nodes of a program's lines ask for places of a state alone -/
abbrev MBx (P : Nat → fI) (nc nl nt n : Nat) : Prop := ∀ i, i < n → ∀ r, r = 5 ∨ r = 7 → dpk (P 25) (P 26) 233 (clp (P (8 + r) i) - clp (P (7 + r) i)) (clp (P (7 + r) i)) 0
section CGA
variable {t i n w a c l u ch nc nl nt k o j q : Nat} {v x z : Int32} {N M : fI} {P : Nat → fI} {O Q : fI}
theorem cU {f g : fI} (h : eqS f g) : eqS (upd f j v) (upd g j v) := by
  intro b hb
  show (if b = j then v else f b) = if b = j then v else g b
  rw [h b hb]
theorem cg_ap {y a b : Int32} (h : eqS N M) (h2 : k = 2 → ∃ z, y = nI z ∧ z < 233) (h3 : k = 3 → ∃ z, y = nI z ∧ z / 8 < 233) : ap k y a b N = ap k y a b M := by
  unfold ap
  by_cases k1 : k = 1
  · rw [if_pos k1, if_pos k1]
  by_cases k2 : k = 2
  · obtain ⟨z, rfl, hz⟩ := h2 k2
    rw [if_neg k1, if_neg k1, if_pos k2, if_pos k2, n_cl (by omega), h z hz]
  by_cases k3 : k = 3
  · obtain ⟨z, rfl, hz⟩ := h3 k3
    rw [if_neg k1, if_neg k1, if_neg k2, if_neg k2, if_pos k3, if_pos k3, n_d8 (by omega), n_cl (by omega), h _ hz]
  rw [if_neg k1, if_neg k1, if_neg k2, if_neg k2, if_neg k3, if_neg k3]
theorem cg_wk (h : eqS N M) : ∀ (m i : Nat) (f : fI) (top : Nat), dpk O Q 233 m i top → wk O Q N m i f top = wk O Q M m i f top := by
  intro m
  induction m with
  | zero => intro i f top _; rfl
  | succ m ih =>
    intro i f top hd
    obtain ⟨⟨k, hk, hO, ha, h2, h3⟩, hd2⟩ := hd
    have hk' := op_lt k hk
    have hc : (O i).toNatClampNeg = k := by rw [hO]; exact n_cl (by omega)
    unfold wk
    dsimp only
    rw [hc] at hd2 ⊢
    rw [cg_ap h h2 h3]
    split
    · rfl
    · exact ih _ _ _ hd2
theorem cg_exv (hB : MBx P nc nl nt n) (h : eqS N M) (hi : i < n) {r : Nat} (hr : r = 5 ∨ r = 7) : exv P r N i = exv P r M i := cg_wk h _ _ _ _ (hB i hi r hr)
theorem cg_setl (h : eqS N M) : eqS (setl P N t i v) (setl P M t i v) := by
  unfold setl
  split
  · exact h
  · exact cU h
theorem setl_o (hl : P 10 i = -2 ∨ ∃ k, P 10 i = nI k ∧ k < 6) (ht : t < 4) (hj : 40 ≤ j) : setl P N t i v j = N j := by
  unfold setl
  split
  · rfl
  · rename_i g
    rcases hl with hl | ⟨k, hl, hk⟩
    · rw [hl] at g; exact absurd (by decide) g
    · rw [hl, n_cl (by omega)]
      exact if_neg (by omega)
theorem cg_gto (h : eqS N M) : eqS (gto N t x) (gto M t x) := cU (cU h)
theorem cg_lrn (h : eqS N M) (ht : t < 4) : eqS (lrn N t v) (lrn M t v) := by
  unfold lrn
  rw [h (224 + t) (by omega)]
  exact cU h
theorem cg_vew (h : eqS N M) (ht : t < 4) : eqS (vew N t c k) (vew M t c k) := by
  unfold vew
  rw [h (224 + t) (by omega)]
  exact cU h
theorem cg_wr1 {b : Bool} (h : eqS N M) (ht : t < 4) : eqS (wr1 w N t c k v b) (wr1 w M t c k v b) := by
  unfold wr1
  rw [h (224 + t) (by omega)]
  exact cU (cg_vew (cU (cU (cU h))) ht)
theorem cg_lok (h : eqS N M) (ht : t < 4) (hc : c < 8) (hb : w = 2 → clp (N (72 + c)) ≤ 9) : eqS (lok w P N t c ch) (lok w P M t c ch) := by
  unfold lok
  by_cases hw : w = 2
  · rw [if_pos hw, if_pos hw, ← h (72 + c) (by omega)]
    have := hb hw
    split
    · rw [h (152 + c * 9 + clp (N (72 + c)) - 1) (by omega)]
      exact cg_lrn h ht
    · rw [h (224 + t) (by omega)]
      exact cg_vew h ht
  · rw [if_neg hw, if_neg hw]; exact h
theorem cg_lal (h : eqS N M) (ht : t < 4) (hc : c < 8) (hb : w = 2 → clp (N (72 + c)) ≤ 9) : eqS (lal w N t c) (lal w M t c) := by
  unfold lal
  by_cases hw : w = 2
  · rw [if_pos hw, if_pos hw, ← h (72 + c) (by omega)]
    have := hb hw
    rw [h (152 + c * 9 + (clp (N (72 + c)) - 1)) (by omega)]
    exact cg_lrn (cg_vew h ht) ht
  · rw [if_neg hw, if_neg hw]; exact h
theorem cg_wrt {b : Bool} (h : eqS N M) (ht : t < 4) (hc : c < 8) : eqS (wrt w N t c v b) (wrt w M t c v b) := by
  unfold wrt
  rw [h (72 + c) (by omega)]
  split
  · exact cg_wr1 h ht
  · exact cU h
theorem cg_sto (h : eqS N M) (ht : t < 4) (hc : c < 8) : eqS (sto w P N t c v) (sto w P M t c v) := by
  unfold sto
  rw [h (56 + t) (by omega)]
  split
  · exact cU (cU h)
  · exact cg_wrt h ht hc
theorem cg_flu (h : eqS N M) (ht : t < 4) : eqS (flu N t c v) (flu M t c v) := by
  unfold flu
  rw [h (60 + t * 3 + 1) (by omega), h (60 + t * 3 + 2) (by omega), h (56 + t) (by omega)]
  exact cU (cU (cU (cU (cU h))))
theorem cg_ldq (h : eqS N M) (ht : t < 4) (hc : c < 8) : ∀ k, k ≤ 3 → ldq N t c k = ldq M t c k := by
  intro k
  induction k with
  | zero => intro _; exact h (48 + c) (by omega)
  | succ k ih =>
    intro hk
    unfold ldq
    rw [h (60 + t * 3 + k) (by omega), ih (by omega)]
theorem cg_ldb (h : eqS N M) (ht : t < 4) (hc : c < 8) (hq : clp (N (56 + t)) ≤ 3) (hb : w = 2 → vol P c = false → nb (N (224 + t)) c + ch < 9) : ldb w P N t c ch = ldb w P M t c ch := by
  unfold ldb
  rw [← h (224 + t) (by omega), ← h (56 + t) (by omega)]
  split
  · rename_i g
    have := hb g.1 g.2
    exact h _ (by omega)
  · exact cg_ldq h ht hc _ hq
theorem cg_lev (h : eqS N M) (ht : t < 4) (hl : l < 4) : eqS (lev N t l) (lev M t l) := by
  unfold lev
  rw [h (44 + l) (by omega), h (224 + t) (by omega)]
  split
  · exact cU (cU h)
  · exact cU h
theorem cg_wtf (h : eqS N M) (hu : u < 4) : wtf P N u l = wtf P M u l := by
  unfold wtf
  rw [h u (by omega), h (4 + u) (by omega)]
theorem cg_wts (h : eqS N M) : ∀ m, m ≤ 4 → wts P N l m = wts P M l m := by
  intro m
  induction m with
  | zero => intro _; rfl
  | succ m ih =>
    intro hm
    unfold wts
    rw [ih (by omega), cg_wtf h (by omega)]
theorem cg_wak {co : Option Nat} (h : eqS N M) : ∀ m, m ≤ 4 → eqS (wak P N l co m) (wak P M l co m) := by
  intro m
  induction m with
  | zero => intro _; exact h
  | succ m ih =>
    intro hm
    unfold wak
    rw [cg_wts h m (by omega), cg_wtf h (show m < 4 by omega)]
    split
    · exact cU (ih (by omega))
    · exact ih (by omega)
theorem cg_tkb (h : eqS N M) (ht : t < 4) (hl : l < 4) : eqS (tkb N t l x) (tkb M t l x) := by
  unfold tkb
  rw [h (12 + t) (by omega), h (228 + l) (by omega)]
  exact cg_gto (cg_lrn (cU (cU (cU h))) ht)
theorem cg_tou (hB : MBx P nc nl nt n) (h : eqS N M) (ht : t < 4) (hc : c < 8) (hi : i < n) (hl : P 10 i = -2 ∨ ∃ k, P 10 i = nI k ∧ k < 6) (hq : clp (N (56 + t)) ≤ 3) (hb : w = 2 → clp (N (72 + c)) ≤ 9) (hv : k = 1 → w = 2 → vol P c = false → nb (N (224 + t)) c + ch < 9) : (touS w P N t c ch i k).1 = (touS w P M t c ch i k).1 ∧ eqS (touS w P N t c ch i k).2 (touS w P M t c ch i k).2 := by
  unfold touS
  by_cases k1 : k = 1
  · rw [if_pos k1, if_pos k1]
    refine ⟨rfl, ?_⟩
    show eqS (lok w P (setl P N t i (ldb w P N t c ch)) t c ch) (lok w P (setl P M t i (ldb w P M t c ch)) t c ch)
    rw [cg_ldb h ht hc hq (hv k1)]
    exact cg_lok (cg_setl h) ht hc (fun z => by rw [setl_o hl ht (by omega)]; exact hb z)
  rw [if_neg k1, if_neg k1, cg_exv hB h hi (Or.inl rfl), cg_exv hB h hi (Or.inr rfl)]
  cases exv P 5 M i with
  | none => exact ⟨rfl, h⟩
  | some y =>
    dsimp only
    by_cases k0 : k = 0
    · rw [if_pos k0, if_pos k0]; exact ⟨rfl, cg_setl h⟩
    rw [if_neg k0, if_neg k0]
    by_cases k2 : k = 2
    · rw [if_pos k2, if_pos k2]; exact ⟨rfl, cg_sto h ht hc⟩
    rw [if_neg k2, if_neg k2]
    by_cases k3 : k = 3
    · rw [if_pos k3, if_pos k3]
      cases exv P 7 M i with
      | none => exact ⟨rfl, h⟩
      | some y' =>
        refine ⟨rfl, ?_⟩
        show eqS (swp w P N t c i y y') (swp w P M t c i y y')
        unfold swp
        rw [h (48 + c) (by omega)]
        split
        · exact cg_setl (cg_wrt (cg_lal h ht hc hb) ht hc)
        · exact cg_setl (cg_lal h ht hc hb)
    · rw [if_neg k3, if_neg k3]
      unfold add2
      rw [h (48 + c) (by omega)]
      split
      · exact ⟨rfl, h⟩
      · exact ⟨rfl, cg_setl (cg_wrt (cg_lal h ht hc hb) ht hc)⟩
theorem cg_lck (h : eqS N M) (ht : t < 4) (hl : l < 4) (hnt : nt ≤ 4) : (lckS P N t l ch k nt).1 = (lckS P M t l ch k nt).1 ∧ eqS (lckS P N t l ch k nt).2 (lckS P M t l ch k nt).2 := by
  unfold lckS
  rw [h (44 + l) (by omega), h (228 + l) (by omega), h (40 + l) (by omega)]
  split
  · split
    · exact ⟨rfl, h⟩
    · exact ⟨rfl, cg_lrn (cU (cU h)) ht⟩
  · split
    · exact ⟨rfl, h⟩
    · split
      · exact ⟨rfl, cg_lev (cU h) ht hl⟩
      · split
        · exact ⟨rfl, cg_lev (cU (cU (cU h))) ht hl⟩
        · exact ⟨rfl, cg_wak h _ hnt⟩
theorem cg_met (h : eqS N M) (ht : t < 4) (hu : k = 10 ∨ k = 11 → u < 4) : (metS P N t u k).1 = (metS P M t u k).1 ∧ eqS (metS P N t u k).2 (metS P M t u k).2 := by
  unfold metS
  rw [h (224 + t) (by omega), h 232 (by omega)]
  by_cases k1 : k = 10
  · have := hu (Or.inl k1)
    rw [if_pos k1, if_pos k1, h u (by omega)]
    split
    · exact ⟨rfl, h⟩
    · exact ⟨rfl, cU (cg_gto h)⟩
  rw [if_neg k1, if_neg k1]
  by_cases k2 : k = 11
  · have := hu (Or.inr k2)
    rw [if_pos k2, if_pos k2, h (224 + u) (by omega)]
    exact ⟨rfl, cg_lrn h ht⟩
  rw [if_neg k2, if_neg k2]
  split
  · exact ⟨rfl, cU (cg_lrn h ht)⟩
  · exact ⟨rfl, h⟩
theorem cg_tel (hB : MBx P nc nl nt n) (h : eqS N M) (hi : i < n) : telS P N i k = telS P M i k := by
  unfold telS
  rw [cg_exv hB h hi (Or.inl rfl)]
theorem cg_tgt (hB : MBx P nc nl nt n) (h : eqS N M) (hi : i < n) : tgtS P N i k = tgtS P M i k := by
  unfold tgtS
  rw [cg_exv hB h hi (Or.inl rfl)]
theorem act_4 (K : fI) (h : k ≤ 4) : actS w P K t ch nt i o k = touS w P K t o ch i k := if_pos h
theorem act_9 (K : fI) (h : ¬ k ≤ 4) (h' : k ≤ 9) : actS w P K t ch nt i o k = lckS P K t o ch k nt := (if_neg h).trans (if_pos h')
theorem act_13 (K : fI) (h : ¬ k ≤ 4) (h' : ¬ k ≤ 9) (g : k ≤ 13) : actS w P K t ch nt i o k = metS P K t o k := (if_neg h).trans ((if_neg h').trans (if_pos g))
theorem act_18 (K : fI) (h : ¬ k ≤ 4) (h' : ¬ k ≤ 9) (g : ¬ k ≤ 13) : actS w P K t ch nt i o k = (telS P K i k, K) := (if_neg h).trans ((if_neg h').trans (if_neg g))
theorem tou_0 (K : fI) (h : k = 0) : touS w P K t c ch i k = match exv P 5 K i with
    | none => (1, K)
    | some v => (0, setl P K t i v) := by
  subst h
  rfl
theorem cg_act (hB : MBx P nc nl nt n) (h : eqS N M) (ht : t < 4) (hi : i < n) (hnt : nt ≤ 4) (hl : P 10 i = -2 ∨ ∃ k, P 10 i = nI k ∧ k < 6) (ho : o < 8) (ho2 : 5 ≤ k → k ≤ 9 → o < 4) (ho3 : k = 10 ∨ k = 11 → o < 4) (hq : clp (N (56 + t)) ≤ 3) (hb : 1 ≤ k → k ≤ 4 → w = 2 → clp (N (72 + o)) ≤ 9) (hv : k = 1 → w = 2 → vol P o = false → nb (N (224 + t)) o + ch < 9) : (actS w P N t ch nt i o k).1 = (actS w P M t ch nt i o k).1 ∧ eqS (actS w P N t ch nt i o k).2 (actS w P M t ch nt i o k).2 := by
  by_cases k4 : k ≤ 4
  · rw [act_4 N k4, act_4 M k4]
    by_cases k0 : k = 0
    · rw [tou_0 N k0, tou_0 M k0, cg_exv hB h hi (Or.inl rfl)]
      cases exv P 5 M i with
      | none => exact ⟨rfl, h⟩
      | some y => exact ⟨rfl, cg_setl h⟩
    · exact cg_tou hB h ht ho hi hl hq (hb (by omega) k4) hv
  by_cases k9 : k ≤ 9
  · rw [act_9 N k4 k9, act_9 M k4 k9]; exact cg_lck h ht (ho2 (by omega) k9) hnt
  by_cases k13 : k ≤ 13
  · rw [act_13 N k4 k9 k13, act_13 M k4 k9 k13]; exact cg_met h ht ho3
  rw [act_18 N k4 k9 k13, act_18 M k4 k9 k13]
  exact ⟨cg_tel hB h hi, h⟩
theorem cg_lin (hB : MBx P nc nl nt n) (h : eqS N M) (ht : t < 4) (hi : i < n) (hnt : nt ≤ 4) (hl : P 10 i = -2 ∨ ∃ k, P 10 i = nI k ∧ k < 6) (ho : o < 8) (ho2 : 5 ≤ k → k ≤ 9 → o < 4) (ho3 : k = 10 ∨ k = 11 → o < 4) (hq : clp (N (56 + t)) ≤ 3) (hb : 1 ≤ k → k ≤ 4 → w = 2 → clp (N (72 + o)) ≤ 9) (hv : k = 1 → w = 2 → vol P o = false → nb (N (224 + t)) o + ch < 9) : eqS (linS w P N t ch nt i o k) (linS w P M t ch nt i o k) := by
  obtain ⟨e1, e2⟩ := cg_act (ch := ch) hB h ht hi hnt hl ho ho2 ho3 hq hb hv
  unfold linS
  rw [e1, e2 t (by omega), cg_tgt hB h hi]
  split
  · exact cU (cU (cU e2))
  · split
    · exact cg_gto e2
    · exact e2
/-- what is known of a line -/
theorem cg_ln (hP : PV P nc nl nt n) (hi : i < n) : (1 ≤ kd P i → kd P i ≤ 4 → ob P i < nc) ∧ (5 ≤ kd P i → kd P i ≤ 9 → ob P i < 4) ∧ (kd P i = 10 ∨ kd P i = 11 → ob P i < 4) ∧ (P 10 i = -2 ∨ ∃ k, P 10 i = nI k ∧ k < 6) := by
  obtain ⟨⟨hc0, hc8⟩, ⟨-, hl4⟩, ⟨ht0, ht4⟩, ⟨-, hn100⟩, hln, hlt⟩ := hP
  have h := hln i hi
  have hl := ln_of h (fun t ht => (hlt t ht).2.2)
  obtain ⟨-, -, h1, h2, h3, -⟩ := h
  exact ⟨fun a b => (h1 a b).2, fun a b => Nat.lt_of_lt_of_le (h2 a b).2 hl4, fun a => Nat.lt_of_lt_of_le (h3 a).2 ht4, hl⟩
theorem cg_chs (en : pN) (hB : MBx P nc nl nt n) (hP : PV P nc nl nt n) (hS : SV P w nc nl nt n N) (hM : SV P w nc nl nt n M) (hw2 : w ≤ 2) (h : eqS N M) (ht : t < nt) : chs P w N t nt = chs P w M t nt := by
  have ht4 := hP.2.2.1.2
  have hn := hP.2.2.2.1.2
  have hc8 := hP.1.2
  unfold chs
  rw [← h t (by omega), ← h (4 + t) (by omega), ← h (56 + t) (by omega)]
  by_cases h3 : N t = 3
  · obtain ⟨⟨i, hi, e4, -, hk⟩, -⟩ := sv_wok (hS.1.1 t ht) h3
    rw [if_pos h3, if_pos h3, e4, n_clp (show i < 2 ^ 31 by omega)]
    have := (cg_ln hP hi).2.1 (by omega) (by omega)
    rw [h (40 + ob P i) (by omega)]
  rw [if_neg h3, if_neg h3]
  by_cases h1 : N t = 1
  · obtain ⟨⟨i, hi, e4, -⟩, -⟩ := sv_run (hS.1.1 t ht) h1
    obtain ⟨b1, b2, b3, -⟩ := cg_ln hP hi
    rw [if_pos h1, if_pos h1, e4, n_clp (show i < 2 ^ 31 by omega)]
    unfold chK
    rw [← h (56 + t) (by omega)]
    split
    · rfl
    split
    · rename_i k1
      have := b1 (by omega) (by omega)
      rw [h (72 + ob P i) (by omega), h (224 + t) (by omega)]
    split
    · rename_i k2
      have := b1 (by omega) (by omega)
      have e : roS P w N t i (ob P i) (kd P i) = roS P w M t i (ob P i) (kd P i) := by
        unfold roS
        rw [h (56 + t) (by omega), h (72 + ob P i) (by omega), h (48 + ob P i) (by omega), cg_exv hB h hi (Or.inl rfl), cg_exv hB h hi (Or.inr rfl)]
      rw [e]
    split
    · rename_i k5
      have := b2 (by omega) (by omega)
      rw [h (40 + ob P i) (by omega)]
    split
    · rename_i k8
      have := b2 (by omega) (by omega)
      rw [h (40 + ob P i) (by omega), cg_wts h nt ht4]
    split
    · rename_i k11
      have := b3 (Or.inr k11)
      rw [h (ob P i) (by omega), h (56 + ob P i) (by omega)]
    · rfl
  · rw [if_neg h1, if_neg h1]
theorem cg_rdS (en : pN) (hB : MBx P nc nl nt n) (hP : PV P nc nl nt n) (hS : SV P w nc nl nt n N) (hM : SV P w nc nl nt n M) (hw2 : w ≤ 2) (h : eqS N M) (hr : rdS P w N t ch nt) : rdS P w M t ch nt := by
  have ht4 := hP.2.2.1.2
  obtain ⟨h1, h2⟩ := hr
  refine ⟨h1, h2.imp (fun z => ?_) (fun z => ⟨z.1, ?_⟩)⟩
  · rw [← cg_chs en hB hP hS hM hw2 h h1]; exact z
  · rw [← h (56 + t) (by omega)]; exact z.2
theorem cg_stp (en : pN) (hB : MBx P nc nl nt n) (hP : PV P nc nl nt n) (hS : SV P w nc nl nt n N) (hM : SV P w nc nl nt n M) (hw2 : w ≤ 2) (h : eqS N M) (hr : rdS P w N t ch nt) (hch : ch < 10) : eqS (stp P w N t ch nt) (stp P w M t ch nt) := by
  have ht4 := hP.2.2.1.2
  have hn := hP.2.2.2.1.2
  have hc8 := hP.1.2
  obtain ⟨ht, hr⟩ := hr
  have hq : clp (N (56 + t)) ≤ 3 := by
    obtain ⟨q, e, b⟩ := sv_q hS.2.2.2.2.1 (show t < 4 by omega)
    rw [e, n_clp (show q < 2 ^ 31 by omega)]; exact b
  unfold stp
  rw [← h (60 + t * 3) (by omega), ← h t (by omega), ← h (4 + t) (by omega)]
  by_cases h9 : ch = 9
  · rw [if_pos h9, if_pos h9]
    exact cg_flu h (by omega)
  rw [if_neg h9, if_neg h9]
  have hr : ch < chs P w N t nt := hr.resolve_right (fun z => h9 z.1)
  by_cases h3 : N t = 3
  · obtain ⟨⟨i, hi, e4, -, hk⟩, -⟩ := sv_wok (hS.1.1 t ht) h3
    rw [if_pos h3, if_pos h3, e4, n_clp (show i < 2 ^ 31 by omega)]
    exact cg_tkb h (by omega) ((cg_ln hP hi).2.1 (by omega) (by omega))
  rw [if_neg h3, if_neg h3]
  by_cases h1 : N t = 1
  · obtain ⟨⟨i, hi, e4, -⟩, -⟩ := sv_run (hS.1.1 t ht) h1
    obtain ⟨b1, b2, b3, bl⟩ := cg_ln hP hi
    rw [e4, n_clp (show i < 2 ^ 31 by omega)]
    unfold chs at hr
    rw [if_neg h3, if_pos h1, e4, n_clp (show i < 2 ^ 31 by omega)] at hr
    have hce : 1 ≤ kd P i → kd P i ≤ 4 → w = 2 → clp (N (72 + ob P i)) ≤ 9 := by
      intro q1 q2 q3
      obtain ⟨a, ea, -, e9, -⟩ := sv_ce hS.2.2.2.2.2 q3 hc8 (b1 q1 q2)
      rw [ea, n_clp (show a < 2 ^ 31 by omega)]; exact e9
    have hv : kd P i = 1 → w = 2 → vol P (ob P i) = false → nb (N (224 + t)) (ob P i) + ch < 9 := by
      intro q1 q2 q3
      have q9 := hce (by omega) (by omega) q2
      unfold chK at hr
      split at hr
      · omega
      · rw [if_pos ⟨q2, q3⟩] at hr
        omega
    by_cases g : 1 ≤ kd P i ∧ kd P i ≤ 11
    · refine cg_lin hB h (by omega) hi ht4 bl ?_ b2 b3 hq hce hv
      rcases Nat.lt_or_ge (kd P i) 5 with q | q
      · have := b1 g.1 (by omega); omega
      · rcases Nat.lt_or_ge (kd P i) 10 with q' | q'
        · have := b2 q (by omega); omega
        · have := b3 (by omega); omega
    · -- the object is not asked for
      have key : ∀ K : fI, linS w P K t ch nt i (ob P i) (kd P i) = linS w P K t ch nt i 0 (kd P i) := by
        intro K
        have : actS w P K t ch nt i (ob P i) (kd P i) = actS w P K t ch nt i 0 (kd P i) := by
          by_cases k4 : kd P i ≤ 4
          · rw [act_4 K k4, act_4 K k4, tou_0 K (by omega), tou_0 K (by omega)]
          have k9 : ¬ kd P i ≤ 9 := by omega
          by_cases k13 : kd P i ≤ 13
          · rw [act_13 K k4 k9 k13, act_13 K k4 k9 k13]
            unfold metS
            rw [if_neg (show ¬ kd P i = 10 by omega), if_neg (show ¬ kd P i = 10 by omega), if_neg (show ¬ kd P i = 11 by omega), if_neg (show ¬ kd P i = 11 by omega)]
          · rw [act_18 K k4 k9 k13, act_18 K k4 k9 k13]
        unfold linS
        rw [this]
      rw [key N, key M]
      exact cg_lin hB h (by omega) hi ht4 bl (by omega) (fun _ _ => by omega) (fun _ => by omega) hq (fun _ _ _ => by omega) (fun z => by omega)
  · exfalso
    unfold chs at hr
    rw [if_neg h3, if_neg h1] at hr
    omega
theorem cg_rdl (en : pN) (hB : MBx P nc nl nt n) (hP : PV P nc nl nt n) (hS : SV P w nc nl nt n N) (hM : SV P w nc nl nt n M) (hw2 : w ≤ 2) (h : eqS N M) : ∀ T, T ≤ nt → rdl P w N nt T = rdl P w M nt T := by
  have ht4 := hP.2.2.1.2
  intro T
  induction T with
  | zero => intro _; rfl
  | succ T ih =>
    intro hT
    unfold rdl
    rw [ih (by omega)]
    unfold rdT
    rw [cg_chs en hB hP hS hM hw2 h (by omega), h (56 + T) (by omega)]
end CGA
