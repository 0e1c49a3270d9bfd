/-! THE HISTORY, the model's side: its calls. -/
def cwL : List Int64 := [513020621925, 1919246692, 1886156147, 1886745448, 7368560, 7370100, 6776180]
/-- a call's word of both: the class's number, the model's text -/
def wdR (c : Int32) (w : Int64) : Prop := (∃ k, k < 7 ∧ c = nI k ∧ w = cwL.getD k 0) ∨ (c = -1 ∧ ∀ k, k < 7 → w ≠ cwL.getD k 0)
def dsS (st : Nat) (c : Int32) : Int32 := if c = kiS st then 0 else if c = aiS st then 1 else -1
abbrev frHc (s s' : qS) : Prop := (∀ a, a ≠ 151 → (a < 201 ∨ 207 ≤ a) → s'.1 a = s.1 a) ∧ (∀ k, k ≠ 87 → s'.1 151 k = s.1 151 k) ∧ s'.2 = s.2
theorem frHc.rf {s : qS} : frHc s s := ⟨fun _ _ _ => rfl, fun _ _ => rfl, rfl⟩
theorem frHc.tr {s t u : qS} (h : frHc s t) (g : frHc t u) : frHc s u := ⟨fun a h1 h2 => (g.1 a h1 h2).trans (h.1 a h1 h2), fun k hk => (g.2.1 k hk).trans (h.2.1 k hk), g.2.2.trans h.2.2⟩
/-- a call begins, a call has its reply -/
def cS (s : qS) (c t : Nat) (i v x : Int32) : qS := uI (uI (uI (uI (uI (uI s 201 c i) 202 c 1000) 203 c v) 205 c x) 206 t (nI c)) 151 87 (nI (c + 1))
def rplS (s : qS) (q t : Nat) (i v : Int32) : qS := uI (uI (uI s 202 q i) 204 q v) 206 t (-2)
abbrev lyI (s : qS) (len : Nat) (g : Nat → fI) : Prop := s.1 151 78 = nI len ∧ (∀ k, k < 6 → s.1 (193 + k) = g k)
theorem cw_inj : ∀ k, k < 7 → ∀ a, a < 7 → cwL.getD k 0 = cwL.getD a 0 → k = a := by decide
theorem wd_eq {cc : Int32} {wd : Int64} {a : Nat} (h : wdR cc wd) (ha : a < 7) : (wd = cwL.getD a 0) ↔ cc = nI a := by
  rcases h with ⟨k, hk, rfl, rfl⟩ | ⟨rfl, h⟩
  · rw [nI_eq (by omega) (by omega)]
    exact ⟨fun z => cw_inj k hk a ha z, fun z => by rw [z]⟩
  · rw [n_1m (by omega)]
    exact ⟨fun z => h a ha z, fun z => z.elim⟩
section LC
variable {en : pN} {d st len i c t q m : Nat} {g f P : Nat → fI} {s : qS} {v w : Int32} {r : qR} {x y : gaT} {wd : Int64} {cc : Int32} {C0 : Nat → fI}
theorem m_does61 {a b : Nat} (h : wdR cc wd) (ha : a < 7) (hb : b < 7) : L_X12_doesOf_61 en d wd (cwL.getD a 0) (cwL.getD b 0) s = some (some (.int (if cc = nI a then 0 else if cc = nI b then 1 else -1)), s) := by
  refine le_X12_doesOf_61 en d _ _ _ _ _ ?_
  by_cases q : cc = nI a
  · rw [if_pos q, if_neg (fun z => z (lgc0.mpr ((wd_eq h ha).mpr q)))]
  · rw [if_neg q, if_pos (fun z => q ((wd_eq h ha).mp (lgc0.mp z)))]
    by_cases q2 : cc = nI b
    · rw [if_pos q2, if_neg (fun z => z (lgc0.mpr ((wd_eq h hb).mpr q2)))]
    · rw [if_neg q2, if_pos (fun z => q2 ((wd_eq h hb).mp (lgc0.mp z)))]
theorem m_doesOf (hst : st ≤ 3) (h : wdR cc wd) : qev en (d + 1) 349 [.int (nI st), .long wd] s = some (some (.int (dsS st cc)), s) := by
  rcases (by omega : st = 0 ∨ st = 1 ∨ st = 2 ∨ st = 3) with rfl | rfl | rfl | rfl
  · refine le_X12_doesOf en d _ _ _ _ ?_
    rw [if_neg (by decide)]
    refine le_X12_doesOf_35 en d _ _ _ _ _ ?_
    rw [if_neg (by decide)]
    exact m_does61 (a := 0) (b := 1) h (by decide) (by decide)
  · refine le_X12_doesOf en d _ _ _ _ ?_
    rw [if_pos (by decide), if_neg (by decide)]
    refine le_X12_doesOf_35 en d _ _ _ _ _ ?_
    rw [if_neg (by decide)]
    exact m_does61 (a := 2) (b := 1) h (by decide) (by decide)
  · refine le_X12_doesOf en d _ _ _ _ ?_
    rw [if_pos (by decide), if_pos (by decide), if_neg (by decide)]
    refine le_X12_doesOf_35 en d _ _ _ _ _ ?_
    rw [if_pos (by decide), if_neg (by decide)]
    exact m_does61 (a := 3) (b := 4) h (by decide) (by decide)
  · refine le_X12_doesOf en d _ _ _ _ ?_
    rw [if_pos (by decide), if_pos (by decide), if_pos (by decide)]
    refine le_X12_doesOf_35 en d _ _ _ _ _ ?_
    rw [if_pos (by decide), if_pos (by decide)]
    exact m_does61 (a := 5) (b := 6) h (by decide) (by decide)
theorem fr_cS : frHc s (cS s c t v w cc) := by
  refine ⟨fun a h1 h2 => ?_, fun k hk => ?_, rfl⟩
  · unfold cS
    rw [uI_ne h1, uI_ne (by omega), uI_ne (by omega), uI_ne (by omega), uI_ne (by omega), uI_ne (by omega)]
  · unfold cS
    rw [g_I, if_neg (fun z => hk z.2), uI_ne (by decide), uI_ne (by decide), uI_ne (by decide), uI_ne (by decide), uI_ne (by decide)]
theorem fr_rS : frHc s (rplS s q t v w) := by
  refine ⟨fun a h1 h2 => ?_, fun k hk => ?_, rfl⟩
  · unfold rplS
    rw [uI_ne (by omega), uI_ne (by omega), uI_ne (by omega)]
  · unfold rplS
    rw [uI_ne (by decide), uI_ne (by decide), uI_ne (by decide)]
theorem lyI.fr {s' : qS} (h : lyI s len g) (k : frHc s s') : lyI s' len g := ⟨(k.2.1 78 (by decide)).trans h.1, fun j hj => (k.1 _ (by omega) (by omega)).trans (h.2 j hj)⟩
/-- steps of the reading of a run's steps, with or without a fault so far -/
theorem ly_end (h : lyI s len g) (hi : nI len ≤ nI i) {b : Int32} (hb : b = 0 ∨ b = 1) : L_X12_layCalls_30 en d v b (nI i) s = some (some (.int b), s) := by
  refine le_X12_layCalls_30 en d _ _ _ _ _ ?_
  rw [h.1, if_pos hi, gd_true hb]
theorem ly_o (h : lyI s len g) (hi : i < len) (hl : len ≤ 200) (h15 : g 3 i ≠ 15) (h16 : g 3 i ≠ 16) {b : Int32} (k : L_X12_layCalls_30 en d v b (nI (i + 1)) s = some r) : L_X12_layCalls_30 en d v b (nI i) s = some r := by
  refine le_X12_layCalls_30 en d _ _ _ _ _ ?_
  have e3 : s.1 196 = g 3 := h.2 3 (by decide)
  rw [h.1, if_neg (by rw [n_LE (by omega) (by omega)]; omega), gd_true (n_in (by omega) (by decide)), nm_eq, n_cl (by omega), e3, if_pos h15, if_pos h16, n_ar]
  exact k
theorem ly_96 (h : lyI s len g) (hi : i < len) (hl : len ≤ 200) (ht : t < 4) (hc : s.1 151 87 = nI c) (hc2 : c < 200) {b : Int32} (k : L_X12_layCalls_30 en d v b (nI (i + 1)) (cS s c t (nI i) (g 5 i) w) = some r) : L_X12_layCalls_96 en d v (nI i) (nI t) w b s = some r := by
  refine le_X12_layCalls_96 en d _ _ _ _ _ _ _ ?_
  have c1 : (nI c).toNatClampNeg = c := n_cl (by omega)
  have hg : p_inB (nI c) 200 = true := n_in hc2 (by decide)
  have e5 : s.1 198 = g 5 := h.2 5 (by decide)
  have gi : p_inB (nI i) 200 = true := n_in (by omega) (by decide)
  have u1 : (uI s 201 c (nI i)).1 151 87 = nI c := by rw [uI_ne (by decide)]; exact hc
  have u2 : (uI (uI s 201 c (nI i)) 202 c 1000).1 151 87 = nI c := by rw [uI_ne (by decide)]; exact u1
  have u2' : (uI (uI s 201 c (nI i)) 202 c 1000).1 198 = g 5 := by rw [uI_ne (by decide), uI_ne (by decide)]; exact e5
  have u3 : (uI (uI (uI s 201 c (nI i)) 202 c 1000) 203 c (g 5 i)).1 151 87 = nI c := by rw [uI_ne (by decide)]; exact u2
  have u4 : (uI (uI (uI (uI s 201 c (nI i)) 202 c 1000) 203 c (g 5 i)) 205 c w).1 151 87 = nI c := by rw [uI_ne (by decide)]; exact u3
  have u5 : (uI (uI (uI (uI (uI s 201 c (nI i)) 202 c 1000) 203 c (g 5 i)) 205 c w) 206 t (nI c)).1 151 87 = nI c := by rw [uI_ne (by decide)]; exact u4
  rw [hc, gd_true hg, nm_eq, c1, u1, gd_true hg, nm_eq, c1, gd_true gi, u2, gd_true hg, nm_eq, c1, n_cl (by omega), u2', u3, gd_true hg, nm_eq, c1, gd_true (n_in ht (by decide)), nm_eq, n_cl (by omega), u4, nm_eq, u5, n_ar, n_ar]
  exact k
theorem ly_c (h : lyI s len g) (hi : i < len) (hl : len ≤ 200) (hst : st ≤ 3) (ht : t < 4) (h0 : g 0 i = nI t) (h15 : g 3 i = 15) (hw : wdR cc (s.2.1 199 i)) (hc : s.1 151 87 = nI c) (hc2 : c < 200) {b : Int32} (k : L_X12_layCalls_30 en (d + 1) (nI st) (if b = 0 then 0 else if ¬ s.1 206 t = -2 then 0 else if dsS st cc = -1 then 0 else 1) (nI (i + 1)) (cS s c t (nI i) (g 5 i) (dsS st cc)) = some r) : L_X12_layCalls_30 en (d + 1) (nI st) b (nI i) s = some r := by
  refine le_X12_layCalls_30 en (d + 1) _ _ _ _ _ ?_
  have e3 : s.1 196 = g 3 := h.2 3 (by decide)
  have e0 : s.1 193 = g 0 := h.2 0 (by decide)
  rw [h.1, if_neg (by rw [n_LE (by omega) (by omega)]; omega), gd_true (n_in (by omega) (by decide)), nm_eq, n_cl (by omega), e3, e0, if_neg (fun z => z h15), m_doesOf hst hw, bI_some, h0]
  by_cases b0 : b = 0
  · rw [if_pos b0] at k ⊢
    exact ly_96 h hi hl ht hc hc2 k
  · rw [if_neg b0] at k ⊢
    rw [gd_true (n_in ht (by decide)), n_cl (by omega)]
    by_cases o : ¬ s.1 206 t = -2
    · rw [if_pos o] at k ⊢
      exact ly_96 h hi hl ht hc hc2 k
    · rw [if_neg o] at k ⊢
      by_cases p : dsS st cc = -1
      · rw [if_pos p] at k ⊢
        exact ly_96 h hi hl ht hc hc2 k
      · rw [if_neg p] at k ⊢
        exact ly_96 h hi hl ht hc hc2 k
theorem ly_245 (ht : t < 4) {b : Int32} (k : L_X12_layCalls_30 en d v b (nI (i + 1)) (uI s 206 t (-2)) = some r) : L_X12_layCalls_245 en d v b (nI i) (nI t) s = some r := by
  refine le_X12_layCalls_245 en d _ _ _ _ _ _ ?_
  rw [gd_true (n_in ht (by decide)), nm_eq, n_cl (by omega), n_ar]
  exact k
/-- a reply where no call is open -/
theorem ly_r0 (h : lyI s len g) (hi : i < len) (hl : len ≤ 200) (ht : t < 4) (h0 : g 0 i = nI t) (h16 : g 3 i = 16) (ho : s.1 206 t = -2) {b : Int32} (k : L_X12_layCalls_30 en d v 0 (nI (i + 1)) (uI s 206 t (-2)) = some r) : L_X12_layCalls_30 en d v b (nI i) s = some r := by
  refine le_X12_layCalls_30 en d _ _ _ _ _ ?_
  have e3 : s.1 196 = g 3 := h.2 3 (by decide)
  have e0 : s.1 193 = g 0 := h.2 0 (by decide)
  have l201 : L_X12_layCalls_201 en d v (nI i) (nI t) 0 s = some r := by
    refine le_X12_layCalls_201 en d _ _ _ _ _ _ ?_
    rw [gd_true (n_in ht (by decide)), n_cl (by omega), if_pos ho]
    exact ly_245 ht k
  rw [h.1, if_neg (by rw [n_LE (by omega) (by omega)]; omega), gd_true (n_in (by omega) (by decide)), nm_eq, n_cl (by omega), e3, e0, if_pos (by rw [h16]; decide), if_neg (fun z => z h16), h0]
  by_cases b0 : b = 0
  · rw [if_pos b0]; exact l201
  · rw [if_neg b0, gd_true (n_in ht (by decide)), n_cl (by omega), if_pos ho]; exact l201
/-- and where one is -/
theorem ly_r1 (h : lyI s len g) (hi : i < len) (hl : len ≤ 200) (ht : t < 4) (h0 : g 0 i = nI t) (h16 : g 3 i = 16) (ho : s.1 206 t = nI q) (hq : q < 200) {b : Int32} (hb : b = 0 ∨ b = 1) (k : L_X12_layCalls_30 en d v b (nI (i + 1)) (rplS s q t (nI i) (g 5 i)) = some r) : L_X12_layCalls_30 en d v b (nI i) s = some r := by
  refine le_X12_layCalls_30 en d _ _ _ _ _ ?_
  have e3 : s.1 196 = g 3 := h.2 3 (by decide)
  have e0 : s.1 193 = g 0 := h.2 0 (by decide)
  have e5 : s.1 198 = g 5 := h.2 5 (by decide)
  have on : ¬ s.1 206 t = -2 := by rw [ho, n_m2 (by omega)]; exact id
  have l201 : L_X12_layCalls_201 en d v (nI i) (nI t) b s = some r := by
    refine le_X12_layCalls_201 en d _ _ _ _ _ _ ?_
    have c1 : (nI q).toNatClampNeg = q := n_cl (by omega)
    rw [gd_true (n_in ht (by decide)), n_cl (show t < 2 ^ 31 by omega), if_neg on, ho, gd_true (n_in hq (by decide)), nm_eq, c1, gd_true (n_in (by omega) (by decide)), uI_ne (by decide), ho, gd_true (n_in hq (by decide)), nm_eq, c1, n_cl (by omega), uI_ne (by decide), e5]
    exact ly_245 ht k
  rw [h.1, if_neg (by rw [n_LE (by omega) (by omega)]; omega), gd_true (n_in (by omega) (by decide)), nm_eq, n_cl (by omega), e3, e0, if_pos (by rw [h16]; decide), if_neg (fun z => z h16), h0]
  by_cases b0 : b = 0
  · rw [if_pos b0]; rw [b0] at l201; exact l201
  · rw [if_neg b0, gd_true (n_in ht (by decide)), n_cl (by omega), if_neg on]
    rw [hb.resolve_left b0] at l201; exact l201
/-- behind a fault -/
theorem ly_bad (hl : len ≤ 200) (hst : st ≤ 3) (hgt : ∀ i, i < len → ∃ t, t < 4 ∧ g 0 i = nI t) (hw : ∀ i, i < len → g 3 i = 15 → ∃ cc, wdR cc (s.2.1 199 i)) : ∀ (m i : Nat) (s' : qS), i + m = len → s'.2 = s.2 → lyI s' len g → (∃ c, c ≤ i ∧ s'.1 151 87 = nI c) → (∀ t, t < 4 → s'.1 206 t = -2 ∨ ∃ q, q < 200 ∧ s'.1 206 t = nI q) → ∃ s'', L_X12_layCalls_30 en (d + 1) (nI st) 0 (nI i) s' = some (some (.int 0), s'') ∧ frHc s' s'' := by
  intro m
  induction m with
  | zero =>
    intro i s' hi _ h _ _
    exact ⟨s', ly_end h (by rw [n_LE (by omega) (by omega)]; omega) (Or.inl rfl), frHc.rf⟩
  | succ m ih =>
    intro i s' hi h2 h hc ho
    obtain ⟨t, ht, h0⟩ := hgt i (by omega)
    obtain ⟨c, hc1, hc2⟩ := hc
    by_cases k15 : g 3 i = 15
    · obtain ⟨cc, hcc⟩ := hw i (by omega) k15
      have F : frHc s' (cS s' c t (nI i) (g 5 i) (dsS st cc)) := fr_cS
      obtain ⟨s'', e, f1⟩ := ih (i + 1) (cS s' c t (nI i) (g 5 i) (dsS st cc)) (by omega) (F.2.2.trans h2) (h.fr F) ⟨c + 1, by omega, by unfold cS; rw [g_I, if_pos ⟨rfl, rfl⟩]⟩ (fun u hu => by
        by_cases q : u = t
        · right; refine ⟨c, by omega, ?_⟩
          unfold cS
          rw [uI_ne (by decide), g_I, if_pos ⟨rfl, q⟩]
        · have : (cS s' c t (nI i) (g 5 i) (dsS st cc)).1 206 u = s'.1 206 u := by
            unfold cS
            rw [uI_ne (by decide), g_I, if_neg (fun z => q z.2), uI_ne (by decide), uI_ne (by decide), uI_ne (by decide), uI_ne (by decide)]
          rw [this]; exact ho u hu)
      refine ⟨s'', ly_c (cc := cc) h (by omega) hl hst ht h0 k15 (by rw [h2]; exact hcc) hc2 (by omega) ?_, F.tr f1⟩
      rw [if_pos rfl]; exact e
    · by_cases k16 : g 3 i = 16
      · rcases ho t ht with o | ⟨q, hq, o⟩
        · have F : frHc s' (uI s' 206 t (-2)) := ⟨fun a h1 h2 => uI_ne (by omega), fun k _ => by rw [uI_ne (by decide)], rfl⟩
          obtain ⟨s'', e, f1⟩ := ih (i + 1) (uI s' 206 t (-2)) (by omega) h2 (h.fr F) ⟨c, by omega, by rw [uI_ne (by decide)]; exact hc2⟩ (fun u hu => by
            rw [g_I]
            by_cases q : u = t
            · left; exact if_pos ⟨rfl, q⟩
            · rw [if_neg (fun z => q z.2)]; exact ho u hu)
          exact ⟨s'', ly_r0 h (by omega) hl ht h0 k16 o e, F.tr f1⟩
        · have F : frHc s' (rplS s' q t (nI i) (g 5 i)) := fr_rS
          obtain ⟨s'', e, f1⟩ := ih (i + 1) (rplS s' q t (nI i) (g 5 i)) (by omega) (F.2.2.trans h2) (h.fr F) ⟨c, by omega, by unfold rplS; rw [uI_ne (by decide), uI_ne (by decide), uI_ne (by decide)]; exact hc2⟩ (fun u hu => by
            unfold rplS
            rw [g_I]
            by_cases q : u = t
            · left; exact if_pos ⟨rfl, q⟩
            · rw [if_neg (fun z => q z.2), uI_ne (by decide), uI_ne (by decide)]; exact ho u hu)
          exact ⟨s'', ly_r1 h (by omega) hl ht h0 k16 o hq (Or.inl rfl) e, F.tr f1⟩
      · obtain ⟨s'', e, f1⟩ := ih (i + 1) s' (by omega) h2 h ⟨c, by omega, hc2⟩ ho
        exact ⟨s'', ly_o h (by omega) hl k15 k16 e, f1⟩
end LC
