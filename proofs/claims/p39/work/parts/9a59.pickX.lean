/-! ROWS OF A STATE, the class's side: the slots picked. -/
section PSX
variable {en : pN} {d m p a nt nc nl w n : Nat} {σ : qS} {P : Nat → fI} {F N G R : fI} {b : Int32} {L : List Nat}
theorem xb_I4 (hB : XB σ m p P) : XB (uIr σ (m + 4) R) m p P := by
  obtain ⟨h1, h2, h3, h4, h5, h6⟩ := hB
  refine ⟨h1, h2, h3, fun a ha => ?_, ?_, ?_⟩
  · rw [uIr_ne (by omega)]; exact h4 a ha
  · rw [uIr_ne (by omega)]; exact h5
  · rw [uIr_ne (by omega)]; exact h6
theorem mS_r4 {k : Nat} {v : Int32} (hm : m = 71 ∨ m = 112) : uI (mS (uIr σ (m + 4) R) m F N b G) (m + 4) k v = mS (uIr σ (m + 4) (upd R k v)) m F N b G := by
  refine Prod.ext (funext fun a => funext fun j => ?_) rfl
  show (if a = m + 4 ∧ j = k then v else if a = m then F j else if a = m + 1 then N j else if a = 10 then G j else if a = 7 ∧ j = 4 then b else if a = m + 4 then R j else σ.1 a j) = if a = m then F j else if a = m + 1 then N j else if a = 10 then G j else if a = 7 ∧ j = 4 then b else if a = m + 4 then upd R k v j else σ.1 a j
  by_cases h : a = m + 4
  · rw [if_neg (show ¬ a = m by omega), if_neg (show ¬ a = m by omega), if_neg (show ¬ a = m + 1 by omega), if_neg (show ¬ a = m + 1 by omega), if_neg (show ¬ a = 10 by omega), if_neg (show ¬ a = 10 by omega), if_neg (show ¬ (a = 7 ∧ j = 4) by omega), if_neg (show ¬ (a = 7 ∧ j = 4) by omega), if_pos h, if_pos h]
    by_cases q : j = k
    · rw [if_pos ⟨h, q⟩, q, pk_us]
    · rw [if_neg (fun z => q z.2), pk_un q]
  · rw [if_neg (fun z => h z.1), if_neg h, if_neg h]
/-- the machine with slots L so far -/
def kSl (σ : qS) (m : Nat) (F : fI) (L : List Nat) (R N : fI) (b : Int32) (G : fI) : qS := mS (uIr σ (m + 4) (rowL L R)) m (upd F 5 (nI L.length)) N b G
theorem upd5 {k : Nat} {u v : Int32} : upd (upd F k u) k v = upd F k v := by
  funext j
  show (if j = k then v else if j = k then u else F j) = if j = k then v else F j
  by_cases q : j = k
  · rw [if_pos q, if_pos q]
  · rw [if_neg q, if_neg q, if_neg q]
theorem x_pick {c : Nat} (hm : m = 71 ∨ m = 112) (hlm : lc m = 3) (hc : L.length + c ≤ 220) (ha : a + c < 2 ^ 20) : qev en (d + 1) 36 [.ref m, .int (nI a), .int (nI c)] (kSl σ m F L R N b G) = some (none, kSl σ m F (L ++ rg a c) R N b G) := by
  have loop : ∀ (k j : Nat), j + k = c → L_X3_pick_2 en d m (nI a) (nI c) (nI j) (kSl σ m F (L ++ rg a j) R N b G) = some (none, kSl σ m F (L ++ rg a c) R N b G) := by
    intro k
    induction k with
    | zero =>
      intro j hj
      obtain rfl : j = c := by omega
      refine le_X3_pick_2 en d _ _ _ _ _ _ ?_
      rw [gd_true hlm, if_pos (Int32.le_refl _)]
    | succ k ih =>
      intro j hj
      have hl : (L ++ rg a j).length = L.length + j := by rw [List.length_append, rg_len]
      refine le_X3_pick_2 en d _ _ _ _ _ _ ?_
      have e5 : (kSl σ m F (L ++ rg a j) R N b G).1 m 5 = nI (L ++ rg a j).length := by
        show (mS _ m _ N b G).1 m 5 = _
        rw [mS_m]; exact pk_us
      rw [gd_true hlm, if_neg (by rw [n_LE (by omega) (by omega)]; omega), e5, gd_true (n_in (by omega) (by decide)), nm_eq, nI_add, n_cl (by omega)]
      have e1 : uI (kSl σ m F (L ++ rg a j) R N b G) (m + 4) (L ++ rg a j).length (nI (a + j)) = mS (uIr σ (m + 4) (rowL (L ++ rg a (j + 1)) R)) m (upd F 5 (nI (L ++ rg a j).length)) N b G := by
        unfold kSl
        rw [mS_r4 hm, rowL_add, List.append_assoc, ← rg_s]
      rw [e1, mS_m, nm_eq, pk_us, mS_wm, upd5, n_ar, n_ar]
      have e2 : mS (uIr σ (m + 4) (rowL (L ++ rg a (j + 1)) R)) m (upd F 5 (nI ((L ++ rg a j).length + (1 : Nat)))) N b G = kSl σ m F (L ++ rg a (j + 1)) R N b G := by
        unfold kSl
        have : (L ++ rg a j).length + 1 = (L ++ rg a (j + 1)).length := by
          rw [List.length_append, List.length_append, rg_len, rg_len]; omega
        rw [this]
      exact (congrArg (L_X3_pick_2 en d m (nI a) (nI c) (nI (j + 1))) e2).trans (ih (j + 1) (by omega))
  refine le_X3_pick en d _ _ _ _ _ ?_
  rw [gd_true hlm]
  have := loop c 0 (by omega)
  rw [show rg a 0 = [] from rfl, List.append_nil] at this
  exact this
theorem n_m2n {k : Nat} (hk : k < 2 ^ 31) : nI k - nI k / (2 : Int32) * (2 : Int32) = nI (k % 2) := by
  rw [n_d2 hk, n_mr, n_sub (by show k / 2 * 2 ≤ k; omega)]
  congr 1
  show k - k / 2 * 2 = k % 2
  omega
theorem x_even (hm : m = 71 ∨ m = 112) (hlm : lc m = 3) (hc : L.length + 1 ≤ 220) : qev en (d + 2) 37 [.ref m] (kSl σ m F L R N b G) = some (none, kSl σ m F (evL L) R N b G) := by
  refine le_X3_makeEven en (d + 1) _ _ _ ?_
  have e5 : (kSl σ m F L R N b G).1 m 5 = nI L.length := by
    show (mS _ m _ N b G).1 m 5 = _
    rw [mS_m]; exact pk_us
  rw [gd_true hlm, e5, n_m2n (by omega)]
  unfold evL
  by_cases q : L.length % 2 = 0
  · rw [if_pos (by rw [q]; rfl), if_pos q]
  · rw [if_neg (show ¬ nI (L.length % 2) = (0 : Int32) from fun z => q ((nI_eq (b := 0) (by omega) (by decide)).mp z)), if_neg q]
    have := x_pick (en := en) (d := d) (σ := σ) (F := F) (R := R) (N := N) (b := b) (G := G) (L := L) (a := 235) (c := 1) hm hlm hc (by decide)
    rw [show (235 : Int32) = nI 235 from rfl, show (1 : Int32) = nI 1 from rfl, this, bV_some]
    rfl
theorem kS_R : (kSl σ m F L R N b G).2.2 = σ.2.2 := rfl
theorem kS_P (hB : XB σ m p P) (ha : a < 25) : (kSl σ m F L R N b G).1 (p + a) = P a := xb_P (xb_I4 hB) ha
theorem kS_P0 (hB : XB σ m p P) : (kSl σ m F L R N b G).1 p = P 0 := xb_P0 (xb_I4 hB)
theorem kS_w (hB : XB σ m p P) : (kSl σ m F L R N b G).1 m 8 = F 8 := by
  show (mS _ m _ N b G).1 m 8 = _
  rw [mS_m]; exact pk_un (by decide)
theorem x_pickSlots (hB : XB σ m p P) (hP : PV P nc nl nt n) (hw : F 8 = nI w) (hw2 : w ≤ 2) : ∃ R', qev en (d + 4) 35 [.ref m] (mS (uIr σ (m + 4) R) m F N b G) = some (none, mS (uIr σ (m + 4) R') m (upd (upd F 5 (nI (slA P w nc nl nt).length)) 6 (nI (slO P nc nt).length)) N b G) ∧ ∀ i, i < (slA P w nc nl nt).length → R' i = nI ((slA P w nc nl nt).getD i 0) := by
  have hm := hB.1
  have hlm := xb_lm hB
  have gr : ∀ {α : Type} {x : Option α}, gd (p + 1 ≠ 0 ∧ lc (p + 1 - 1) = 5) x = x := fun {α x} => gd_true ⟨by omega, by rw [show p + 1 - 1 = p from rfl]; exact xb_lp hB⟩
  have hR : ∀ {F' : fI} {L : List Nat}, (kSl σ m F' L R N b G).2.2 m 7 = p + 1 := fun {F' L} => hB.2.2.1
  have h9 := hP.1.1
  have h10 := hP.2.1.1
  have h11 := hP.2.2.1.1
  have hc8 := hP.1.2
  have hl4 := hP.2.1.2
  have ht4 := hP.2.2.1.2
  have c9 : ∀ {F' : fI} {L : List Nat}, (kSl σ m F' L R N b G).1 p 9 = nI nc := fun {F' L} => by rw [kS_P0 hB]; exact h9
  have c10 : ∀ {F' : fI} {L : List Nat}, (kSl σ m F' L R N b G).1 p 10 = nI nl := fun {F' L} => by rw [kS_P0 hB]; exact h10
  have c11 : ∀ {F' : fI} {L : List Nat}, (kSl σ m F' L R N b G).1 p 11 = nI nt := fun {F' L} => by rw [kS_P0 hB]; exact h11
  have hO := (slO_len hP).1
  have hA := (slA_len (w := w) hP).1
  have hBl := (slB_len (w := w) hP).1
  have hA' : (slA P w nc nl nt).length ≤ 220 := by
    by_cases w2 : w = 2
    · rw [if_pos w2] at hA; exact hA
    · rw [if_neg w2] at hA; omega
  have hB' : (slB P w nc nl nt).length ≤ 219 := by
    by_cases w2 : w = 2
    · rw [if_pos w2] at hBl; exact hBl
    · rw [if_neg w2] at hBl; omega
  -- the last steps
  let fin : fI := upd F 6 (nI (slO P nc nt).length)
  have e56 : ∀ k : Nat, upd (upd F 5 (nI k)) 6 (nI (slO P nc nt).length) = upd fin 5 (nI k) := fun k => upd_cm (by decide)
  have s253 : L_X3_pickSlots_253 en (d + 3) m (kSl σ m fin (slB P w nc nl nt) R N b G) = some (none, kSl σ m fin (slA P w nc nl nt) R N b G) := by
    refine le_X3_pickSlots_253 en (d + 3) _ _ _ ?_
    rw [gd_true hlm, x_even (d := d + 1) hm hlm (by omega), bV_some]
    rfl
  have pk : ∀ (L : List Nat) (a c : Nat), L.length + c ≤ 220 → a + c < 1000 → qev en (d + 3) 36 [.ref m, .int (nI a), .int (nI c)] (kSl σ m fin L R N b G) = some (none, kSl σ m fin (L ++ rg a c) R N b G) := fun L a c h1 h2 => x_pick (d := d + 2) hm hlm h1 (by omega)
  let l6 : List Nat := slO P nc nt ++ rg 0 nt ++ rg 4 nt ++ rg 8 nt ++ rg 12 nt ++ rg 40 nl ++ rg 44 nl
  have l6l : l6.length ≤ 34 + 16 + 8 := by
    show (slO P nc nt ++ rg 0 nt ++ rg 4 nt ++ rg 8 nt ++ rg 12 nt ++ rg 40 nl ++ rg 44 nl).length ≤ _
    simp only [List.length_append, rg_len]
    omega
  have w8 : ∀ {L : List Nat}, (kSl σ m fin L R N b G).1 m 8 = nI w := fun {L} => by rw [kS_w hB]; exact (pk_un (by decide)).trans hw
  let l7 : List Nat := l6 ++ (if w = 1 then rg 56 nt ++ rg 60 (nt * 3) else [])
  have e1w : (nI w = (1 : Int32)) = (w = 1) := n_eq (k := 1) (by decide) (by omega)
  have e2w : (nI w = (2 : Int32)) = (w = 2) := n_eq (k := 2) (by decide) (by omega)
  have s163 : L_X3_pickSlots_163 en (d + 3) m (kSl σ m fin l7 R N b G) = some (none, kSl σ m fin (slA P w nc nl nt) R N b G) := by
    refine le_X3_pickSlots_163 en (d + 3) _ _ _ ?_
    rw [gd_true hlm, w8]
    by_cases w2 : w = 2
    · have e7 : l7 = l6 := by
        show l6 ++ (if w = 1 then _ else []) = _
        rw [if_neg (by omega), List.append_nil]
      have eB : slB P w nc nl nt = l6 ++ rg 72 nc ++ rg 80 (nc * 9) ++ rg 152 (nc * 9) ++ rg 224 nt ++ rg 228 nl ++ rg 232 1 := by
        unfold slB
        rw [if_neg (by omega), if_pos w2, List.append_nil]
        simp only [l6, List.append_assoc]
      rw [if_neg (show ¬ ¬ nI w = (2 : Int32) by rw [e2w]; exact fun z => z w2), e7, hR, gr, nm_eq, show p + 1 - 1 = p from rfl, c9, show (72 : Int32) = nI 72 from rfl, pk _ 72 nc (by omega) (by omega), bV_some, hR, gr, nm_eq, show p + 1 - 1 = p from rfl, c9, n_mr, show (80 : Int32) = nI 80 from rfl]
      rw [pk _ 80 (nc * 9) (by rw [List.length_append, rg_len]; omega) (by omega), bV_some, hR, gr, nm_eq, show p + 1 - 1 = p from rfl, c9, n_mr, show (152 : Int32) = nI 152 from rfl]
      rw [pk _ 152 (nc * 9) (by simp only [List.length_append, rg_len]; omega) (by omega), bV_some, hR, gr, nm_eq, show p + 1 - 1 = p from rfl, c11, show (224 : Int32) = nI 224 from rfl]
      rw [pk _ 224 nt (by simp only [List.length_append, rg_len]; omega) (by omega), bV_some, hR, gr, nm_eq, show p + 1 - 1 = p from rfl, c10, show (228 : Int32) = nI 228 from rfl]
      rw [pk _ 228 nl (by simp only [List.length_append, rg_len]; omega) (by omega), bV_some, show (232 : Int32) = nI 232 from rfl, show (1 : Int32) = nI 1 from rfl, pk _ 232 1 (by simp only [List.length_append, rg_len]; omega) (by omega), bV_some, ← eB]
      exact s253
    · rw [if_pos (show ¬ nI w = (2 : Int32) by rw [e2w]; exact w2)]
      have eB : slB P w nc nl nt = l7 := by
        unfold slB
        rw [if_neg w2, List.append_nil]
      rw [← eB]
      exact s253
  have s77d : L_X3_pickSlots_77 en (d + 3) m 16 (kSl σ m fin (slO P nc nt ++ rg 0 nt ++ rg 4 nt ++ rg 8 nt ++ rg 12 nt) R N b G) = some (none, kSl σ m fin (slA P w nc nl nt) R N b G) := by
    refine le_X3_pickSlots_77 en (d + 3) _ _ _ _ ?_
    rw [gd_true hlm, if_pos (by decide), hR, gr, nm_eq, show p + 1 - 1 = p from rfl, c10, show (40 : Int32) = nI 40 from rfl, pk _ 40 nl (by simp only [List.length_append, rg_len]; omega) (by omega), bV_some, hR, gr, nm_eq, show p + 1 - 1 = p from rfl, c10, show (44 : Int32) = nI 44 from rfl, pk _ 44 nl (by simp only [List.length_append, rg_len]; omega) (by omega), bV_some, w8]
    by_cases w1 : w = 1
    · rw [if_neg (show ¬ ¬ nI w = (1 : Int32) by rw [e1w]; exact fun z => z w1), hR, gr, nm_eq, show p + 1 - 1 = p from rfl, c11, show (56 : Int32) = nI 56 from rfl, pk _ 56 nt (by simp only [List.length_append, rg_len]; omega) (by omega), bV_some, hR, gr, nm_eq, show p + 1 - 1 = p from rfl, c11, n_mr, show (60 : Int32) = nI 60 from rfl, pk _ 60 (nt * 3) (by simp only [List.length_append, rg_len]; omega) (by omega), bV_some]
      have e7 : l7 = l6 ++ rg 56 nt ++ rg 60 (nt * 3) := by
        show l6 ++ (if w = 1 then _ else []) = _
        rw [if_pos w1]
        exact (List.append_assoc _ _ _).symm
      rw [e7] at s163
      exact s163
    · rw [if_pos (show ¬ nI w = (1 : Int32) by rw [e1w]; exact w1)]
      have e7 : l7 = l6 := by
        show l6 ++ (if w = 1 then _ else []) = _
        rw [if_neg w1, List.append_nil]
      rw [e7] at s163
      exact s163
  have step77 : ∀ (L : List Nat) (a : Nat) (r : qR), a < 16 → L.length + nt ≤ 220 → L_X3_pickSlots_77 en (d + 3) m (nI (a + 4)) (kSl σ m fin (L ++ rg a nt) R N b G) = some r → L_X3_pickSlots_77 en (d + 3) m (nI a) (kSl σ m fin L R N b G) = some r := by
    intro L a r ha hl hh
    refine le_X3_pickSlots_77 en (d + 3) _ _ _ _ ?_
    rw [gd_true hlm, if_neg (by rw [n_le (by decide) (by omega)]; omega), hR, gr, nm_eq, show p + 1 - 1 = p from rfl, c11, pk _ a nt hl (by omega), bV_some, n_ar]
    exact hh
  have s77 : L_X3_pickSlots_77 en (d + 3) m 0 (kSl σ m fin (slO P nc nt) R N b G) = some (none, kSl σ m fin (slA P w nc nl nt) R N b G) := by
    refine step77 _ 0 _ (by decide) (by omega) (step77 _ 4 _ (by decide) (by simp only [List.length_append, rg_len]; omega) (step77 _ 8 _ (by decide) (by simp only [List.length_append, rg_len]; omega) (step77 _ 12 _ (by decide) (by simp only [List.length_append, rg_len]; omega) s77d)))
  -- the first steps
  have pk0 : ∀ (L : List Nat) (a c : Nat), L.length + c ≤ 220 → a + c < 1000 → qev en (d + 3) 36 [.ref m, .int (nI a), .int (nI c)] (kSl σ m F L R N b G) = some (none, kSl σ m F (L ++ rg a c) R N b G) := fun L a c h1 h2 => x_pick (d := d + 2) hm hlm h1 (by omega)
  have s28 : ∀ (k t : Nat), t + k = nt → L_X3_pickSlots_28 en (d + 3) m (nI t) (kSl σ m F ([233] ++ rg 48 nc ++ locL P t) R N b G) = some (none, kSl σ m fin (slA P w nc nl nt) R N b G) := by
    intro k
    induction k with
    | zero =>
      intro t ht
      obtain rfl : t = nt := by omega
      have ll := locL_len t (fun u hu => (hP.2.2.2.2.2 u hu).2.2)
      refine le_X3_pickSlots_28 en (d + 3) _ _ _ _ ?_
      rw [gd_true hlm, hR, gr, nm_eq, show p + 1 - 1 = p from rfl, c11, if_pos (Int32.le_refl _), x_even (d := d + 1) hm hlm (by simp only [List.length_append, rg_len, List.length_singleton]; omega), bV_some, nm_eq]
      have e : uI (kSl σ m F (slO P nc t) R N b G) m 6 ((kSl σ m F (slO P nc t) R N b G).1 m 5) = kSl σ m fin (slO P nc t) R N b G := by
        unfold kSl
        rw [mS_m, pk_us, mS_wm, e56]
      exact (congrArg (L_X3_pickSlots_77 en (d + 3) m 0) e).trans s77
    | succ k ih =>
      intro t ht
      have ll := locL_len t (fun u hu => (hP.2.2.2.2.2 u (by omega)).2.2)
      obtain ⟨-, l1, l2⟩ := hP.2.2.2.2.2 t (by omega)
      refine le_X3_pickSlots_28 en (d + 3) _ _ _ _ ?_
      rw [gd_true hlm, hR, gr, nm_eq, show p + 1 - 1 = p from rfl, c11, if_neg (by rw [n_LE (by omega) (by omega)]; omega), show (0 : Int32) = nI 0 from rfl, x_local (d := d + 2) (by omega), bI_some, hR, gr, nm_eq, gd_true (n_in (by omega) (by decide)), show p + 1 - 1 = p from rfl, kS_P hB (by decide), n_cl (by omega), l1, pk0 _ _ _ (by simp only [List.length_append, rg_len, List.length_singleton]; omega) (by omega), bV_some, n_ar]
      have e : [233] ++ rg 48 nc ++ locL P t ++ rg (16 + t * 6 + 0) (lct P t) = [233] ++ rg 48 nc ++ locL P (t + 1) := by
        rw [List.append_assoc]; rfl
      rw [e]
      exact ih (t + 1) (by omega)
  have e0 : uI (mS (uIr σ (m + 4) R) m F N b G) m 5 0 = kSl σ m F [] R N b G := by
    unfold kSl
    rw [mS_wm, rowL_nil]; rfl
  have top : qev en (d + 4) 35 [.ref m] (mS (uIr σ (m + 4) R) m F N b G) = some (none, kSl σ m fin (slA P w nc nl nt) R N b G) := by
    refine le_X3_pickSlots en (d + 3) _ _ _ ?_
    rw [gd_true hlm, nm_eq, e0, show (233 : Int32) = nI 233 from rfl, show (1 : Int32) = nI 1 from rfl, pk0 _ 233 1 (by decide) (by decide), bV_some, hR, gr, nm_eq, show p + 1 - 1 = p from rfl, c9, show (48 : Int32) = nI 48 from rfl, pk0 _ 48 nc (by rw [List.nil_append, rg_len]; omega) (by omega), bV_some]
    have := s28 nt 0 (by omega)
    rw [show locL P 0 = [] from rfl, List.append_nil] at this
    exact this
  refine ⟨rowL (slA P w nc nl nt) R, ?_, fun i hi => ?_⟩
  · rw [top, e56]
    rfl
  · rw [rowL_at hi, List.getD_eq_getElem?_getD, List.getElem?_eq_getElem hi]
    rfl
end PSX

