/-! THE READER: an expression on both sides: the signs between operands. -/
/-- a token's rank as a sign; 0 is none -/
def sgv (y r : Nat) : Prop := (lvV y = -1 ∧ opV y = -1 ∧ r = 0) ∨ ∃ K, 4 ≤ K ∧ K ≤ 14 ∧ opV y = nI K ∧ rkM K = r ∧ 1 ≤ r ∧ r ≤ 5 ∧ lvV y = nI (r - 1) ∧ 38 ≤ y ∧ y < 256 ∧ ndR 0 y 0 K 0
/-- both stand within a level: the class has put h signs more, which still wait at the model's -/
abbrev lvS (lw : Bool) (q bs u : Nat) (B : Nat → Nat) (n l0 b : Nat) (s t : qS) (V : Nat → Nat) (U : Nat → Nat → Nat) (cl : Nat → Nat) (nc nl nt i ct m z h k : Nat) (pl : Nat → Nat) : Prop :=
  eS lw q bs u B n s t V U cl nc nl nt i ct (z + h) z (k + h) pl ∧ (m ≤ z ∧ z + k + h = ct + b) ∧ (∀ j, k ≤ j → j < k + h → 4 ≤ pl j ∧ pl j ≤ 14 ∧ l0 ≤ rkM (pl j)) ∧ (∀ i j, k ≤ i → i < j → j < k + h → rkM (pl i) < rkM (pl j)) ∧ ndZ lw u s t q bs m z ∧ (∀ x, x < h → ∃ kk, s.1 (q + 1) (z + x) = nI kk ∧ s.1 (q + 2) (z + x) = 0 ∧ ndR 0 kk 0 (pl (k + h - 1 - x)) 0) ∧ gw (s.1 (q + 1)) (s.1 (q + 2)) m (z + h)
/-- what may follow a level: a sign of a lesser one, or a second test -/
abbrev lvT (l k h : Nat) (pl : Nat → Nat) (y : Nat) : Prop := ∃ r, sgv y r ∧ (r ≤ l ∨ (r = 3 ∧ ∃ j, k ≤ j ∧ j < k + h ∧ rkM (pl j) = 3))
/-- what stands under a level binds no stronger -/
abbrev topOK (l k : Nat) (pl : Nat → Nat) : Prop := k = 0 ∨ pl (k - 1) = 22 ∨ rkM (pl (k - 1)) ≤ l
section EXS
variable {en : pN} {d d' k K q bs u n i i' ct ct' m m' m0 c c' c0 k' nc nl nt a b z h dp F p x j r l l0 y : Nat} {lw : Bool} {V cl cl' : Nat → Nat} {U U' : Nat → Nat → Nat} {pl pl' : Nat → Nat} {s s' s'' t t' t'' : qS} {B : Nat → Nat} {O Q M W v w v1 v2 v3 v4 v5 a2 : Int32}
theorem sgv_of (y : Nat) : ∃ r, sgv y r := by
  rcases sg_all y with ⟨h1, h2⟩ | ⟨K, h1, h2, h3, h4, h5, h6, h7, h8, h9⟩
  · exact ⟨0, Or.inl ⟨h1, h2, rfl⟩⟩
  · exact ⟨rkM K, Or.inr ⟨K, h1, h2, h3, rfl, h4, h5, h6, h8, h7, h9⟩⟩
theorem stC_go (h1 : ∀ j, a ≤ j → j < a + h → ¬ (rkM (pl j) < r ∨ pl j = 22)) : stC pl r (a + h) = stC pl r a := by
  induction h with
  | zero => rfl
  | succ h ih =>
    show (if rkM (pl (a + h)) < r ∨ pl (a + h) = 22 then a + h + 1 else stC pl r (a + h)) = _
    rw [if_neg (h1 (a + h) (by omega) (by omega))]
    exact ih (fun j j1 j2 => h1 j j1 (by omega))
theorem stC_st (h : k = 0 ∨ pl (k - 1) = 22 ∨ rkM (pl (k - 1)) < r) : stC pl r k = k := by
  cases k with
  | zero => rfl
  | succ k =>
    show (if rkM (pl k) < r ∨ pl k = 22 then k + 1 else stC pl r k) = _
    rcases h with h | h | h
    · omega
    · exact if_pos (Or.inr h)
    · exact if_pos (Or.inl h)
theorem epC_st (h : k = 0 ∨ (pl (k - 1) ≠ 2 ∧ pl (k - 1) ≠ 3)) : epC pl k = k := by
  cases k with
  | zero => rfl
  | succ k =>
    show (if pl k = 2 ∨ pl k = 3 then epC pl k else k + 1) = _
    rcases h with h | h
    · omega
    · exact if_neg (fun z => z.elim h.1 h.2)
theorem topOK_e (h : topOK l k pl) (hl : l ≤ 5) : epC pl k = k := by
  refine epC_st ?_
  rcases h with h | h | h
  · exact Or.inl h
  · exact Or.inr ⟨by omega, by omega⟩
  · refine Or.inr ⟨fun z => ?_, fun z => ?_⟩
    · rw [z] at h; have : rkM 2 = 6 := rfl; omega
    · rw [z] at h; have : rkM 3 = 6 := rfl; omega
/-- what binds more strongly comes -/
theorem pop_gen {h1 : Nat} (hS : lvS lw q bs u B n l0 b s t V U cl nc nl nt i ct m z h k pl) (hq : plcQ lw q bs) (hr6 : r ≤ 6) (hb : b ≤ 9) (hst : stC pl r (k + h) = k + h1) (hh : h1 ≤ h) : ∃ t1, qev en (d' + 3) 266 [.ref 151, .int (nI r)] t = some (none, t1) ∧ lvS lw q bs u B n l0 b s t1 V U cl nc nl nt i ct m (z + (h - h1)) h1 k pl ∧ emF (bs + z) t t1 := by
  obtain ⟨hE, ⟨h1', h2⟩, h3, h4, h5, h6, h7⟩ := hS
  obtain ⟨hl, hn, h8, h9, ⟨x1, x2, x3⟩, ⟨y1, y2, y3⟩, hp⟩ := id hE
  have m7 := hl.2.2.1
  have hbs : bs ≤ 400 := by rcases hq with g | g <;> omega
  obtain ⟨t1, e1, e2, e3, e4, e5⟩ := m_settle (en := en) (d := d') (pl := pl) hr6 (k + h) (bs + z) t (by omega) m7 y2 y3 (by omega) hp
  rw [hst] at e3 e4 e5
  rw [show k + h - (k + h1) = h - h1 by omega] at e4 e5
  have hm1 : mtL t1 B n i := mtL_fr hl.2 (fun j hj => e2.2.1 j (by omega) (by omega)) (e2.1 152 (by decide) (by decide) (by decide)) (by rw [e2.2.2.2])
  refine ⟨t1, le_X12_settle en _ _ _ _ e1, ⟨eS_fr hE hq (m0 := 0) (c0 := 0) rxF.rf (rmF.em e2 (by omega)) ⟨hl.1, hm1⟩ ⟨x1, by rw [e2.2.1 28 (by decide) (by decide)]; exact x2, x3⟩ ⟨by rw [show z + (h - h1) + h1 = z + h by omega]; exact y1, by rw [e4, show bs + z + (h - h1) = bs + (z + (h - h1)) by omega], e3⟩ (fun j hj => by rw [e2.1 163 (by decide) (by decide) (by decide)]; exact hp j (by omega)), ⟨by omega, by omega⟩, fun j j1 j2 => h3 j j1 (by omega), fun i j j1 j2 j3 => h4 i j j1 j2 (by omega), fun j j1 j2 => ?_, fun x hx => ?_, by rw [show z + (h - h1) + h1 = z + h by omega]; exact h7⟩, e2⟩
  · by_cases g : j < z
    · obtain ⟨f1, f2⟩ := e2.2.2.1 (bs + j) (by omega)
      rw [f1, f2]
      exact h5 j j1 g
    · obtain ⟨o, rfl⟩ : ∃ o, j = z + o := ⟨j - z, by omega⟩
      obtain ⟨f1, f2⟩ := e5 o (by omega)
      rw [show bs + z + o = bs + (z + o) by omega] at f1 f2
      obtain ⟨kk, k1, k2, k3⟩ := h6 o (by omega)
      obtain ⟨g1, g2, -⟩ := h3 (k + h - 1 - o) (by omega) (by omega)
      obtain ⟨-, -, -, b4⟩ := ndR_bin k3 g1 g2
      exact ⟨kk, _, ndR_op k3, k1, f1, by rw [k2, f2]; exact b4 _ _ _, fun _ => g2⟩
  · obtain ⟨kk, k1, k2, k3⟩ := h6 (h - h1 + x) (by omega)
    refine ⟨kk, by rw [show z + (h - h1) + x = z + (h - h1 + x) by omega]; exact k1, by rw [show z + (h - h1) + x = z + (h - h1 + x) by omega]; exact k2, ?_⟩
    rw [show k + h1 - 1 - x = k + h - 1 - (h - h1 + x) by omega]
    exact k3
/-- all that waits of the level comes -/
theorem pop_al (hS : lvS lw q bs u B n l0 b s t V U cl nc nl nt i ct m z h k pl) (hq : plcQ lw q bs) (hr : r ≤ l0) (hr1 : 1 ≤ r) (hr6 : r ≤ 6) (hb : b ≤ 9) (ht : k = 0 ∨ pl (k - 1) = 22 ∨ rkM (pl (k - 1)) < r) : ∃ t1, qev en (d' + 3) 266 [.ref 151, .int (nI r)] t = some (none, t1) ∧ eS lw q bs u B n s t1 V U cl nc nl nt i ct (z + h) (z + h) k pl ∧ ndZ lw u s t1 q bs m (z + h) ∧ emF (bs + z) t t1 := by
  have hst : stC pl r (k + h) = k + 0 := by
    rw [stC_go (fun j j1 j2 => by have := hS.2.2.1 j j1 j2; omega)]
    exact stC_st ht
  obtain ⟨t1, e1, ⟨e2, -, -, -, e3, -, -⟩, e4⟩ := pop_gen (en := en) (d' := d') hS hq hr6 hb hst (Nat.zero_le _)
  exact ⟨t1, e1, e2, e3, e4⟩
/-! the model at a sign -/
theorem m_at347 (hm : mtL t B n i) (hy : tkK B n i ≠ 41 ∨ b = 0) (hb : b ≤ 9) : ∀ r, L_X12_readExp_347 en (d' + 1) v1 (nI b) v3 0 t = some r → L_X12_readExp_20 en (d' + 1) v1 (nI b) v3 0 0 t = some r := by
  intro r hr
  obtain ⟨⟨mX, mn, hi⟩, m7, m4, mk1, m2, m3, m5, m6⟩ := id hm
  obtain ⟨k1, -, -, k4⟩ := kdM_v (tkK_lt hi)
  refine le_X12_readExp_20 en _ _ _ _ _ _ _ _ ?_
  rw [m_goodL m7, bI_some, if_neg (by decide), if_neg (not_not_intro rfl), if_pos rfl, m3]
  by_cases q : tkK B n i = 41
  · rw [if_neg (by rw [n_eq (by decide) (by omega)]; exact not_not_intro ((k4 41 (by decide) (by decide)).mpr q)), if_pos (by rw [n_ge (by decide) (by omega)]; have := hy.resolve_left (not_not_intro q); omega)]
    exact hr
  · rw [if_pos (by rw [n_eq (by decide) (by omega)]; exact fun z => q ((k4 41 (by decide) (by decide)).mp z))]
    exact hr
/-- the model's number of the sign at hand -/
theorem m_opTk (hm : mtL t B n i) : qev en (d' + 1) 265 [.ref 151] t = some (some (.int (opV (kdM (tkK B n i)))), t) := by
  obtain ⟨⟨mX, mn, hi⟩, m7, m4, mk1, m2, m3, m5, m6⟩ := id hm
  have := (kdM_v (tkK_lt hi)).1
  exact m_opAt (by omega) m3
theorem opV_kd (hx : x < 400) (h1 : x ≠ 1) : opV (kdM x) = opV x := by
  unfold kdM
  by_cases q : x = 2 ∨ 300 ≤ x
  · rw [if_pos q]
    have g : ∀ y, y = 1 ∨ y = 2 ∨ 300 ≤ y → opV y = -1 := fun y hy => by
      unfold opV
      repeat rw [if_neg (by omega)]
    rw [g 1 (by omega), g x (by omega)]
  · rw [if_neg q]
    by_cases q3 : x = 3
    · rw [if_pos q3, q3]; rfl
    · rw [if_neg q3]
/-- a sign: what binds as strongly comes first -/
theorem m_sign (hm : mtL t B n i) (h : sgv (tkK B n i) r) (hr : 1 ≤ r) : ∃ K, 4 ≤ K ∧ K ≤ 14 ∧ rkM K = r ∧ ndR 0 (tkK B n i) 0 K 0 ∧ lvV (tkK B n i) = nI (r - 1) ∧ 38 ≤ tkK B n i ∧ ∀ x, L_X12_readExp_389 en (d' + 1) v1 v2 v3 0 (nI K) (nI r) (nI (if r = 3 then 4 else r)) t = some x → L_X12_readExp_347 en (d' + 1) v1 v2 v3 0 t = some x := by
  rcases h with ⟨-, -, h⟩ | ⟨K, h1, h2, h3, h4, h5, h6, h7, h8, h9, h10⟩
  · omega
  refine ⟨K, h1, h2, h4, h10, h7, h8, fun x hx => ?_⟩
  have e := m_opTk (en := en) (d' := d') hm
  rw [opV_kd (tkK_lt hm.1.2.2) hm.2.2.2.1, h3] at e
  refine le_X12_readExp_347 en _ _ _ _ _ _ _ ?_
  rw [e, bI_some, if_pos (fun z => (n_m1 (by omega)).mp z), m_rankOf (by omega), bI_some, h4]
  refine le_X12_readExp_368 en _ _ _ _ _ _ _ _ _ ?_
  rw [if_neg (fun z => (n_m1 (by omega)).mp z)]
  by_cases q : r = 3
  · rw [if_pos q] at hx
    rw [if_neg (by rw [q]; exact not_not_intro rfl)]
    exact hx
  · rw [if_neg q] at hx
    rw [if_pos (by rw [n_eq (by decide) (by omega)]; exact q)]
    exact hx
/-- no sign: the expression is over -/
theorem m_over (hm : mtL t B n i) (h : sgv (tkK B n i) 0) : ∀ x, L_X12_readExp_488 en (d' + 1) v1 v2 t = some x → L_X12_readExp_347 en (d' + 1) v1 v2 v3 0 t = some x := by
  rcases h with ⟨-, h1, -⟩ | ⟨K, -, -, -, -, h5, -⟩
  · intro x hx
    have e := m_opTk (en := en) (d' := d') hm
    rw [opV_kd (tkK_lt hm.1.2.2) hm.2.2.2.1, h1] at e
    refine le_X12_readExp_347 en _ _ _ _ _ _ _ ?_
    rw [e, bI_some, if_neg (not_not_intro rfl)]
    refine le_X12_readExp_368 en _ _ _ _ _ _ _ _ _ ?_
    rw [if_pos rfl]
    refine le_X12_readExp_392 en _ _ _ _ _ _ _ _ _ ?_
    rw [if_pos (by decide)]
    refine le_X12_readExp_428 en _ _ _ _ _ _ _ _ _ ?_
    rw [if_pos rfl]
    refine le_X12_readExp_446 en _ _ _ _ _ _ _ _ _ ?_
    rw [if_pos (by decide)]
    refine le_X12_readExp_20 en _ _ _ _ _ _ _ _ ?_
    rw [m_goodL hm.2.1, bI_some, if_neg (by decide), if_pos (by decide)]
    exact hx
  · omega
/-- a second test: the expression is over -/
theorem m_second (h7 : t.1 151 7 = 0) (h31 : t.1 151 31 = nI k) (hk : 0 < k ∧ k ≤ 2000) (hp : t.1 163 (k - 1) = nI (pl (k - 1)) ∧ pl (k - 1) < 30) (hK : 4 ≤ K ∧ K ≤ 14) (h3 : rkM (pl (k - 1)) = 3) : ∀ x, L_X12_readExp_488 en (d' + 2) v1 v2 t = some x → L_X12_readExp_392 en (d' + 2) v1 v2 v3 0 (nI K) (nI 3) t = some x := by
  intro x hx
  refine le_X12_readExp_392 en _ _ _ _ _ _ _ _ _ ?_
  have e267 : qev en (d' + 2) 267 [.int (nI (pl (k - 1)))] t = some (some (.int (nI 3)), t) := by
    refine le_X12_lastRank en _ _ _ _ ?_
    rw [if_pos (by
      rw [n_eq (by decide) (by omega)]
      intro z
      rw [z] at h3
      have : rkM 22 = 0 := rfl
      omega), m_rankOf hp.2, h3, bI_some]
  have nn3 : ¬ ¬ nI 3 = (3 : Int32) := not_not_intro rfl
  rw [if_neg nn3, h31, if_neg (by rw [n_ge (by decide) (by omega)]; omega), show nI k - (1 : Int32) = nI (k - 1) from n_sr (by omega), gd_in (by omega) (by decide), n_cl (by omega), hp.1, e267, bI_some, if_neg nn3]
  refine le_X12_readExp_428 en _ _ _ _ _ _ _ _ _ ?_
  rw [if_neg (fun z => (n_m1 (by omega)).mp z), if_neg (by decide)]
  refine le_X12_readExp_446 en _ _ _ _ _ _ _ _ _ ?_
  rw [if_pos (by decide)]
  refine le_X12_readExp_20 en _ _ _ _ _ _ _ _ ?_
  rw [m_goodL h7, bI_some, if_neg (by decide), if_pos (by decide)]
  exact hx
/-- a sign that comes onto the pile -/
theorem m_push (h31 : t.1 151 31 = nI k) (hk : k ≤ 1990) (hp : k = 0 ∨ (t.1 163 (k - 1) = nI (pl (k - 1)) ∧ pl (k - 1) < 30 ∧ (pl (k - 1) = 22 ∨ rkM (pl (k - 1)) ≠ 3)) ∨ r ≠ 3) (hr : r ≤ 6) (hK : 4 ≤ K ∧ K ≤ 14) : ∀ x, bV (qev en (d' + 2) 263 [.ref 151] t) (fun s3 => gd (p_inB (s3.1 151 31) 2000 = true) (nm (uI s3 163 ((s3.1 151 31).toNatClampNeg) (nI K)) (fun s6 => nm (uI s6 151 31 ((s6.1 151 31) + (1 : Int32))) (fun s7 => bV (qev en (d' + 2) 249 [.ref 151] s7) (fun s9 => L_X12_readExp_20 en (d' + 2) v1 v2 v3 (1 : Int32) 0 s9))))) = some x → L_X12_readExp_392 en (d' + 2) v1 v2 v3 0 (nI K) (nI r) t = some x := by
  intro x hx
  have g428 : L_X12_readExp_428 en (d' + 2) v1 v2 v3 0 (nI K) 0 t = some x := by
    refine le_X12_readExp_428 en _ _ _ _ _ _ _ _ _ ?_
    rw [if_neg (fun z => (n_m1 (by omega)).mp z), if_pos rfl]
    refine le_X12_readExp_446 en _ _ _ _ _ _ _ _ _ ?_
    rw [if_neg (not_not_intro rfl)]
    exact hx
  refine le_X12_readExp_392 en _ _ _ _ _ _ _ _ _ ?_
  by_cases q3 : r = 3
  · rw [if_neg (by rw [q3]; exact not_not_intro rfl), h31]
    by_cases q0 : k = 0
    · rw [if_pos (by rw [q0]; decide)]; exact g428
    · obtain ⟨p1, p2, p3⟩ := (hp.resolve_left q0).resolve_right (not_not_intro q3)
      have e267 : ∃ rr : Nat, rr ≠ 3 ∧ rr ≤ 6 ∧ qev en (d' + 2) 267 [.int (nI (pl (k - 1)))] t = some (some (.int (nI rr)), t) := by
        by_cases z : pl (k - 1) = 22
        · refine ⟨0, by decide, by decide, le_X12_lastRank en _ _ _ _ ?_⟩
          rw [if_neg (by rw [z]; exact not_not_intro rfl)]
          rfl
        · refine ⟨rkM (pl (k - 1)), p3.resolve_left z, rkM_le, le_X12_lastRank en _ _ _ _ ?_⟩
          rw [if_pos (by rw [n_eq (by decide) (by omega)]; exact z), m_rankOf p2, bI_some]
      obtain ⟨rr, r1, r2, r3⟩ := e267
      rw [if_neg (by rw [n_ge (by decide) (by omega)]; omega), show nI k - (1 : Int32) = nI (k - 1) from n_sr (by omega), gd_in (by omega) (by decide), n_cl (by omega), p1, r3, bI_some, if_pos (by rw [n_eq (by decide) (by omega)]; exact r1)]
      exact g428
  · rw [if_pos (by rw [n_eq (by decide) (by omega)]; exact q3)]
    exact g428
/-- nothing more of the expression comes -/
theorem reach488 (hS : lvS lw q bs u B n 1 b s t V U cl nc nl nt i ct m z h k pl) (hT : lvT 0 k h pl (tkK B n i)) (hq : plcQ lw q bs) (hb : b ≤ 9) (hy : tkK B n i ≠ 41 ∨ b = 0) : ∃ t1 h1, h1 ≤ h ∧ (∀ x, L_X12_readExp_488 en (d' + 4) v1 (nI b) t1 = some x → L_X12_readExp_20 en (d' + 4) v1 (nI b) v3 0 0 t = some x) ∧ lvS lw q bs u B n 1 b s t1 V U cl nc nl nt i ct m (z + (h - h1)) h1 k pl ∧ emF (bs + z) t t1 := by
  obtain ⟨r, r1, r2⟩ := hT
  have hm := hS.1.1.2
  have hat := m_at347 (en := en) (d' := d' + 3) (v1 := v1) (v3 := v3) hm hy hb
  by_cases r0 : r = 0
  · subst r0
    refine ⟨t, h, Nat.le_refl h, fun x hx => hat x (m_over hm r1 x hx), ?_, emF.rf⟩
    rw [show h - h = 0 by omega]
    exact hS
  · obtain ⟨r3, j, j1, j2, j3⟩ := r2.resolve_left (by omega)
    subst r3
    obtain ⟨K, k1, k2, k3, k4, k5, k6, k7⟩ := m_sign (en := en) (d' := d' + 3) (v1 := v1) (v2 := nI b) (v3 := v3) hm r1 (by decide)
    have hst : stC pl 4 (k + h) = k + (j + 1 - k) := by
      rw [show k + h = j + 1 + (k + h - j - 1) by omega, stC_go (fun o o1 o2 => by
        have g1 := hS.2.2.1 o (by omega) (by omega)
        have g2 := hS.2.2.2.1 j o j1 (by omega) (by omega)
        omega), stC_st (Or.inr (Or.inr (by rw [show j + 1 - 1 = j by omega]; omega)))]
      omega
    obtain ⟨t1, e1, e2, e3⟩ := pop_gen (en := en) (d' := d' + 1) hS hq (by decide) hb hst (by omega)
    refine ⟨t1, j + 1 - k, by omega, fun x hx => hat x (k7 x ?_), e2, e3⟩
    refine le_X12_readExp_389 en _ _ _ _ _ _ _ _ _ _ ?_
    have e1' : qev en (d' + 4) 266 [.ref 151, .int (nI (if 3 = 3 then 4 else 3))] t = some (none, t1) := e1
    rw [e1', bV_some]
    have hp1 := pil_of e2.1
    have hb1 := e2.2.1
    have hct := e2.1.2.2.2.2.1.2.2
    rw [show k + (j + 1 - k) = j + 1 by omega] at hp1
    exact m_second (pl := pl) (k := j + 1) e2.1.1.2.2.1 hp1.1 ⟨by omega, by omega⟩ (by rw [show j + 1 - 1 = j by omega]; exact hp1.2 j (by omega)) ⟨k1, k2⟩ (by rw [show j + 1 - 1 = j by omega]; exact j3) x hx
end EXS
