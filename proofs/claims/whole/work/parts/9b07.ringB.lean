/-! RINGS and lost ends, both sides. -/
section RG2
variable {en : pN} {d d' w nc nl nt n p k t i m vv : Nat} {P : Nat → fI} {S : Nat → fI} {τ σ ρ : qS} {X : xT} {fw : Bool} {F F0 s y g N : fI} {D : Int64} {a : Int32}
theorem m_blocked (hB : MB ρ vv P nc nl nt n) (hP : PV P nc nl nt n) (hS : SV P w nc nl nt n N) (hF : MF F w vv nc nl nt) (hR : MR w N s) (ht : t < nt) : qev en (d + 2) 384 [.ref 151, .int (nI t)] (mM ρ F s y g D) = some (some (.int (blS P N t)), mM ρ F s y g D) := by
  have ht4 := hP.2.2.1.2
  have hn := hP.2.2.2.1.2
  have hl4 := hP.2.1.2
  have hvv := hB.1
  have es : s t = N t := mr_st hR (by omega)
  have l73 : ∀ x : Int32, L_X12_blockedBy_73 en (d + 1) (nI t) x (mM ρ F s y g D) = some (some (.int (if x < 0 ∨ x = nI t then -2 else x)), mM ρ F s y g D) := fun x => by
    refine le_X12_blockedBy_73 en _ _ _ _ _ ?_
    by_cases h0 : x < 0
    · rw [if_pos h0, if_pos (Or.inl h0)]
    rw [if_neg h0]
    by_cases h1 : x = nI t
    · rw [if_neg (not_not_intro h1), if_pos (Or.inr h1)]
    · rw [if_pos h1, if_neg (fun z => z.elim h0 h1)]
  have no : hopS P N t = -1 → L_X12_blockedBy_43 en (d + 1) (nI t) 0 (mM ρ F s y g D) = some (some (.int (blS P N t)), mM ρ F s y g D) := fun h => by
    refine le_X12_blockedBy_43 en _ _ _ _ _ ?_
    rw [if_pos rfl, l73]
    unfold blS
    rw [h]
    rfl
  have yes : ∀ i l, i < n → l < nl → N (4 + t) = nI i → P 9 i = nI l → hopS P N t = N (40 + l) → L_X12_blockedBy_43 en (d + 1) (nI t) 1 (mM ρ F s y g D) = some (some (.int (blS P N t)), mM ρ F s y g D) := fun i l hi hl h4 h9 h => by
    refine le_X12_blockedBy_43 en _ _ _ _ _ ?_
    have e166 : (mM ρ F s y g D).1 166 (100 * vv + i) = nI l := by
      rw [mM_o (by decide) (by decide) (by decide) (by decide), (hB.2.1 i hi).2.1, h9]
    have e187 : (mM ρ F s y g D).1 187 (36 + l) = N (40 + l) + 1 := mr_ow hR (by omega)
    have e1 : N (40 + l) + 1 - (1 : Int32) = N (40 + l) := by
      rw [Int32.add_sub_cancel]
    rw [if_neg (by decide), m_line (d := d) hF hR (by omega) hvv h4 (by omega), bI_some, gd_true (n_in (by omega) (by decide)), n_cl (by omega), e166, n_al, gd_true (n_in (by omega) (by decide)), n_cl (by omega), e187, e1, l73]
    unfold blS
    rw [h]
  refine le_X12_blockedBy en _ _ _ _ ?_
  rw [Int32.zero_add, gd_true (n_in (by omega) (by decide)), n_cl (by omega), show (mM ρ F s y g D).1 187 t = N t from es]
  by_cases h3 : N t = 3
  · rw [if_pos h3]
    obtain ⟨⟨i, hi, h4, h8, hk⟩, -⟩ := sv_wok (hS.1.1 t ht) h3
    have ei : clp (N (4 + t)) = i := by rw [h4]; exact n_clp (by omega)
    obtain ⟨h9, ho⟩ := (hP.2.2.2.2.1 i hi).2.2.2.1 (by omega) (by omega)
    refine yes i (ob P i) hi ho h4 h9 ?_
    unfold hopS laS
    rw [if_pos (Or.inl h3), ei, n_clp (a := ob P i) (by omega), if_neg (by rw [n_m1 (by omega)]; exact fun z => z)]
  rw [if_neg h3]
  by_cases h1 : N t = 1
  · rw [if_neg (not_not_intro h1)]
    obtain ⟨⟨i, hi, h4, h8⟩, -⟩ := sv_run (hS.1.1 t ht) h1
    have ei : clp (N (4 + t)) = i := by rw [h4]; exact n_clp (by omega)
    obtain ⟨⟨hk, hk19⟩, -, -, ho5, -⟩ := hP.2.2.2.2.1 i hi
    have e164 : (mM ρ F s y g D).1 164 (100 * vv + i) = nI (kd P i) := by
      rw [mM_o (by decide) (by decide) (by decide) (by decide), (hB.2.1 i hi).1, ← hk]
    rw [m_line (d := d) hF hR (by omega) hvv h4 (by omega), bI_some, gd_true (n_in (by omega) (by decide)), n_cl (by omega), e164]
    by_cases h5 : kd P i = 5
    · obtain ⟨h9, ho⟩ := ho5 (by omega) (by omega)
      rw [if_neg (not_not_intro (by rw [h5]; rfl))]
      refine yes i (ob P i) hi ho h4 h9 ?_
      unfold hopS laS
      rw [ei, if_pos (Or.inr ⟨h1, h5⟩), n_clp (a := ob P i) (by omega), if_neg (by rw [n_m1 (by omega)]; exact fun z => z)]
    · rw [if_pos (by rw [show (5 : Int32) = nI 5 from rfl, n_EQ (by omega) (by omega)]; exact h5)]
      refine no ?_
      have el : laS P N t = -1 := by
        unfold laS
        rw [ei, if_neg (fun z => z.elim h3 (fun z => h5 z.2))]
      unfold hopS
      rw [el, if_pos rfl]
  · rw [if_pos h1]
    refine no ?_
    have el : laS P N t = -1 := by
      unfold laS
      rw [if_neg (fun z => z.elim h3 (fun z => h1 z.1))]
    unfold hopS
    rw [el, if_pos rfl]
theorem bl_v (hv : ∀ u, u < nt → hopS P N u = -1 ∨ ∃ e, e < nt ∧ hopS P N u = nI e) (ht : t < nt) : blS P N t = -2 ∨ ∃ e, e < nt ∧ blS P N t = nI e := by
  unfold blS
  rcases hv t ht with h | ⟨e, he, h⟩
  · rw [h]; exact Or.inl rfl
  · rw [h]
    split
    · exact Or.inl rfl
    · exact Or.inr ⟨e, he, rfl⟩
/-- the least thread of a ring, told by the model -/
def mlF (P : Nat → fI) (N : fI) : Nat → Nat → Option Nat
  | 0, _ => none
  | m + 1, t => if mrF P N t 4 (blS P N t) = true then some t else mlF P N m (t + 1)
abbrev opI (o : Option Nat) : Int32 := match o with
  | some t => nI t
  | none => -2
theorem m_leastRing (hB : MB ρ vv P nc nl nt n) (hP : PV P nc nl nt n) (hS : SV P w nc nl nt n N) (hF : MF F w vv nc nl nt) (hR : MR w N s) : qev en (d + 3) 385 [.ref 151] (mM ρ F s y g D) = some (some (.int (opI (mlF P N nt 0))), mM ρ F s y g D) := by
  have ht4 := hP.2.2.1.2
  have hv := fun u hu => hop_v (t := u) hP hS hu
  have e18 : (mM ρ F s y g D).1 151 18 = nI nt := by rw [mM_F]; exact hF.2.2.1
  have ne2 : ∀ u, u < nt → ¬ nI u = -2 := fun u hu z => by
    have := n_m2 (a := u) (by omega)
    rw [this] at z; exact z
  have inner : ∀ t, t < nt → ∀ (k z : Nat) (u : Int32), z + k = 4 → (u = -2 ∨ ∃ e, e < nt ∧ u = nI e) → ∀ r, (if mrF P N t k u = true then some (some (.int (nI t)), mM ρ F s y g D) else L_X12_leastInRing_2 en (d + 2) (nI (t + 1)) (mM ρ F s y g D)) = some r → L_X12_leastInRing_18 en (d + 2) (nI t) u (nI z) (mM ρ F s y g D) = some r := by
    intro t ht k
    have l46 : ∀ (u : Int32) r, (if u = nI t then some (some (.int (nI t)), mM ρ F s y g D) else L_X12_leastInRing_2 en (d + 2) (nI (t + 1)) (mM ρ F s y g D)) = some r → L_X12_leastInRing_46 en (d + 2) (nI t) u (mM ρ F s y g D) = some r := fun u r h => by
      refine le_X12_leastInRing_46 en _ _ _ _ _ ?_
      by_cases q : u = nI t
      · rw [if_pos q] at h
        rw [if_neg (not_not_intro q)]; exact h
      · rw [if_neg q] at h
        rw [if_pos q, show nI t + (1 : Int32) = nI (t + 1) from n_ar]; exact h
    induction k with
    | zero =>
      intro z u hz hu r h
      refine le_X12_leastInRing_18 en _ _ _ _ _ _ ?_
      rw [if_pos (by rw [show (4 : Int32) = nI 4 from rfl, n_LE (by omega) (by omega)]; omega)]
      refine l46 u r ?_
      have e : mrF P N t 0 u = decide (u = nI t) := rfl
      rw [e] at h
      by_cases q : u = nI t
      · rw [if_pos q]; rw [if_pos (decide_eq_true q)] at h; exact h
      · rw [if_neg q]; rw [if_neg (by rw [decide_eq_false q]; decide)] at h; exact h
    | succ k ih =>
      intro z u hz hu r h
      refine le_X12_leastInRing_18 en _ _ _ _ _ _ ?_
      rw [if_neg (by rw [show (4 : Int32) = nI 4 from rfl, n_LE (by omega) (by omega)]; omega)]
      have e : mrF P N t (k + 1) u = if u = -2 then false else if u = nI t then true else mrF P N t k (blS P N (clp u)) := rfl
      rw [e] at h
      by_cases q2 : u = -2
      · rw [if_pos q2, if_neg (by decide)] at h
        rw [if_pos q2]
        exact l46 u r (by rw [if_neg (by rw [q2]; exact fun z => ne2 t ht z.symm)]; exact h)
      · rw [if_neg q2] at h
        rw [if_neg q2]
        by_cases qt : u = nI t
        · rw [if_pos qt, if_pos rfl] at h
          rw [if_pos qt]
          exact l46 u r (by rw [if_pos qt]; exact h)
        · rw [if_neg qt] at h
          rw [if_neg qt]
          obtain ⟨e', he', rfl⟩ := hu.resolve_left q2
          rw [n_clp (by omega)] at h
          rw [m_blocked (d := d) hB hP hS hF hR he', bI_some, show nI z + (1 : Int32) = nI (z + 1) from n_ar]
          exact ih (z + 1) _ (by omega) (bl_v hv he') r h
  have loop : ∀ m t, t + m = nt → L_X12_leastInRing_2 en (d + 2) (nI t) (mM ρ F s y g D) = some (some (.int (opI (mlF P N m t))), mM ρ F s y g D) := by
    intro m
    induction m with
    | zero =>
      intro t ht
      refine le_X12_leastInRing_2 en _ _ _ _ ?_
      rw [e18, if_pos (by rw [n_LE (by omega) (by omega)]; omega)]
      rfl
    | succ m ih =>
      intro t ht
      refine le_X12_leastInRing_2 en _ _ _ _ ?_
      rw [e18, if_neg (by rw [n_LE (by omega) (by omega)]; omega), m_blocked (d := d) hB hP hS hF hR (show t < nt by omega), bI_some]
      refine inner t (by omega) 4 0 _ rfl (bl_v hv (by omega)) _ ?_
      have e : mlF P N (m + 1) t = if mrF P N t 4 (blS P N t) = true then some t else mlF P N m (t + 1) := rfl
      rw [e]
      by_cases q : mrF P N t 4 (blS P N t) = true
      · rw [if_pos q, if_pos q]
      · rw [if_neg q, if_neg q]; exact ih (t + 1) (by omega)
  refine le_X12_leastInRing en _ _ _ ?_
  exact loop nt 0 (by omega)
theorem ml_eq (hnt : nt ≤ 4) (hv : ∀ u, u < nt → hopS P N u = -1 ∨ ∃ e, e < nt ∧ hopS P N u = nI e) (hs : ∀ u, u < nt → ¬ hopS P N u = nI u) : ∀ m t, t + m = nt → mlF P N m t = lrF P N m t := by
  intro m
  induction m with
  | zero => intro t _; rfl
  | succ m ih =>
    intro t ht
    show (if mrF P N t 4 (blS P N t) = true then some t else mlF P N m (t + 1)) = if rngF P N t 4 (nI t) = true then some t else lrF P N m (t + 1)
    rw [ring_eq hnt (by omega) hv hs, ih (t + 1) (by omega)]
theorem m_lost (h18 : F 18 = nI nt) (hnt : nt ≤ 4) (hR : MR w N s) : qev en (d + 1) 386 [.ref 151] (mM ρ F s y g D) = some (some (.int (bt (losF N nt 0))), mM ρ F s y g D) := by
  have e18 : (mM ρ F s y g D).1 151 18 = nI nt := by rw [mM_F]; exact h18
  have loop : ∀ (m t : Nat) (b : Bool), t + m = nt → L_X12_isLostEnd_4 en d (bt b) (nI t) (mM ρ F s y g D) = some (some (.int (bt (b || losF N m t))), mM ρ F s y g D) := by
    intro m
    induction m with
    | zero =>
      intro t b ht
      refine le_X12_isLostEnd_4 en _ _ _ _ _ ?_
      rw [e18, if_pos (by rw [n_LE (by omega) (by omega)]; omega), gd_true (by cases b; exact Or.inl rfl; exact Or.inr rfl)]
      rw [show (b || losF N 0 t) = b from Bool.or_false b]
    | succ m ih =>
      intro t b ht
      refine le_X12_isLostEnd_4 en _ _ _ _ _ ?_
      have e : losF N (m + 1) t = (decide (N t = 2) || losF N m (t + 1)) := rfl
      rw [e18, if_neg (by rw [n_LE (by omega) (by omega)]; omega), e, show nI t + (1 : Int32) = nI (t + 1) from n_ar]
      cases b with
      | true =>
        rw [if_pos (by decide)]
        have := ih (t + 1) true (by omega)
        rw [Bool.true_or] at this ⊢
        exact this
      | false =>
        rw [if_neg (by decide), Int32.zero_add, gd_true (n_in (by omega) (by decide)), n_cl (by omega), show (mM ρ F s y g D).1 187 t = N t from mr_st hR (by omega), Bool.false_or]
        by_cases q : N t = 2
        · rw [if_neg (not_not_intro q), decide_eq_true q]
          exact ih (t + 1) true (by omega)
        · rw [if_pos q, decide_eq_false q]
          exact ih (t + 1) false (by omega)
  refine le_X12_isLostEnd en _ _ _ ?_
  have := loop nt 0 false (by omega)
  rw [Bool.false_or] at this
  exact this
/-- the fields of a state at hand -/
abbrev tkF (w : Nat) (F : fI) : fI := upd (upd (upd F 59 2) 58 (nI w)) 60 (nI (wid w))
theorem tkF_o {j : Nat} (h1 : j ≠ 58) (h2 : j ≠ 59) (h3 : j ≠ 60) : tkF w F j = F j := by
  show upd (upd (upd F 59 2) 58 (nI w)) 60 (nI (wid w)) j = F j
  rw [pk_un h3, pk_un h1, pk_un h2]
theorem tkF_MF (h12 : F 12 = nI nc) (h16 : F 16 = nI nl) (h18 : F 18 = nI nt) : MF (tkF w F) w 2 nc nl nt := ⟨by rw [tkF_o (by decide) (by decide) (by decide)]; exact h12, by rw [tkF_o (by decide) (by decide) (by decide)]; exact h16, by rw [tkF_o (by decide) (by decide) (by decide)]; exact h18, by
  show upd (upd (upd F 59 2) 58 (nI w)) 60 (nI (wid w)) 58 = _
  rw [pk_un (by decide), pk_us], by
  show upd (upd (upd F 59 2) 58 (nI w)) 60 (nI (wid w)) 59 = _
  rw [pk_un (by decide), pk_un (by decide), pk_us]; rfl⟩
theorem m_takeS (hw2 : w ≤ 2) (hX : XV P w nc nl nt n X) (h99 : F 99 = nI w) (hR : ∀ i, i < xN X → ∀ j, j < wid w → ρ.1 210 (i * wid w + j) = sm w (xS X i) j) (hk : k < xN X) : ∃ s', qev en (d + 2) 383 [.ref 151, .int (nI k)] (mM ρ F s y g D) = some (none, mM ρ (tkF w F) s' y g D) ∧ MR w (xS X k) s' := by
  have hxN := hX.1.2
  have hlim := @lim_le w
  have hw := wid_w hw2
  have hroom := rm_room (n := xN X) (k := k) (W := wid w) (by omega) (by
    rcases hw.2 with z | z
    · exact Or.inl z
    · right
      rw [z] at hxN
      exact hxN) hw.1 hk
  refine ⟨fun j => if j < wid w then sm w (xS X k) j else s j, le_X12_takeState en _ _ _ _ ?_, fun i hi => if_pos hi⟩
  have e := m_load (en := en) (d := d) (s := mM ρ (tkF w F) s y g D) (k := k) (W := wid w) (g := sm w (xS X k)) (by
    rw [mM_F]
    show upd (upd (upd F 59 2) 58 (nI w)) 60 (nI (wid w)) 60 = _
    rw [pk_us]) hw.1 hroom (by omega) (fun j hj => by rw [mM_o (by decide) (by decide) (by decide) (by decide)]; exact hR k hk j hj)
  rw [nm_eq, nm_eq, mM_wF, mM_F, pk_un (by decide), h99, mM_wF, mM_F, pk_us, m_width hw2, bI_some, nm_eq, mM_wF, e, bV_some, mM_Is, mM_s]
end RG2
