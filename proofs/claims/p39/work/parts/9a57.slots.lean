/-! ROWS OF A STATE: its slots, packed and unpacked. -/
def rg (a n : Nat) : List Nat := (List.range n).map (fun k => a + k)
theorem rg_len {a n : Nat} : (rg a n).length = n := by unfold rg; rw [List.length_map, List.length_range]
theorem rg_s {a n : Nat} : rg a (n + 1) = rg a n ++ [a + n] := by unfold rg; rw [List.range_succ, List.map_append]; rfl
theorem rg_mem {a n x : Nat} : x ∈ rg a n ↔ a ≤ x ∧ x < a + n := by
  unfold rg
  rw [List.mem_map]
  constructor
  · rintro ⟨k, hk, rfl⟩
    have := List.mem_range.mp hk
    omega
  · rintro ⟨h1, h2⟩
    exact ⟨x - a, List.mem_range.mpr (by omega), by omega⟩
def evL (L : List Nat) : List Nat := if L.length % 2 = 0 then L else L ++ [235]
theorem evL_len {L : List Nat} : (evL L).length % 2 = 0 ∧ (evL L).length ≤ L.length + 1 ∧ L.length ≤ (evL L).length := by
  unfold evL
  split
  · exact ⟨by assumption, by omega, by omega⟩
  · rw [List.length_append, List.length_singleton]; omega
theorem evL_mem {L : List Nat} {x : Nat} (h : x ∈ L) : x ∈ evL L := by
  unfold evL
  split
  · exact h
  · exact List.mem_append_left _ h
theorem evL_mem' {L : List Nat} {x : Nat} (h : x ∈ evL L) : x ∈ L ∨ x = 235 := by
  unfold evL at h
  split at h
  · exact Or.inl h
  · rcases List.mem_append.mp h with q | q
    · exact Or.inl q
    · exact Or.inr (List.mem_singleton.mp q)
def locL (P : Nat → fI) : Nat → List Nat
  | 0 => []
  | t + 1 => locL P t ++ rg (16 + t * 6) (lct P t)
theorem locL_len {P : Nat → fI} : ∀ t, (∀ u, u < t → lct P u ≤ 6) → (locL P t).length ≤ 6 * t := by
  intro t
  induction t with
  | zero => intro _; exact Nat.le_refl 0
  | succ t ih =>
    intro h
    have a := ih (fun u hu => h u (by omega))
    have b := h t (Nat.lt_succ_self t)
    unfold locL
    rw [List.length_append, rg_len]
    omega
theorem locL_mem {P : Nat → fI} {x : Nat} : ∀ t, x ∈ locL P t ↔ ∃ u j, u < t ∧ j < lct P u ∧ x = 16 + u * 6 + j := by
  intro t
  induction t with
  | zero => exact ⟨fun h => (by cases h), fun ⟨u, j, h, _⟩ => absurd h (Nat.not_lt_zero u)⟩
  | succ t ih =>
    unfold locL
    rw [List.mem_append, ih, rg_mem]
    constructor
    · rintro (⟨u, j, h1, h2⟩ | ⟨h1, h2⟩)
      · exact ⟨u, j, by omega, h2⟩
      · exact ⟨t, x - (16 + t * 6), by omega, by omega, by omega⟩
    · rintro ⟨u, j, h1, h2, h3⟩
      by_cases q : u = t
      · subst q; right; omega
      · left; exact ⟨u, j, by omega, h2, h3⟩
/-- the slots of outcomes, of states -/
def slO (P : Nat → fI) (nc nt : Nat) : List Nat := evL ([233] ++ rg 48 nc ++ locL P nt)
def slB (P : Nat → fI) (w nc nl nt : Nat) : List Nat := slO P nc nt ++ rg 0 nt ++ rg 4 nt ++ rg 8 nt ++ rg 12 nt ++ rg 40 nl ++ rg 44 nl ++ (if w = 1 then rg 56 nt ++ rg 60 (nt * 3) else []) ++ (if w = 2 then rg 72 nc ++ rg 80 (nc * 9) ++ rg 152 (nc * 9) ++ rg 224 nt ++ rg 228 nl ++ rg 232 1 else [])
def slA (P : Nat → fI) (w nc nl nt : Nat) : List Nat := evL (slB P w nc nl nt)
section SLO
variable {P : Nat → fI} {w nc nl nt n a : Nat} {N M : fI}
theorem slO_len (hP : PV P nc nl nt n) : (slO P nc nt).length ≤ 34 ∧ (slO P nc nt).length % 2 = 0 := by
  have h1 := locL_len nt (fun u hu => (hP.2.2.2.2.2 u hu).2.2)
  have h2 := hP.1.2
  have h3 := hP.2.2.1.2
  have e := @evL_len ([233] ++ rg 48 nc ++ locL P nt)
  have l : ([233] ++ rg 48 nc ++ locL P nt).length = 1 + nc + (locL P nt).length := by
    rw [List.length_append, List.length_append, rg_len]; rfl
  refine ⟨?_, e.1⟩
  show (evL _).length ≤ 34
  omega
theorem slB_len (hP : PV P nc nl nt n) : (slB P w nc nl nt).length ≤ (if w = 2 then 219 else 74) ∧ (slO P nc nt).length ≤ (slB P w nc nl nt).length := by
  have h1 := (slO_len hP).1
  have h2 := hP.1.2
  have h3 := hP.2.2.1.2
  have h4 := hP.2.1.2
  unfold slB
  simp only [List.length_append, rg_len]
  by_cases w2 : w = 2
  · rw [if_pos w2, if_pos w2, if_neg (by omega)]
    simp only [List.length_append, rg_len, List.length_nil]
    omega
  · rw [if_neg w2, if_neg w2]
    by_cases w1 : w = 1
    · rw [if_pos w1]
      simp only [List.length_append, rg_len, List.length_nil]
      omega
    · rw [if_neg w1]
      simp only [List.length_nil]
      omega
theorem slA_len (hP : PV P nc nl nt n) : (slA P w nc nl nt).length ≤ (if w = 2 then 220 else 74) ∧ (slA P w nc nl nt).length % 2 = 0 ∧ (slO P nc nt).length ≤ (slA P w nc nl nt).length := by
  have e := @evL_len (slB P w nc nl nt)
  have h := slB_len (w := w) hP
  unfold slA
  refine ⟨?_, e.1, by omega⟩
  by_cases w2 : w = 2
  · rw [if_pos w2] at h ⊢; omega
  · rw [if_neg w2] at h ⊢; omega
theorem slO_mem : a ∈ slO P nc nt → a = 233 ∨ a = 235 ∨ (48 ≤ a ∧ a < 48 + nc) ∨ ∃ u j, u < nt ∧ j < lct P u ∧ a = 16 + u * 6 + j := by
  intro h
  rcases evL_mem' h with h | h
  · rcases List.mem_append.mp h with h | h
    · rcases List.mem_append.mp h with h | h
      · exact Or.inl (List.mem_singleton.mp h)
      · exact Or.inr (Or.inr (Or.inl (rg_mem.mp h)))
    · exact Or.inr (Or.inr (Or.inr ((locL_mem nt).mp h)))
  · exact Or.inr (Or.inl h)
theorem slO_of : (a = 233 ∨ (48 ≤ a ∧ a < 48 + nc) ∨ ∃ u j, u < nt ∧ j < lct P u ∧ a = 16 + u * 6 + j) → a ∈ slO P nc nt := by
  intro h
  refine evL_mem ?_
  rw [List.mem_append, List.mem_append, rg_mem, locL_mem, List.mem_singleton]
  rcases h with h | h | h
  · exact Or.inl (Or.inl h)
  · exact Or.inl (Or.inr h)
  · exact Or.inr h
/-- the slots of a state, by places -/
abbrev slP (P : Nat → fI) (w nc nl nt a : Nat) : Prop := a ∈ slO P nc nt ∨ a < nt ∨ (4 ≤ a ∧ a < 4 + nt) ∨ (8 ≤ a ∧ a < 8 + nt) ∨ (12 ≤ a ∧ a < 12 + nt) ∨ (40 ≤ a ∧ a < 40 + nl) ∨ (44 ≤ a ∧ a < 44 + nl) ∨ (w = 1 ∧ ((56 ≤ a ∧ a < 56 + nt) ∨ (60 ≤ a ∧ a < 60 + nt * 3))) ∨ (w = 2 ∧ ((72 ≤ a ∧ a < 72 + nc) ∨ (80 ≤ a ∧ a < 80 + nc * 9) ∨ (152 ≤ a ∧ a < 152 + nc * 9) ∨ (224 ≤ a ∧ a < 224 + nt) ∨ (228 ≤ a ∧ a < 228 + nl) ∨ a = 232))
theorem slB_mem : a ∈ slB P w nc nl nt ↔ slP P w nc nl nt a := by
  unfold slB slP
  by_cases w1 : w = 1
  · have w2 : ¬ w = 2 := by omega
    rw [if_pos w1, if_neg w2]
    simp only [List.mem_append, rg_mem, List.not_mem_nil, or_false, w1, true_and, or_assoc, Nat.zero_add, Nat.zero_le]
    have : ¬ (1 : Nat) = 2 := by decide
    simp only [this, false_and, or_false]
  · by_cases w2 : w = 2
    · rw [if_neg w1, if_pos w2]
      simp only [List.mem_append, rg_mem, List.not_mem_nil, or_false, false_or, w2, true_and, or_assoc, Nat.zero_add, Nat.zero_le]
      have : ¬ (2 : Nat) = 1 := by decide
      have e : (232 ≤ a ∧ a < 232 + 1) ↔ a = 232 := by omega
      simp only [this, false_and, false_or, e]
    · rw [if_neg w1, if_neg w2]
      simp only [List.mem_append, rg_mem, List.not_mem_nil, or_false, w1, w2, false_and, or_assoc, Nat.zero_add, Nat.zero_le, true_and]
theorem slA_mem : a ∈ slA P w nc nl nt → slP P w nc nl nt a ∨ a = 235 := fun h => (evL_mem' h).imp slB_mem.mp id
theorem slA_of (h : slP P w nc nl nt a) : a ∈ slA P w nc nl nt := evL_mem (slB_mem.mpr h)
theorem slA_lt (hP : PV P nc nl nt n) (h : a ∈ slA P w nc nl nt) : a < 236 := by
  have h2 := hP.1.2
  have h3 := hP.2.2.1.2
  have h4 := hP.2.1.2
  rcases slA_mem h with h | h
  · rcases h with h | h
    · rcases slO_mem h with z | z | z | ⟨u, j, z1, z2, z3⟩
      · omega
      · omega
      · omega
      · have := (hP.2.2.2.2.2 u z1).2.2
        omega
    · omega
  · omega
/-- what other places hold -/
def cst (a : Nat) : Int32 := if (4 ≤ a ∧ a < 8) ∨ (40 ≤ a ∧ a < 44) then -1 else 0
theorem SV_cst (hP : PV P nc nl nt n) (hS : SV P w nc nl nt n N) (ha : a < 233) (h : ¬ slP P w nc nl nt a) : N a = cst a := by
  have h2 := hP.1.2
  have h3 := hP.2.2.1.2
  have h4 := hP.2.1.2
  obtain ⟨⟨-, St⟩, Sl, Sk, Sc, Sq, Sw⟩ := hS
  unfold slP at h
  have c0 : ∀ b, ¬ ((4 ≤ b ∧ b < 8) ∨ (40 ≤ b ∧ b < 44)) → cst b = 0 := fun b hb => if_neg hb
  have c1 : ∀ b, ((4 ≤ b ∧ b < 8) ∨ (40 ≤ b ∧ b < 44)) → cst b = -1 := fun b hb => if_pos hb
  rcases Nat.lt_or_ge a 16 with q | q
  · -- threads
    obtain ⟨i, t, rfl, hi, ht⟩ : ∃ i t, a = 4 * i + t ∧ i < 4 ∧ t < 4 := ⟨a / 4, a % 4, by omega, by omega, by omega⟩
    have htn : nt ≤ t := by
      rcases (by omega : i = 0 ∨ i = 1 ∨ i = 2 ∨ i = 3) with rfl | rfl | rfl | rfl <;> omega
    obtain ⟨z1, z2, z3, z4⟩ := St t htn ht
    rcases (by omega : i = 0 ∨ i = 1 ∨ i = 2 ∨ i = 3) with rfl | rfl | rfl | rfl
    · rw [c0 _ (by omega), show 4 * 0 + t = t by omega]; exact z1
    · rw [c1 _ (by omega)]; exact z2
    · rw [c0 _ (by omega)]; exact z3
    · rw [c0 _ (by omega)]; exact z4
  rcases Nat.lt_or_ge a 40 with q2 | q2
  · obtain ⟨t, j, rfl, ht, hj⟩ : ∃ t j, a = 16 + t * 6 + j ∧ t < 4 ∧ j < 6 := ⟨(a - 16) / 6, (a - 16) % 6, by omega, by omega, by omega⟩
    rw [c0 _ (by omega)]
    rcases Sl t j ht hj with z | z
    · exact absurd (Or.inl (slO_of (Or.inr (Or.inr ⟨t, j, z.1, z.2.1, rfl⟩)))) h
    · exact z.2
  rcases Nat.lt_or_ge a 48 with q3 | q3
  · obtain ⟨i, l, rfl, hi, hl⟩ : ∃ i l, a = 40 + 4 * i + l ∧ i < 2 ∧ l < 4 := ⟨(a - 40) / 4, (a - 40) % 4, by omega, by omega, by omega⟩
    have hln : nl ≤ l := by
      rcases (by omega : i = 0 ∨ i = 1) with rfl | rfl <;> omega
    rcases Sk l hl with z | z
    · rcases (by omega : i = 0 ∨ i = 1) with rfl | rfl
      · rw [c1 _ (by omega)]; exact z.1
      · rw [c0 _ (by omega)]; exact z.2
    · have := z.1; omega
  rcases Nat.lt_or_ge a 56 with q4 | q4
  · obtain ⟨c, rfl, hc⟩ : ∃ c, a = 48 + c ∧ c < 8 := ⟨a - 48, by omega, by omega⟩
    rw [c0 _ (by omega)]
    rcases Sc c hc with z | z
    · exact absurd (Or.inl (slO_of (Or.inr (Or.inl ⟨by omega, by omega⟩)))) h
    · exact z.2
  rw [c0 a (by omega)]
  rcases Nat.lt_or_ge a 72 with q5 | q5
  · rcases Nat.lt_or_ge a 60 with q6 | q6
    · obtain ⟨t, rfl, ht⟩ : ∃ t, a = 56 + t ∧ t < 4 := ⟨a - 56, by omega, by omega⟩
      rcases Sq t ht with z | z
      · exfalso; omega
      · exact z.2.1
    · obtain ⟨t, k, rfl, ht, hk⟩ : ∃ t k, a = 60 + t * 3 + k ∧ t < 4 ∧ k < 3 := ⟨(a - 60) / 3, (a - 60) % 3, by omega, by omega, by omega⟩
      rcases Sq t ht with z | z
      · exfalso; omega
      · exact z.2.2 k hk
  rcases Sw with z | ⟨hw, zc, zt, zl, -⟩
  · exact z.2 a q5 ha
  · rcases Nat.lt_or_ge a 80 with q6 | q6
    · obtain ⟨c, rfl, hc⟩ : ∃ c, a = 72 + c ∧ c < 8 := ⟨a - 72, by omega, by omega⟩
      rcases zc c hc with z | z
      · exfalso; omega
      · exact z.2.1
    rcases Nat.lt_or_ge a 152 with q7 | q7
    · obtain ⟨c, k, rfl, hc, hk⟩ : ∃ c k, a = 80 + c * 9 + k ∧ c < 8 ∧ k < 9 := ⟨(a - 80) / 9, (a - 80) % 9, by omega, by omega, by omega⟩
      rcases zc c hc with z | z
      · exfalso; omega
      · exact (z.2.2 k hk).1
    rcases Nat.lt_or_ge a 224 with q8 | q8
    · obtain ⟨c, k, rfl, hc, hk⟩ : ∃ c k, a = 152 + c * 9 + k ∧ c < 8 ∧ k < 9 := ⟨(a - 152) / 9, (a - 152) % 9, by omega, by omega, by omega⟩
      rcases zc c hc with z | z
      · exfalso; omega
      · exact (z.2.2 k hk).2
    rcases Nat.lt_or_ge a 228 with q9 | q9
    · obtain ⟨t, rfl, ht⟩ : ∃ t, a = 224 + t ∧ t < 4 := ⟨a - 224, by omega, by omega⟩
      rcases zt t ht with z | z
      · exfalso; omega
      · exact z.2
    rcases Nat.lt_or_ge a 232 with q10 | q10
    · obtain ⟨l, rfl, hl⟩ : ∃ l, a = 228 + l ∧ l < 4 := ⟨a - 228, by omega, by omega⟩
      rcases zl l hl with z | z
      · exfalso; omega
      · exact z.2
    · exfalso; omega
/-- two states are one if their slots are -/
def eqS (N M : fI) : Prop := ∀ j, j < 233 → N j = M j
theorem eqS_of (hP : PV P nc nl nt n) (hS : SV P w nc nl nt n N) (hM : SV P w nc nl nt n M) (h : ∀ a, a ∈ slA P w nc nl nt → N a = M a) : eqS N M := by
  intro a ha
  by_cases q : slP P w nc nl nt a
  · exact h a (slA_of q)
  · rw [SV_cst hP hS ha q, SV_cst hP hM ha q]
theorem SV_eqS (hP : PV P nc nl nt n) (h : eqS N M) (hM : SV P w nc nl nt n M) : SV P w nc nl nt n N := by
  have h2 := hP.1.2
  have h3 := hP.2.2.1.2
  obtain ⟨a, b, c, e, f, g⟩ := hM
  exact ⟨svt_cg h3 (fun j hj => h j (by omega)) a, svl_cg (fun j _ hj => h j (by omega)) b, svk_cg (fun j _ hj => h j (by omega)) c, svc_cg (fun j _ hj => h j (by omega)) e, svq_cg (fun j _ hj => h j (by omega)) f, svw_cg (fun j _ hj => h j (by omega)) g⟩
/-- the model's rows tell states apart as well -/
theorem pq_two (hS : SVq P w nc nt N) (hnc : nc ≤ 8) {t k : Nat} (ht : t < 4) (hk : k < 3) : ∃ c v, c < 8 ∧ inR v ∧ N (60 + t * 3 + k) = pkq v c := by
  have z0 : N (60 + t * 3 + k) = 0 → ∃ c v, c < 8 ∧ inR v ∧ N (60 + t * 3 + k) = pkq v c := fun z => ⟨0, 0, by decide, ⟨by decide, by decide⟩, by rw [z]; rfl⟩
  rcases hS t ht with ⟨-, -, q, -, -, hq⟩ | ⟨-, -, hq⟩
  · rcases hq k hk with ⟨-, c, v, hc, -, hv, e⟩ | ⟨-, e⟩
    · exact ⟨c, v, by omega, hv, e⟩
    · exact z0 e
  · exact z0 (hq k hk)
theorem thV_85 {t : Nat} (h : thV P n N t) : (N t = 5 → N (12 + t) = 0) ∧ (N t ≠ 5 → N (8 + t) = 0) := by
  rcases h with ⟨a, -, b, c⟩ | ⟨a, -, b, c⟩ | ⟨a, -, b, c⟩ | ⟨a, -, b, c⟩
  · exact ⟨fun _ => c, fun _ => b⟩
  · exact ⟨fun _ => c, fun _ => b⟩
  · refine ⟨fun z => ?_, fun _ => b⟩
    rcases a with a | a <;> rw [a] at z <;> exact absurd z (by decide)
  · exact ⟨fun _ => b, fun z => absurd a z⟩
theorem SVt_85 (hnt : nt ≤ 4) (hS : SVt P nt n N) {t : Nat} (ht : t < 4) : (N t = 5 → N (12 + t) = 0) ∧ (N t ≠ 5 → N (8 + t) = 0) := by
  by_cases q : t < nt
  · exact thV_85 (hS.1 t q)
  · obtain ⟨a, b, c, e⟩ := hS.2 t (by omega) ht
    exact ⟨fun _ => e, fun _ => c⟩
theorem add1_inj {x y : Int32} (h : x + 1 = y + 1) : x = y := by
  have := congrArg (fun z => z - 1) h
  simpa [Int32.add_sub_cancel] using this
theorem sm_eqS (hw2 : w ≤ 2) (h : eqS N M) : ∀ i, i < wid w → sm w N i = sm w M i := fun i hi => sm_congr fun a ha => h a (by
  have : wid w ≤ 213 := by unfold wid; split <;> (try split) <;> omega
  have w1 : w = 1 → wid w = 80 := fun e => by rw [e, wid_1]
  have : dep w i a := ha
  unfold dep at this
  omega)
end SLO

