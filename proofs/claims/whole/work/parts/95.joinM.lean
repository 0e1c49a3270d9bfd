/-! EXPRESSIONS worked out by the model. -/
/-- a node of both: the class's operator k and operand q, the model's K and V; t the thread (in a program) -/
def ndR (t : Nat) (k : Nat) (q : Int32) (K : Nat) (V : Int32) : Prop :=
  (k = 1 ∧ K = 0 ∧ V = q) ∨ (k = 2 ∧ K = 1 ∧ ∃ j, j < 6 ∧ q = nI (16 + t * 6 + j) ∧ V = nI j) ∨ (k = 4 ∧ K = 2) ∨ (k = 33 ∧ K = 3) ∨ (k = 42 ∧ K = 4) ∨ (k = 43 ∧ K = 5) ∨ (k = 45 ∧ K = 6) ∨ (k = 189 ∧ K = 7) ∨ (k = 161 ∧ K = 8) ∨ (k = 60 ∧ K = 9) ∨ (k = 188 ∧ K = 10) ∨ (k = 62 ∧ K = 11) ∨ (k = 190 ∧ K = 12) ∨ (k = 38 ∧ K = 13) ∨ (k = 124 ∧ K = 14) ∨
  (k = 2 ∧ K = 15 ∧ ∃ c, c < 8 ∧ q = nI (48 + c) ∧ V = nI c) ∨ (k = 2 ∧ K = 16 ∧ ∃ j, j < 24 ∧ q = nI (16 + j) ∧ V = nI j) ∨ (k = 3 ∧ K = 17 ∧ ∃ u, u < 4 ∧ q = nI (u * 8 + 4) ∧ V = nI u) ∨ (k = 3 ∧ K = 18 ∧ ∃ u, u < 4 ∧ q = nI (u * 8 + 5) ∧ V = nI u) ∨ (k = 3 ∧ K = 19 ∧ ∃ u, u < 4 ∧ q = nI (u * 8 + 2) ∧ V = nI u) ∨ (k = 2 ∧ K = 20 ∧ ∃ l, l < 4 ∧ q = nI (40 + l) ∧ V = nI l) ∨ (k = 2 ∧ K = 21 ∧ q = nI 234)
section ME
variable {en : pN} {d t i n top k K w : Nat} {v q V : Int32} {σ : qS} {F s y g N : fI} {D : Int64} {r : Option qR}
theorem m_truth {b : Bool} {τ : qS} : qev en (d + 1) 294 [.int (bt b)] τ = some (some (.int (bt b)), τ) := by
  refine le_X12_truth en d _ τ _ ?_
  cases b <;> rfl
theorem m_truth0 {τ : qS} : qev en (d + 1) 294 [.int 0] τ = some (some (.int 0), τ) := m_truth (b := false)
theorem m_truth1 {τ : qS} : qev en (d + 1) 294 [.int 1] τ = some (some (.int 1), τ) := m_truth (b := true)
theorem m_isV {τ : qS} : qev en (d + 1) 295 [.int v] τ = some (some (.int (if 999 < v ∨ v < -999 then 0 else 1)), τ) := by
  refine le_X12_isValue en d _ τ _ ?_
  by_cases h1 : v < -999
  · rw [if_pos h1, if_pos (Or.inr h1)]
  · rw [if_neg h1]
    by_cases h2 : 999 < v
    · rw [if_pos h2, if_pos (Or.inl h2)]
    · rw [if_neg h2, if_neg (fun z => z.elim h2 h1)]
theorem m_joined {a b : Int32} {τ : qS} (h : ndR t k q K V) (h4 : 4 ≤ K) (h14 : K ≤ 14) : qev en (d + 2) 297 [.int (nI K), .int a, .int b] τ = some (some (.int (ap k q a b N)), τ) := by
  refine le_X12_joined en (d + 1) _ _ _ τ _ ?_
  rw [n_to (by omega)]
  have f78 : ∀ x, x = (0 : Int32) ∨ x = 1 → L_X12_joined_78 en (d + 1) x τ = some (some (.int x), τ) := by
    intro x hx
    refine le_X12_joined_78 en (d + 1) x τ _ ?_
    rcases hx with rfl | rfl
    · rw [m_truth0, bI_some]
    · rw [m_truth1, bI_some]
  have f92 : ∀ x, x = (0 : Int32) ∨ x = 1 → L_X12_joined_92 en (d + 1) x τ = some (some (.int x), τ) := by
    intro x hx
    refine le_X12_joined_92 en (d + 1) x τ _ ?_
    rcases hx with rfl | rfl
    · rw [m_truth0, bI_some]
    · rw [m_truth1, bI_some]
  have f106 : ∀ x, x = (0 : Int32) ∨ x = 1 → L_X12_joined_106 en (d + 1) x τ = some (some (.int x), τ) := by
    intro x hx
    refine le_X12_joined_106 en (d + 1) x τ _ ?_
    rcases hx with rfl | rfl
    · rw [m_truth0, bI_some]
    · rw [m_truth1, bI_some]
  have f120 : ∀ x, x = (0 : Int32) ∨ x = 1 → L_X12_joined_120 en (d + 1) x τ = some (some (.int x), τ) := by
    intro x hx
    refine le_X12_joined_120 en (d + 1) x τ _ ?_
    rcases hx with rfl | rfl
    · rw [m_truth0, bI_some]
    · rw [m_truth1, bI_some]
  have f134 : ∀ x, x = (0 : Int32) ∨ x = 1 → L_X12_joined_134 en (d + 1) x τ = some (some (.int x), τ) := by
    intro x hx
    refine le_X12_joined_134 en (d + 1) x τ _ ?_
    rcases hx with rfl | rfl
    · rw [m_truth0, bI_some]
    · rw [m_truth1, bI_some]
  have f148 : ∀ x, x = (0 : Int32) ∨ x = 1 → L_X12_joined_148 en (d + 1) x τ = some (some (.int x), τ) := by
    intro x hx
    refine le_X12_joined_148 en (d + 1) x τ _ ?_
    rcases hx with rfl | rfl
    · rw [m_truth0, bI_some]
    · rw [m_truth1, bI_some]
  have f165 : ∀ x, x = (0 : Int32) ∨ x = 1 → L_X12_joined_165 en (d + 1) x τ = some (some (.int x), τ) := by
    intro x hx
    refine le_X12_joined_165 en (d + 1) x τ _ ?_
    rcases hx with rfl | rfl
    · rw [m_truth0, bI_some]
    · rw [m_truth1, bI_some]
  have f182 : ∀ x, x = (0 : Int32) ∨ x = 1 → L_X12_joined_182 en (d + 1) x τ = some (some (.int x), τ) := by
    intro x hx
    refine le_X12_joined_182 en (d + 1) x τ _ ?_
    rcases hx with rfl | rfl
    · rw [m_truth0, bI_some]
    · rw [m_truth1, bI_some]
  have z0 : (0 : Int32) = 0 ∨ (0 : Int32) = 1 := Or.inl rfl
  have z1 : (1 : Int32) = 0 ∨ (1 : Int32) = 1 := Or.inr rfl
  rcases h with ⟨-, rfl, -⟩ | ⟨-, rfl, -⟩ | ⟨-, rfl⟩ | ⟨-, rfl⟩ | ⟨rfl, rfl⟩ | ⟨rfl, rfl⟩ | ⟨rfl, rfl⟩ | ⟨rfl, rfl⟩ | ⟨rfl, rfl⟩ | ⟨rfl, rfl⟩ | ⟨rfl, rfl⟩ | ⟨rfl, rfl⟩ | ⟨rfl, rfl⟩ | ⟨rfl, rfl⟩ | ⟨rfl, rfl⟩ | ⟨-, rfl, -⟩ | ⟨-, rfl, -⟩ | ⟨-, rfl, -⟩ | ⟨-, rfl, -⟩ | ⟨-, rfl, -⟩ | ⟨-, rfl, -⟩ | ⟨-, rfl, -⟩
  · omega
  · omega
  · omega
  · omega
  · rfl
  · rfl
  · rfl
  · show (if ¬ a = b then L_X12_joined_78 en (d + 1) 0 τ else L_X12_joined_78 en (d + 1) 1 τ) = some (some (Value.int (if ¬ a = b then 0 else 1)), τ)
    rw [f78 0 z0, f78 1 z1]; exact ite_1
  · show (if a = b then L_X12_joined_92 en (d + 1) 0 τ else L_X12_joined_92 en (d + 1) 1 τ) = some (some (Value.int (if a = b then 0 else 1)), τ)
    rw [f92 0 z0, f92 1 z1]; exact ite_1
  · show (if b ≤ a then L_X12_joined_106 en (d + 1) 0 τ else L_X12_joined_106 en (d + 1) 1 τ) = some (some (Value.int (if b ≤ a then 0 else 1)), τ)
    rw [f106 0 z0, f106 1 z1]; exact ite_1
  · show (if b < a then L_X12_joined_120 en (d + 1) 0 τ else L_X12_joined_120 en (d + 1) 1 τ) = some (some (Value.int (if b < a then 0 else 1)), τ)
    rw [f120 0 z0, f120 1 z1]; exact ite_1
  · show (if a ≤ b then L_X12_joined_134 en (d + 1) 0 τ else L_X12_joined_134 en (d + 1) 1 τ) = some (some (Value.int (if a ≤ b then 0 else 1)), τ)
    rw [f134 0 z0, f134 1 z1]; exact ite_1
  · show (if a < b then L_X12_joined_148 en (d + 1) 0 τ else L_X12_joined_148 en (d + 1) 1 τ) = some (some (Value.int (if a < b then 0 else 1)), τ)
    rw [f148 0 z0, f148 1 z1]; exact ite_1
  · show (if a = 0 then L_X12_joined_165 en (d + 1) 0 τ else if b = 0 then L_X12_joined_165 en (d + 1) 0 τ else L_X12_joined_165 en (d + 1) 1 τ) = some (some (Value.int (if a = 0 then 0 else if b = 0 then 0 else 1)), τ)
    rw [f165 0 z0, f165 1 z1]; exact ite_2
  · show (if ¬ a = 0 then L_X12_joined_182 en (d + 1) 1 τ else if b = 0 then L_X12_joined_182 en (d + 1) 0 τ else L_X12_joined_182 en (d + 1) 1 τ) = some (some (Value.int (if ¬ a = 0 then 1 else if b = 0 then 0 else 1)), τ)
    rw [f182 0 z0, f182 1 z1]; exact ite_2
  all_goals omega
theorem m_fact {a b : Int32} (hR : MR w N s) (h : ndR t k q K V) (h15 : 15 ≤ K) (hst : K = 21 → (F 64 = 0 ∨ F 64 = 1) ∧ N 234 = F 64) : qev en (d + 2) 298 [.ref 151, .int (nI K), .int V] (mM σ F s y g D) = some (some (.int (ap k q a b N)), mM σ F s y g D) := by
  refine le_X12_factOf en (d + 1) _ _ _ _ ?_
  have e2 : ∀ j, j < 236 → ap 2 (nI j) a b N = N j := fun j hj => by show N (nI j).toNatClampNeg = N j; rw [n_cl (by omega)]
  have e3 : ∀ u c, u < 4 → c < 8 → ap 3 (nI (u * 8 + c)) a b N = if ¬ N u = nI c then 0 else 1 := fun u c hu hc => by
    show (if ¬ N (nI (u * 8 + c) / 8).toNatClampNeg = nI (u * 8 + c) - nI (u * 8 + c) / 8 * 8 then (0 : Int32) else 1) = _
    rw [n_d8 (by omega), n_cl (by omega), n_mr, show (u * 8 + c) / 8 = u by omega, nI_sub (show u * 8 ≤ u * 8 + c by omega), show u * 8 + c - u * 8 = c by omega]
  have f77 : ∀ x, x = (0 : Int32) ∨ x = 1 → L_X12_factOf_77 en (d + 1) x (mM σ F s y g D) = some (some (.int x), mM σ F s y g D) := by
    intro x hx
    refine le_X12_factOf_77 en (d + 1) x _ _ ?_
    rcases hx with rfl | rfl
    · rw [m_truth0, bI_some]
    · rw [m_truth1, bI_some]
  have f98 : ∀ x, x = (0 : Int32) ∨ x = 1 → L_X12_factOf_98 en (d + 1) x (mM σ F s y g D) = some (some (.int x), mM σ F s y g D) := by
    intro x hx
    refine le_X12_factOf_98 en (d + 1) x _ _ ?_
    rcases hx with rfl | rfl
    · rw [m_truth0, bI_some]
    · rw [m_truth1, bI_some]
  have f119 : ∀ x, x = (0 : Int32) ∨ x = 1 → L_X12_factOf_119 en (d + 1) x (mM σ F s y g D) = some (some (.int x), mM σ F s y g D) := by
    intro x hx
    refine le_X12_factOf_119 en (d + 1) x _ _ ?_
    rcases hx with rfl | rfl
    · rw [m_truth0, bI_some]
    · rw [m_truth1, bI_some]
  have z0 : (0 : Int32) = 0 ∨ (0 : Int32) = 1 := Or.inl rfl
  have z1 : (1 : Int32) = 0 ∨ (1 : Int32) = 1 := Or.inr rfl
  rcases h with ⟨-, rfl, -⟩ | ⟨-, rfl, -⟩ | ⟨-, rfl⟩ | ⟨-, rfl⟩ | ⟨rfl, rfl⟩ | ⟨rfl, rfl⟩ | ⟨rfl, rfl⟩ | ⟨rfl, rfl⟩ | ⟨rfl, rfl⟩ | ⟨rfl, rfl⟩ | ⟨rfl, rfl⟩ | ⟨rfl, rfl⟩ | ⟨rfl, rfl⟩ | ⟨rfl, rfl⟩ | ⟨rfl, rfl⟩ | ⟨rfl, rfl, c, hc, rfl, rfl⟩ | ⟨rfl, rfl, j, hj, rfl, rfl⟩ | ⟨rfl, rfl, u, hu, rfl, rfl⟩ | ⟨rfl, rfl, u, hu, rfl, rfl⟩ | ⟨rfl, rfl, u, hu, rfl, rfl⟩ | ⟨rfl, rfl, l, hl, rfl, rfl⟩ | ⟨rfl, rfl, rfl⟩
  iterate 15 omega
  · refine Eq.trans swI_hit ?_
    simp (disch := omega) only [n_al, n_in, gdT, n_cl, mM_s]
    rw [e2 _ (by omega), mr_me hR hc]
  · refine Eq.trans (swI_next (by decide)) (Eq.trans swI_hit ?_)
    simp (disch := omega) only [n_al, n_in, gdT, n_cl, mM_s]
    rw [e2 _ (by omega), mr_lo hR (by omega) (by omega), show 12 + j + 4 = 16 + j by omega]
  · refine Eq.trans (swI_next (by decide)) (Eq.trans (swI_next (by decide)) (Eq.trans swI_hit ?_))
    simp (disch := omega) only [n_al, n_in, gdT, n_cl, mM_s, Nat.zero_add]
    rw [e3 u 4 hu (by decide), mr_st hR hu, f77 0 z0, f77 1 z1]
    exact ite_1
  · refine Eq.trans (swI_next (by decide)) (Eq.trans (swI_next (by decide)) (Eq.trans (swI_next (by decide)) (Eq.trans swI_hit ?_)))
    simp (disch := omega) only [n_al, n_in, gdT, n_cl, mM_s, Nat.zero_add]
    rw [e3 u 5 hu (by decide), mr_st hR hu, f98 0 z0, f98 1 z1]
    exact ite_1
  · refine Eq.trans (swI_next (by decide)) (Eq.trans (swI_next (by decide)) (Eq.trans (swI_next (by decide)) (Eq.trans (swI_next (by decide)) (Eq.trans swI_hit ?_))))
    simp (disch := omega) only [n_al, n_in, gdT, n_cl, mM_s, Nat.zero_add]
    rw [e3 u 2 hu (by decide), mr_st hR hu, f119 0 z0, f119 1 z1]
    exact ite_1
  · refine Eq.trans (swI_next (by decide)) (Eq.trans (swI_next (by decide)) (Eq.trans (swI_next (by decide)) (Eq.trans (swI_next (by decide)) (Eq.trans (swI_next (by decide)) (Eq.trans swI_hit ?_)))))
    simp (disch := omega) only [n_al, n_in, gdT, n_cl, mM_s]
    rw [e2 _ (by omega), mr_ow hR hl, Int32.add_sub_cancel]
  · refine Eq.trans (swI_next (by decide)) (Eq.trans (swI_next (by decide)) (Eq.trans (swI_next (by decide)) (Eq.trans (swI_next (by decide)) (Eq.trans (swI_next (by decide)) (Eq.trans (swI_next (by decide)) ?_)))))
    obtain ⟨h1, h2⟩ := hst rfl
    rw [mM_F, e2 _ (by decide), h2]
    show bI (qev en (d + 1) 294 [.int (F 64)] _) _ = _
    rcases h1 with h1 | h1
    · rw [h1, m_truth0, bI_some]
    · rw [h1, m_truth1, bI_some]
end ME
