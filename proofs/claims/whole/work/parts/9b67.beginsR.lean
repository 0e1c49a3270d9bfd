/-! THE READER: what begins an operand, on both sides. -/
def begB (law : Bool) (k : Nat) : Bool := (law && decide (328 ≤ k ∧ k ≤ 332)) || decide (k = 3) || decide (k = 2) || decide (k = 45) || decide (k = 33) || decide (k = 40)
section BGR
variable {en : pN} {d v k i j n p : Nat} {s t : qS} {B : Nat → Nat} {law : Bool} {v1 v2 v3 : Int32}
theorem x_begK (hk : k < 2 ^ 31) (h8 : s.1 65 8 = bt law) : qev en (d + 1) 137 [.ref 65, .int (nI k)] s = some (some (.int (bt (begB law k))), s) := by
  have f23 : ¬ (law = true ∧ 328 ≤ k ∧ k ≤ 332) → L_X6_beginsOne_23 en d (nI k) s = some (some (.int (bt (begB law k))), s) := fun hl => by
    have e0 : begB law k = (decide (k = 3) || decide (k = 2) || decide (k = 45) || decide (k = 33) || decide (k = 40)) := by
      unfold begB
      cases hb : law
      · rw [Bool.false_and, Bool.false_or]
      · rw [decide_eq_false (fun z => hl ⟨hb, z⟩), Bool.and_false, Bool.false_or]
    refine le_X6_beginsOne_23 en _ _ _ _ ?_
    rw [e0]
    by_cases q1 : k = 3
    · subst q1; rfl
    rw [if_neg (by rw [n_eq (by decide) hk]; exact q1)]
    by_cases q2 : k = 2
    · subst q2; rfl
    rw [if_neg (by rw [n_eq (by decide) hk]; exact q2)]
    by_cases q3 : k = 45
    · subst q3; rfl
    rw [if_neg (by rw [n_eq (by decide) hk]; exact q3)]
    by_cases q4 : k = 33
    · subst q4; rfl
    rw [if_neg (by rw [n_eq (by decide) hk]; exact q4)]
    by_cases q5 : k = 40
    · subst q5; rfl
    rw [if_pos (by rw [n_eq (by decide) hk]; exact q5), decide_eq_false q1, decide_eq_false q2, decide_eq_false q3, decide_eq_false q4, decide_eq_false q5]
    rfl
  refine le_X6_beginsOne en _ _ _ _ ?_
  rw [h8]
  cases hb : law
  · rw [if_pos (show bt false = (0 : Int32) from rfl)]
    rw [hb] at f23
    exact f23 (fun z => Bool.noConfusion z.1)
  · rw [if_neg (show ¬ bt true = (0 : Int32) by decide)]
    rw [hb] at f23
    by_cases q1 : k < 328
    · rw [if_pos (by rw [n_gt (by decide) hk]; exact q1)]
      exact f23 (fun z => by omega)
    rw [if_neg (by rw [n_gt (by decide) hk]; exact q1)]
    by_cases q2 : 332 < k
    · rw [if_pos (by rw [n_lt (by decide) hk]; exact q2)]
      exact f23 (fun z => by omega)
    rw [if_neg (by rw [n_lt (by decide) hk]; exact q2)]
    unfold begB
    rw [decide_eq_true (show 328 ≤ k ∧ k ≤ 332 by omega)]
    rfl
/-- a word that asks for a fact -/
theorem m_isFactW (hB : ∀ j, j < n → B j < 256) (hm : mtL t B n i) : qev en (d + 2) 270 [.ref 151] t = some (some (.int (bt (decide (328 ≤ tkK B n i ∧ tkK B n i ≤ 332)))), t) := by
  have a1 := m_isKeyW (en := en) (d := d) (j := 28) (C := (435643770212 : Int64)) hB hm (by decide) (by decide +kernel)
  have a2 := m_isKeyW (en := en) (d := d) (j := 29) (C := (513021013607 : Int64)) hB hm (by decide) (by decide +kernel)
  have a3 := m_isKeyW (en := en) (d := d) (j := 30) (C := (512735409267 : Int64)) hB hm (by decide) (by decide +kernel)
  have a4 := m_isKeyW (en := en) (d := d) (j := 31) (C := (1751477348 : Int64)) hB hm (by decide) (by decide +kernel)
  have a5 := m_isKeyW (en := en) (d := d) (j := 32) (C := (495875089259 : Int64)) hB hm (by decide) (by decide +kernel)
  generalize tkK B n i = k at *
  refine le_X12_isFactWord en _ _ _ ?_
  rw [a1, bI_some]
  by_cases q1 : k = 300 + 28
  · rw [decide_eq_true q1, if_pos (show ¬ bt true = (0 : Int32) by decide), decide_eq_true (by omega)]; rfl
  rw [decide_eq_false q1, if_neg (show ¬ ¬ bt false = (0 : Int32) from not_not_intro rfl), a2, bI_some]
  by_cases q2 : k = 300 + 29
  · rw [decide_eq_true q2, if_pos (show ¬ bt true = (0 : Int32) by decide), decide_eq_true (by omega)]; rfl
  rw [decide_eq_false q2, if_neg (show ¬ ¬ bt false = (0 : Int32) from not_not_intro rfl), a3, bI_some]
  by_cases q3 : k = 300 + 30
  · rw [decide_eq_true q3, if_pos (show ¬ bt true = (0 : Int32) by decide), decide_eq_true (by omega)]; rfl
  rw [decide_eq_false q3, if_neg (show ¬ ¬ bt false = (0 : Int32) from not_not_intro rfl), a4, bI_some]
  by_cases q4 : k = 300 + 31
  · rw [decide_eq_true q4, if_pos (show ¬ bt true = (0 : Int32) by decide), decide_eq_true (by omega)]; rfl
  rw [decide_eq_false q4, if_neg (show ¬ ¬ bt false = (0 : Int32) from not_not_intro rfl), a5, bI_some]
  by_cases q5 : k = 300 + 32
  · rw [decide_eq_true q5, if_neg (show ¬ bt true = (0 : Int32) by decide), decide_eq_true (by omega)]; rfl
  rw [decide_eq_false q5, if_pos (show bt false = (0 : Int32) from rfl), decide_eq_false (by omega)]; rfl
/-- a name -/
theorem m_isNameK (hB : ∀ j, j < n → B j < 256) (hm : mtL t B n i) : qev en (d + 2) 254 [.ref 151] t = some (some (.int (bt (decide (tkK B n i = 2)))), t) := by
  obtain ⟨⟨mX, mn, hi⟩, m7, m4, mk1, m2, m3, m5, m6⟩ := id hm
  by_cases q : tkK B n i = 2 ∨ 300 ≤ tkK B n i
  · have h3 : t.1 151 3 = 1 := by rw [m3]; unfold kdM; rw [if_pos q]; rfl
    rw [m_isName (tk_val (B := B) (n := n) hi) (m5 q) h3]
    have e := word_kyd hB hi q
    rw [e]
    unfold kyd
    cases hk : isKey (tkN B n i).2.2.1
    · rw [if_neg (by decide)]; rfl
    · rw [if_pos rfl, decide_eq_false (by omega)]; rfl
  · have h3 : ¬ t.1 151 3 = 1 := by
      rw [m3]
      unfold kdM
      rw [if_neg q]
      by_cases q3 : tkK B n i = 3
      · rw [if_pos q3]; decide
      · rw [if_neg q3, n_eq (by decide) (by omega)]; exact mk1
    rw [m_isName0 h3, decide_eq_false (fun z => q (Or.inl z))]
    rfl
/-- the head of the model's loop where an operand is wanted -/
theorem m_begHead (hB : ∀ j, j < n → B j < 256) (hm : mtL t B n i) (h29 : t.1 151 29 = bt law) : ∀ r, L_X12_readExp_108 en (d + 2) v1 v2 v3 1 0 (bt (begB law (tkK B n i))) t = some r → L_X12_readExp_20 en (d + 2) v1 v2 v3 1 0 t = some r := by
  intro r hr
  have a1 := m_isNameK (en := en) (d := d) hB hm
  have a2 := m_isFactW (en := en) (d := d) hB hm
  obtain ⟨⟨mX, mn, hi⟩, m7, m4, mk1, m2, m3, m5, m6⟩ := id hm
  generalize tkK B n i = k at *
  have hkd : ∀ a : Nat, 4 ≤ a → a < 300 → (kdM k = a ↔ k = a) := fun a h1 h2 => by
    unfold kdM
    by_cases q : k = 2 ∨ 300 ≤ k
    · rw [if_pos q]; omega
    · rw [if_neg q]
      by_cases q3 : k = 3
      · rw [if_pos q3]; omega
      · rw [if_neg q3]
  have hk2 : kdM k = 2 ↔ k = 3 := by
    unfold kdM
    by_cases q : k = 2 ∨ 300 ≤ k
    · rw [if_pos q]; omega
    · rw [if_neg q]
      by_cases q3 : k = 3
      · rw [if_pos q3]; omega
      · rw [if_neg q3]; omega
  have hlt : kdM k < 2 ^ 31 := by
    unfold kdM
    repeat' split
    all_goals omega
  refine le_X12_readExp_20 en _ _ _ _ _ _ _ _ ?_
  rw [m_goodL m7, bI_some, if_neg (by decide), if_neg (not_not_intro rfl), if_neg (by decide), m3]
  by_cases q1 : k = 3
  · rw [if_pos (by rw [n_eq (by decide) hlt]; exact hk2.mpr q1)]
    rw [show begB law k = true from by unfold begB; rw [decide_eq_true q1]; simp] at hr
    exact hr
  rw [if_neg (by rw [n_eq (by decide) hlt]; exact fun z => q1 (hk2.mp z))]
  by_cases q2 : k = 40
  · rw [if_pos (by rw [n_eq (by decide) hlt]; exact (hkd 40 (by decide) (by decide)).mpr q2)]
    rw [show begB law k = true from by unfold begB; rw [decide_eq_true q2]; simp] at hr
    exact hr
  rw [if_neg (by rw [n_eq (by decide) hlt]; exact fun z => q2 ((hkd 40 (by decide) (by decide)).mp z))]
  by_cases q3 : k = 45
  · rw [if_pos (by rw [n_eq (by decide) hlt]; exact (hkd 45 (by decide) (by decide)).mpr q3)]
    rw [show begB law k = true from by unfold begB; rw [decide_eq_true q3]; simp] at hr
    exact hr
  rw [if_neg (by rw [n_eq (by decide) hlt]; exact fun z => q3 ((hkd 45 (by decide) (by decide)).mp z))]
  by_cases q4 : k = 33
  · rw [if_pos (by rw [n_eq (by decide) hlt]; exact (hkd 33 (by decide) (by decide)).mpr q4)]
    rw [show begB law k = true from by unfold begB; rw [decide_eq_true q4]; simp] at hr
    exact hr
  rw [if_neg (by rw [n_eq (by decide) hlt]; exact fun z => q4 ((hkd 33 (by decide) (by decide)).mp z)), h29]
  have e0 : begB law k = ((law && decide (328 ≤ k ∧ k ≤ 332)) || decide (k = 2)) := by
    unfold begB
    rw [decide_eq_false q1, decide_eq_false q2, decide_eq_false q3, decide_eq_false q4]
    simp
  rw [e0] at hr
  cases hb : law
  · rw [hb, Bool.false_and, Bool.false_or] at hr
    rw [if_pos (show bt false = (0 : Int32) from rfl), a1, bI_some]
    by_cases q5 : k = 2
    · rw [decide_eq_true q5, if_neg (show ¬ bt true = (0 : Int32) by decide)]
      rw [decide_eq_true q5] at hr; exact hr
    · rw [decide_eq_false q5, if_pos (show bt false = (0 : Int32) from rfl)]
      rw [decide_eq_false q5] at hr; exact hr
  · rw [hb, Bool.true_and] at hr
    rw [if_neg (show ¬ bt true = (0 : Int32) by decide), a1, bI_some]
    by_cases q5 : k = 2
    · rw [decide_eq_true q5, if_pos (show ¬ bt true = (0 : Int32) by decide)]
      rw [decide_eq_true q5, Bool.or_true] at hr; exact hr
    · rw [decide_eq_false q5, if_neg (show ¬ ¬ bt false = (0 : Int32) from not_not_intro rfl), a2, bI_some]
      rw [decide_eq_false q5, Bool.or_false] at hr
      by_cases q6 : 328 ≤ k ∧ k ≤ 332
      · rw [decide_eq_true q6, if_neg (show ¬ bt true = (0 : Int32) by decide)]
        rw [decide_eq_true q6] at hr; exact hr
      · rw [decide_eq_false q6, if_pos (show bt false = (0 : Int32) from rfl)]
        rw [decide_eq_false q6] at hr; exact hr
end BGR
