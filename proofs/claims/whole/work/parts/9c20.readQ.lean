/-! THE READER: a whole program on both sides: its end. -/
/-- what reading changes of the model -/
def pgJ (j : Nat) : Bool := wmJ j || [1, 9, 10, 11, 27].contains j
abbrev pgM (t t' : qS) : Prop := (∀ a, a ≠ 151 → (a < 153 ∨ 186 < a) → t'.1 a = t.1 a) ∧ (∀ j, pgJ j = false → t'.1 151 j = t.1 151 j) ∧ (∀ a, a ≠ 151 → (a < 153 ∨ 186 < a) → t'.2.1 a = t.2.1 a) ∧ (∀ j, j ≠ 5 → t'.2.1 151 j = t.2.1 151 j) ∧ t'.2.2 = t.2.2
section RPQ
variable {en : pN} {d d' k i n N j r v u m nc nl nt q : Nat} {V cl th K : Nat → Nat} {U : Nat → Nat → Nat} {bl : Nat → List Nat} {s s' s'' t t' t'' : qS} {B : Nat → Nat} {w : Int32} {F p : Nat}
theorem pgM.tr (h : pgM t t') (g : pgM t' t'') : pgM t t'' := ⟨fun a h1 h2 => (g.1 a h1 h2).trans (h.1 a h1 h2), fun j a => (g.2.1 j a).trans (h.2.1 j a), fun a h1 h2 => (g.2.2.1 a h1 h2).trans (h.2.2.1 a h1 h2), fun j a => (g.2.2.2.1 j a).trans (h.2.2.2.1 j a), g.2.2.2.2.trans h.2.2.2.2⟩
theorem pgJ_wm (h : pgJ j = false) : wmJ j = false := by
  unfold pgJ at h
  cases hw : wmJ j
  · rfl
  · rw [hw] at h; cases h
theorem pgM.tq (h : tqM t t') : pgM t t' := ⟨h.1, fun j hj => h.2.1 j (pgJ_wm hj), h.2.2.1, h.2.2.2.1, h.2.2.2.2⟩
theorem pgM.mv (h : mvF t t') : pgM t t' := pgM.tq (tqM.mv h)
theorem pgM.uf (hj : pgJ j = true) : pgM t (uI t 151 j w) := ⟨fun b h1 _ => uI_ne h1, fun c hc => by rw [rdU, if_neg (fun z => by rw [z.2, hj] at hc; cases hc)], fun _ _ _ => rfl, fun _ _ => rfl, rfl⟩
/-- fields that a program's tables don't stand on -/
theorem tpT_eq (h : tpT s t V U cl nc nl nt m N th K bl) (hx : ∀ a, a = 8 ∨ a = 9 ∨ a = 14 ∨ a = 15 ∨ a = 16 ∨ 18 ≤ a ∧ a ≤ 32 ∨ a = 35 ∨ a = 68 → s'.1 a = s.1 a) (h11 : ∀ j, 7 ≤ j → j ≤ 12 → s'.1 11 j = s.1 11 j) (hJ : ∀ a, a = 12 ∨ a = 13 ∨ a = 67 → s'.2.1 a = s.2.1 a) (hm : ∀ a, 153 ≤ a → a ≤ 183 → a ≠ 174 → t'.1 a = t.1 a) (h151 : ∀ j, j = 12 ∨ j = 16 ∨ j = 18 ∨ j = 32 → t'.1 151 j = t.1 151 j) (hm2 : ∀ a, 153 ≤ a → a ≤ 182 → t'.2.1 a = t.2.1 a) : tpT s' t' V U cl nc nl nt m N th K bl := by
  obtain ⟨⟨g1, ⟨g2, g3, g4⟩, ⟨g5, g6, g7⟩, g8, ⟨g9, g10, g11⟩, g12⟩, ⟨b1, b2, b3, b4⟩, hm4, hln, hG, hc, hl⟩ := h
  refine ⟨⟨g1, ⟨(h11 9 (by decide) (by decide)).trans g2, (h11 10 (by decide) (by decide)).trans g3, (h11 11 (by decide) (by decide)).trans g4⟩, ⟨(h151 12 (by omega)).trans g5, (h151 16 (by omega)).trans g6, (h151 18 (by omega)).trans g7⟩, by rw [hJ 12 (by omega)]; exact g8, ⟨by rw [hm2 153 (by decide) (by decide)]; exact g9, by rw [hm2 156 (by decide) (by decide)]; exact g10, by rw [hm2 157 (by decide) (by decide)]; exact g11⟩, fun u hu => by rw [hx 14 (by omega), hm 159 (by decide) (by decide) (by decide), hJ 13 (by omega), hm2 160 (by decide) (by decide)]; exact g12 u hu⟩, ⟨(h11 12 (by decide) (by decide)).trans b1, (h151 32 (by omega)).trans b2, b3, fun p p1 p2 p3 => by rw [hm 164 (by decide) (by decide) (by decide)]; exact b4 p p1 p2 p3⟩, hm4, fun i hi => lnB_eq (hln i hi) (fun a ha => hx a (by omega)) (hJ 67 (by omega)) (fun a a1 a2 _ a4 => hm a (by omega) a2 a4) (fun a ha => hm2 a (by omega) (by omega)) (Nat.le_refl _) (Nat.le_refl _) (Nat.le_refl _), lnG_eq hG (fun a ha => hx a (by omega)) (fun a ha => hm a (by omega) (by omega) (by omega)), clR_eq hc (hx 15 (by omega)) (h11 7 (by decide) (by decide)) (hm 154 (by decide) (by decide) (by decide)) (hm 155 (by decide) (by decide) (by decide)), laR_eq hl (h11 8 (by decide) (by decide)) (hm 158 (by decide) (by decide) (by decide))⟩
/-- the model's end of reading -/
def erS (t : qS) (F : Nat) (w : Int32) : qS := uI (uI (uI (uI (uI t 151 1 0) 151 9 (nI F)) 151 10 w) 151 11 (bt (decide (F = 0)))) 151 27 (t.1 151 25)
theorem erS_o {a : Nat} (h : a ≠ 151) : (erS t F w).1 a = t.1 a := by
  unfold erS
  rw [uI_ne h, uI_ne h, uI_ne h, uI_ne h, uI_ne h]
theorem erS_f : (erS t F w).1 151 j = if j = 27 then t.1 151 25 else if j = 11 then bt (decide (F = 0)) else if j = 10 then w else if j = 9 then nI F else if j = 1 then 0 else t.1 151 j := by
  unfold erS
  rw [rdU, rdU, rdU, rdU, rdU]
  by_cases h1 : j = 27
  · rw [if_pos ⟨rfl, h1⟩, if_pos h1]
  rw [if_neg (fun z => h1 z.2), if_neg h1]
  by_cases h2 : j = 11
  · rw [if_pos ⟨rfl, h2⟩, if_pos h2]
  rw [if_neg (fun z => h2 z.2), if_neg h2]
  by_cases h3 : j = 10
  · rw [if_pos ⟨rfl, h3⟩, if_pos h3]
  rw [if_neg (fun z => h3 z.2), if_neg h3]
  by_cases h4 : j = 9
  · rw [if_pos ⟨rfl, h4⟩, if_pos h4]
  rw [if_neg (fun z => h4 z.2), if_neg h4]
  by_cases h5 : j = 1
  · rw [if_pos ⟨rfl, h5⟩, if_pos h5]
  rw [if_neg (fun z => h5 z.2), if_neg h5]
theorem pgM.er : pgM t (erS t F w) := ((((pgM.uf rfl).tr (pgM.uf rfl)).tr (pgM.uf rfl)).tr (pgM.uf rfl)).tr (pgM.uf rfl)
theorem m_endR (h7 : t.1 151 7 = nI F) (hF : F < 16) (hw : (if F = 0 then -2 else t.1 151 8) = w) : qev en (d + 1) 251 [.ref 151] t = some (none, uI (uI (uI t 151 1 0) 151 9 (nI F)) 151 10 w) := by
  refine le_X12_endReading en _ _ _ ?_
  have e1 : (uI t 151 1 0).1 151 7 = nI F := by rw [rdU, if_neg (by decide)]; exact h7
  have e2 : (uI (uI t 151 1 0) 151 9 (nI F)).1 151 7 = nI F := by rw [rdU, if_neg (by decide)]; exact e1
  have e3 : (uI (uI t 151 1 0) 151 9 (nI F)).1 151 8 = t.1 151 8 := by rw [rdU, if_neg (by decide), rdU, if_neg (by decide)]
  rw [nm_eq, e1, nm_eq, e2, e3]
  have g30 : ∀ v, L_X12_endReading_30 en d v (uI (uI t 151 1 0) 151 9 (nI F)) = some (none, uI (uI (uI t 151 1 0) 151 9 (nI F)) 151 10 v) := fun v => by
    refine le_X12_endReading_30 en _ _ _ _ ?_
    rw [nm_eq]
  by_cases q : F = 0
  · rw [if_pos q] at hw
    rw [if_neg (by rw [q]; exact not_not_intro rfl), g30, hw]
  · rw [if_neg q] at hw
    rw [if_pos (by rw [n_eq (by decide) (by omega)]; exact q), g30, hw]
theorem m_285 (h7 : t.1 151 7 = nI F) (hF : F < 16) (hw : (if F = 0 then -2 else t.1 151 8) = w) : ∀ r, (if F = 0 then bV (qev en (d + 1) 292 [.ref 151, .int (0 : Int32)] (erS t F w)) (fun s12 => L_X12_program_317 en (d + 1) s12) else L_X12_program_317 en (d + 1) (erS t F w)) = some r → L_X12_program_285 en (d + 1) t = some r := fun r hr => by
  refine le_X12_program_285 en _ _ _ ?_
  rw [m_endR h7 hF hw, bV_some]
  have e7 : (uI (uI (uI t 151 1 0) 151 9 (nI F)) 151 10 w).1 151 7 = nI F := by rw [rdU, if_neg (by decide), rdU, if_neg (by decide), rdU, if_neg (by decide)]; exact h7
  have g : qev en (d + 1) 243 [.ref 151] (uI (uI (uI t 151 1 0) 151 9 (nI F)) 151 10 w) = some (some (.int (bt (decide (F = 0)))), uI (uI (uI t 151 1 0) 151 9 (nI F)) 151 10 w) := by
    refine le_X12_good en _ _ _ ?_
    rw [e7]
    by_cases q : F = 0
    · rw [if_neg (by rw [q]; exact not_not_intro rfl), decide_eq_true q]; rfl
    · rw [if_pos (by rw [n_eq (by decide) (by omega)]; exact q), decide_eq_false q]; rfl
  have e25 : (uI (uI (uI (uI t 151 1 0) 151 9 (nI F)) 151 10 w) 151 11 (bt (decide (F = 0)))).1 151 25 = t.1 151 25 := by rw [rdU, if_neg (by decide), rdU, if_neg (by decide), rdU, if_neg (by decide), rdU, if_neg (by decide)]
  rw [g, bI_some, gd_true bt_B, nm_eq, e25, nm_eq]
  show (if (erS t F w).1 151 11 = (0 : Int32) then L_X12_program_317 en (d + 1) (erS t F w) else bV (qev en (d + 1) 292 [.ref 151, .int (0 : Int32)] (erS t F w)) (fun s12 => L_X12_program_317 en (d + 1) s12)) = some r
  have e11 : (erS t F w).1 151 11 = bt (decide (F = 0)) := by rw [erS_f, if_neg (by decide), if_pos rfl]
  rw [e11]
  by_cases q : F = 0
  · rw [if_pos q] at hr
    rw [decide_eq_true q, if_neg (show ¬ bt true = (0 : Int32) by decide)]
    exact hr
  · rw [if_neg q] at hr
    rw [decide_eq_false q, if_pos (show bt false = (0 : Int32) from rfl)]
    exact hr
theorem m_317 (h : t.1 151 9 = w) : L_X12_program_317 en d t = some (some (.int w), t) := by
  refine le_X12_program_317 en _ _ _ ?_
  rw [h]
/-- the class behind its declarations, with a fault -/
theorem x_100D (h : s.1 65 11 = nI F) (hF : F ≠ 0) (hF2 : F < 16) : L_X6_readProgram_100 en (d + 2) s = some (none, uI s 11 13 (s.1 65 13)) := by
  have h' : (uI s 11 13 (s.1 65 13)).1 65 11 = nI F := by rw [uI_ne (by decide)]; exact h
  have n0 : ¬ nI F = (0 : Int32) := by rw [n_eq (by decide) (by omega)]; exact hF
  refine le_X6_readProgram_100 en _ _ _ ?_
  have e : qev en (d + 2) 132 [.ref 65] (uI s 11 13 (s.1 65 13)) = some (none, uI s 11 13 (s.1 65 13)) := by
    refine le_X6_aimThreads en _ _ _ (le_X6_aimThreads_2 en _ _ _ _ ?_)
    by_cases y : (uI s 11 13 (s.1 65 13)).1 11 12 ≤ (0 : Int32)
    · rw [if_pos y]
    · rw [if_neg y, h', if_pos n0]
  rw [nm_eq, e, bV_some, h', if_pos n0]
end RPQ
