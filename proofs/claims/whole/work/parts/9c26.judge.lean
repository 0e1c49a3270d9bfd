/-! A LAW READ AND JUDGED, both sides. -/
/-- what judging changes of the class, of the model -/
abbrev jdX (s s' : qS) : Prop := (∀ a, a ≠ 0 → a ≠ 61 → a ≠ 62 → a ≠ 63 → a ≠ 64 → a ≠ 65 → a ≠ 69 → a ≠ 72 → ¬ sT a → (a < 103 ∨ 110 < a) → s'.1 a = s.1 a) ∧ (∀ j, j ≠ 13 → s'.1 0 j = s.1 0 j) ∧ (∀ j, j < 8 ∨ 13 < j → s'.1 65 j = s.1 65 j) ∧ (∀ a, ¬ sT a ∨ a = 3 → s'.2.1 a = s.2.1 a) ∧ (∀ a k, ¬ sT a → ¬ (a = 65 ∧ k = 7) → s'.2.2 a k = s.2.2 a k) ∧ (frS sT s → frS sT s')
def jmJ (j : Nat) : Bool := lwJ j || [58, 59, 60, 62, 64, 131, 143].contains j
abbrev jdM (t t' : qS) : Prop := (∀ a, a ≠ 151 → a ≠ 161 → a ≠ 162 → a ≠ 163 → a ≠ 187 → a ≠ 189 → (a < 233 ∨ 246 < a) → t'.1 a = t.1 a) ∧ (∀ j, j < 400 → t'.1 161 j = t.1 161 j ∧ t'.1 162 j = t.1 162 j) ∧ (∀ j, jmJ j = false → t'.1 151 j = t.1 151 j) ∧ (∀ a, a ≠ 151 → t'.2.1 a = t.2.1 a) ∧ (∀ j, j ≠ 5 → t'.2.1 151 j = t.2.1 151 j) ∧ t'.2.2 = t.2.2
section JAL
variable {en : pN} {d d' k i n N j r v u m m' c nc nl nt q z D e e2 a w vv n' p : Nat} {V cl th K : Nat → Nat} {U : Nat → Nat → Nat} {s s' s'' t t' t'' : qS} {B : Nat → Nat} {v1 v2 v3 v4 : Int32} {F : Nat} {fr fw : Bool} {P : Nat → fI} {X : xT} {O Q : fI} {wi : Int32}
theorem jdX.lw (h : lwX s s') : jdX s s' := ⟨fun a _ h1 h2 h3 _ h5 h6 _ h8 _ => h.1 a h1 h2 h3 h5 h6 h8, fun j _ => by rw [h.1 0 (by decide) (by decide) (by decide) (by decide) (by decide) (fun z => absurd z.1 (by decide))], h.2.2.1, h.2.2.2.1, h.2.2.2.2⟩
theorem jdX.tr (h : jdX s s') (g : jdX s' s'') : jdX s s'' := ⟨fun a h0 h1 h2 h3 h4 h5 h6 h7 h8 h9 => (g.1 a h0 h1 h2 h3 h4 h5 h6 h7 h8 h9).trans (h.1 a h0 h1 h2 h3 h4 h5 h6 h7 h8 h9), fun j a => (g.2.1 j a).trans (h.2.1 j a), fun j a => (g.2.2.1 j a).trans (h.2.2.1 j a), fun a h1 => (g.2.2.2.1 a h1).trans (h.2.2.2.1 a h1), fun a k h1 h2 => (g.2.2.2.2.1 a k h1 h2).trans (h.2.2.2.2.1 a k h1 h2), fun z => g.2.2.2.2.2 (h.2.2.2.2.2 z)⟩
theorem jdX.u1 : jdX s (uI s 1 j wi) := ⟨fun a _ _ _ _ _ _ _ _ h _ => uI_ne (fun z => h (z ▸ sT_1)), fun j _ => by rw [uI_ne (by decide)], fun j _ => by rw [uI_ne (by decide)], fun _ _ => rfl, fun _ _ _ _ => rfl, fun h => h⟩
theorem jdX.u0 : jdX s (uI s 0 13 wi) := ⟨fun a h _ _ _ _ _ _ _ _ _ => uI_ne h, fun j hj => by rw [rdU, if_neg (fun z => hj z.2)], fun j _ => by rw [uI_ne (by decide)], fun _ _ => rfl, fun _ _ _ _ => rfl, fun h => h⟩
theorem jdX.hd (h : hdF s s') : jdX s s' := ⟨fun a _ h1 _ _ h4 _ _ h7 _ h9 => h.1 a h1 h4 h7 h9, fun j _ => by rw [h.1 0 (by decide) (by decide) (by decide) (Or.inl (by decide))], fun j _ => by rw [h.1 65 (by decide) (by decide) (by decide) (Or.inl (by decide))], fun a _ => by rw [h.2.2], fun a k _ _ => by rw [h.2.2], frS_eq (by rw [h.2.2])⟩
theorem jmJ_lw (h : jmJ j = false) : lwJ j = false := by
  unfold jmJ at h
  cases hw : lwJ j
  · rfl
  · rw [hw] at h; cases h
theorem jdM.lw (h : lwM t t') : jdM t t' := ⟨fun a h1 h2 h3 h4 _ _ _ => h.1 a h1 h2 h3 h4, h.2.1, fun j hj => h.2.2.1 j (jmJ_lw hj), h.2.2.2.1, h.2.2.2.2.1, h.2.2.2.2.2⟩
theorem jdM.tr (h : jdM t t') (g : jdM t' t'') : jdM t t'' := ⟨fun a h1 h2 h3 h4 h5 h6 h7 => (g.1 a h1 h2 h3 h4 h5 h6 h7).trans (h.1 a h1 h2 h3 h4 h5 h6 h7), fun j a => ⟨(g.2.1 j a).1.trans (h.2.1 j a).1, (g.2.1 j a).2.trans (h.2.1 j a).2⟩, fun j a => (g.2.2.1 j a).trans (h.2.2.1 j a), fun a h1 => (g.2.2.2.1 a h1).trans (h.2.2.2.1 a h1), fun j a => (g.2.2.2.2.1 j a).trans (h.2.2.2.2.1 j a), g.2.2.2.2.2.trans h.2.2.2.2.2⟩
theorem jdM.jg (h : jgF t t') : jdM t t' := ⟨fun a h1 _ _ _ h5 h6 h7 => h.1 a h1 h5 h6 h7, fun j _ => ⟨by rw [h.1 161 (by decide) (by decide) (by decide) (Or.inl (by decide))], by rw [h.1 162 (by decide) (by decide) (by decide) (Or.inl (by decide))]⟩, fun j hj => h.2.1 j (fun z => by rw [z] at hj; cases hj) (fun z => by rw [z] at hj; cases hj) (fun z => by rw [z] at hj; cases hj) (fun z => by rw [z] at hj; cases hj) (fun z => by rw [z] at hj; cases hj) (fun z => by rw [z] at hj; cases hj) (fun z => by rw [z] at hj; cases hj), fun a _ => by rw [h.2.2], fun j _ => by rw [h.2.2], by rw [h.2.2]⟩
/-- nodes of a law -/
theorem law_LV (h : ndZ true 0 s t 61 400 a e) (g : gw (s.1 62) (s.1 63) a e) (he : e ≤ 400) : LV (s.1 62) (s.1 63) a e ∧ LM t (s.1 62) (s.1 63) a e := by
  have hu : ∀ j k, s.1 62 j = nI k → k < 256 → ∀ k', k' ∈ opL → s.1 62 j = nI k' → k = k' := fun j k h1 h2 k' h3 h4 => by
    have := op_lt k' h3
    rw [h1, n_EQ (by omega) (by omega)] at h4
    exact h4
  refine ⟨⟨⟨g.1, he⟩, gw_dpk g, fun j j1 j2 => ⟨fun ho => ?_, fun ho => ?_⟩⟩, fun j j1 j2 k hk hk2 => ?_⟩
  · obtain ⟨k', K, g1, g2, g3, g4, -⟩ := h j j1 j2
    have ek := hu j 2 ho (by decide) k' g1 g2
    subst ek
    have g4' : ndR 0 2 (s.1 63 j) K (t.1 162 (400 + j)) := g4
    rcases g4' with ⟨y, -⟩ | ⟨-, -, x, x1, x2, -⟩ | ⟨y, -⟩ | ⟨y, -⟩ | ⟨y, -⟩ | ⟨y, -⟩ | ⟨y, -⟩ | ⟨y, -⟩ | ⟨y, -⟩ | ⟨y, -⟩ | ⟨y, -⟩ | ⟨y, -⟩ | ⟨y, -⟩ | ⟨y, -⟩ | ⟨y, -⟩ | ⟨-, -, x, x1, x2, -⟩ | ⟨-, -, x, x1, x2, -⟩ | ⟨y, -⟩ | ⟨y, -⟩ | ⟨y, -⟩ | ⟨-, -, x, x1, x2, -⟩ | ⟨-, -, x2⟩
    all_goals first | (exfalso; omega) | exact ⟨_, x2, by omega, Or.inl (by omega)⟩ | exact ⟨234, x2, by omega, Or.inr rfl⟩
  · obtain ⟨k', K, g1, g2, g3, g4, -⟩ := h j j1 j2
    have ek := hu j 3 ho (by decide) k' g1 g2
    subst ek
    have g4' : ndR 0 3 (s.1 63 j) K (t.1 162 (400 + j)) := g4
    rcases g4' with ⟨y, -⟩ | ⟨y, -⟩ | ⟨y, -⟩ | ⟨y, -⟩ | ⟨y, -⟩ | ⟨y, -⟩ | ⟨y, -⟩ | ⟨y, -⟩ | ⟨y, -⟩ | ⟨y, -⟩ | ⟨y, -⟩ | ⟨y, -⟩ | ⟨y, -⟩ | ⟨y, -⟩ | ⟨y, -⟩ | ⟨y, -⟩ | ⟨y, -⟩ | ⟨-, -, x, x1, x2, -⟩ | ⟨-, -, x, x1, x2, -⟩ | ⟨-, -, x, x1, x2, -⟩ | ⟨y, -⟩ | ⟨y, -⟩
    all_goals first | (exfalso; omega) | exact ⟨_, x2, by omega⟩
  · obtain ⟨k', K, g1, g2, g3, g4, -⟩ := h j j1 j2
    rw [hu j k hk hk2 k' g1 g2]
    exact ⟨K, g3, g4⟩
/-- a model's program under a frame -/
theorem MB_fr (h : MB t v P nc nl nt N) (h1 : ∀ c, c = 154 ∨ c = 155 ∨ c = 158 ∨ c = 164 ∨ c = 166 ∨ c = 167 ∨ c = 172 ∨ c = 173 ∨ c = 174 ∨ (176 ≤ c ∧ c ≤ 179) ∨ c = 181 → t'.1 c = t.1 c) (h2 : ∀ j, j < 400 → t'.1 161 j = t.1 161 j ∧ t'.1 162 j = t.1 162 j) : MB t' v P nc nl nt N := by
  have hx : ∀ u r i A' E', exM t P u r i A' E' → exM t' P u r i A' E' := fun u r i A' E' h => by
    obtain ⟨a, e, a1, a2, a3, a4, a5⟩ := h
    refine ⟨a, e, a1, a2, a3, a4, ?_⟩
    rcases a5 with a5 | ⟨b1, b2, b3, b4, b5⟩ | a5
    · exact Or.inl a5
    · refine Or.inr (Or.inl ⟨b1, b2, b3, fun j j1 j2 k hk hk2 => ?_, fun j j1 j2 => by rw [(h2 j (by omega)).1]; exact b5 j j1 j2⟩)
      rw [Nat.zero_add, (h2 j (by omega)).1, (h2 j (by omega)).2]
      have := b4 j j1 j2 k hk hk2
      rw [Nat.zero_add] at this
      exact this
    · exact Or.inr (Or.inr a5)
  obtain ⟨h0, hl, hc, ht⟩ := h
  refine ⟨h0, fun i hi => ?_, fun c hc' => ?_, fun u hu => ?_⟩
  · obtain ⟨a1, a2, a3, a4, a5, a6, ⟨u, a7, a8, a9, a10⟩, a11, a12, a13⟩ := hl i hi
    refine ⟨by rw [h1 164 (by omega)]; exact a1, by rw [h1 166 (by omega)]; exact a2, by rw [h1 167 (by omega)]; exact a3, fun z => ?_, fun z => by rw [h1 172 (by omega)]; exact a5 z, fun z => by rw [h1 174 (by omega)]; exact a6 z, ⟨u, a7, a8, ?_, ?_⟩, a11, a12, fun q hq => by rw [h1 q (by omega)]; exact a13 q hq⟩
    · rw [h1 172 (by omega), h1 173 (by omega), h1 174 (by omega)]; exact a4 z
    · rw [h1 176 (by omega), h1 177 (by omega)]; exact hx _ _ _ _ _ a9
    · rw [h1 178 (by omega), h1 179 (by omega)]; exact hx _ _ _ _ _ a10
  · rw [h1 154 (by omega), h1 155 (by omega)]; exact hc c hc'
  · rw [h1 158 (by omega), h1 181 (by omega)]; exact ht u hu
theorem EXm_lw (hm : EXm P w nc nl nt n fw X t) (h : lwM t t') : EXm P w nc nl nt n fw X t' := by
  have hB : MB t 2 P nc nl nt n := hm.flat.1.1
  refine hm.fl (MB_fr hB (fun c hc => h.1 c (by omega) (by omega) (by omega) (by omega)) h.2.1) ⟨fun c h1 h2 => h.1 c (by omega) (by omega) (by omega) (by omega), fun j hj => h.2.2.1 j ?_⟩
  have : j = 12 ∨ j = 16 ∨ j = 18 ∨ j = 98 ∨ j = 99 ∨ j = 100 ∨ j = 101 ∨ j = 102 ∨ j = 103 ∨ j = 115 ∨ j = 120 := by omega
  rcases this with rfl | rfl | rfl | rfl | rfl | rfl | rfl | rfl | rfl | rfl | rfl <;> rfl
theorem EXx_lw (hx : EXx P w nc nl nt n p fw X s) (hp : p = 11 ∨ p = 36) (h : lwX s s') : EXx P w nc nl nt n p fw X s' := by
  have nT : ∀ a, 6 < a → ¬ sT a := fun a h z => absurd z.2 (by omega)
  exact hx.fl ⟨fun c hc => h.1 c (by omega) (by omega) (by omega) (by omega) (by omega) (nT c (by omega)), fun j _ => by rw [h.1 70 (by decide) (by decide) (by decide) (by decide) (by decide) (nT 70 (by decide))], h.2.2.2.1 84 (Or.inl (nT 84 (by decide))), h.2.2.2.2.1 71 7 (nT 71 (by decide)) (fun z => absurd z.1 (by decide))⟩
theorem EXx_u (hx : EXx P w nc nl nt n p fw X s) (hp : p = 11 ∨ p = 36) (ha : a = 0 ∨ a = 1) : EXx P w nc nl nt n p fw X (uI s a j wi) :=
  hx.fl ⟨fun c hc => uI_ne (by omega), fun j _ => by rw [uI_ne (by omega)], rfl, rfl⟩
theorem x_fewer (hx : EXx P w nc nl nt n p fw X s) : s.1 70 18 = bt fw ∧ s.1 70 17 = 1 := ⟨hx.flat.1.1.2.2.2, hx.flat.1.2.2⟩
end JAL
