/-! THE LAW'S WALK: what holds between its calls. -/
/-- from here the law answers true -/
abbrev LG (en : pN) (pc : Nat) (ls : List (Nat × Value)) (h : pH) : Prop := ∃ h' : pH, (h'.1 ≤ 600000 ∧ h'.2.1 ≤ 7302250) ∧ xW (pev msL en 300) en (some .boolean) tb_law (pc, ls, []) h (some (.int 1), h')
/-- the law's program stands in the class, nothing rewritten -/
abbrev BS (P : Nat → fI) (τ : qS) : Prop := (∀ a, a < 25 → τ.1 (11 + a) = P a) ∧ (τ.1 8 = P 25 ∧ τ.1 9 = P 26) ∧ (¬ τ.1 0 9 = 0 ∧ τ.1 0 10 = 0 ∧ τ.1 0 11 = 0 ∧ τ.1 0 12 = 0 ∧ τ.1 0 14 = -2)
/-- it stands there, and a rewritten one that was tried -/
abbrev BSr (P : Nat → fI) (τ : qS) : Prop := (∀ a, a < 25 → τ.1 (11 + a) = P a) ∧ (∀ j, j < 400 → τ.1 8 j = P 25 j ∧ τ.1 9 j = P 26 j) ∧ (¬ τ.1 0 9 = 0 ∧ ¬ τ.1 0 10 = 0 ∧ ¬ τ.1 0 11 = 0 ∧ τ.1 0 12 = 0)
section LWK
variable {en : pN} {d nc nl nt n N p w i j k : Nat} {P P' : Nat → fI} {τ τ' : qS} {X : xT} {fw : Bool} {bl : Nat → List Nat} {K th lc : Nat → Nat} {go : Nat → Bool} {u v : Int32} {F : pFn} {ret : Option FieldType} {tab : List pI} {ls : List (Nat × Value)} {st r : List Value} {h : pH} {pc len : Nat} {x : pX} {R : pR}
theorem x_rem (hv : ¬ v = 0) (hq : p_find tab pc = some (.irem, len, x)) (k : xW F en ret tab (pc + 1, ls, .int (u - u / v * v) :: r) h R) : xW F en ret tab (pc, ls, .int v :: .int u :: r) h R := by
  refine x_br (f' := (pc + 1, ls, .int (u - u / v * v) :: r)) hq rfl rfl rfl ?_ k
  have e : p_bin .irem u v = some (u - u / v * v) := if_neg hv
  show (match p_bin .irem u v with
    | some z => some (pc + 1, ls, .int z :: r)
    | none => none) = some (pc + 1, ls, .int (u - u / v * v) :: r)
  rw [e]
theorem LG_b {σ : qS} {m : Nat → Int32} : (heapOf (hM m) σ).1 ≤ 600000 ∧ (heapOf (hM m) σ).2.1 ≤ 7302250 := ⟨show 152 ≤ 600000 by decide, show 1603711 ≤ 7302250 by decide⟩
theorem LG_b0 {σ : qS} : (heapOf hX0 σ).1 ≤ 600000 ∧ (heapOf hX0 σ).2.1 ≤ 7302250 := ⟨show 151 ≤ 600000 by decide, show 1603647 ≤ 7302250 by decide⟩
theorem BS.cg (h : BS P τ) (hr : ∀ c, 8 ≤ c → c ≤ 35 → c ≠ 10 → τ'.1 c = τ.1 c) (h0 : ∀ j, j = 9 ∨ j = 10 ∨ j = 14 → τ'.1 0 j = τ.1 0 j) (h11 : τ'.1 0 11 = 0) (h12 : τ'.1 0 12 = 0) : BS P τ' := by
  obtain ⟨a1, ⟨a2, a3⟩, a4, a5, a6, a7, a8⟩ := h
  refine ⟨fun a ha => ?_, ⟨?_, ?_⟩, ?_, ?_, h11, h12, ?_⟩
  · rw [hr (11 + a) (by omega) (by omega) (by omega)]; exact a1 a ha
  · rw [hr 8 (by decide) (by decide) (by decide)]; exact a2
  · rw [hr 9 (by decide) (by decide) (by decide)]; exact a3
  · rw [h0 9 (by decide)]; exact a4
  · rw [h0 10 (by decide)]; exact a5
  · rw [h0 14 (by decide)]; exact a8
theorem BS.ex (h : BS P τ) (f : frEx 11 τ τ') (h11 : τ'.1 0 11 = 0) : BS P τ' := h.cg (fun c h1 h2 h3 => f.1 c (by omega) (by omega) h3 (by omega)) (fun j hj => f.2.1 j (by omega)) h11 (by rw [f.2.1 12 (by decide)]; exact h.2.2.2.2.2.1)
theorem BS.fo (h : BS P τ) (f : frO τ τ') : BS P τ' := h.cg (fun c h1 h2 h3 => f.1 c (by omega)) (fun j _ => by rw [f.1 0 (by decide)]) (by rw [f.1 0 (by decide)]; exact h.2.2.2.2.1) (by rw [f.1 0 (by decide)]; exact h.2.2.2.2.2.1)
theorem BS.fc (h : BS P τ) (f : frCx τ τ') : BS P τ' := h.cg (fun c h1 h2 h3 => f.1 c (by omega) (by omega) (by omega) (by omega) (by omega)) (fun j _ => by rw [f.1 0 (by decide) (by decide) (by decide) (by decide) (by decide)]) (by rw [f.1 0 (by decide) (by decide) (by decide) (by decide) (by decide)]; exact h.2.2.2.2.1) (by rw [f.1 0 (by decide) (by decide) (by decide) (by decide) (by decide)]; exact h.2.2.2.2.2.1)
theorem BS.fb (h : BS P τ) (f : frB τ τ') (h12 : τ'.1 0 12 = 0) : BS P τ' := h.cg (fun c h1 h2 h3 => f.1 c (by omega) (by omega) (by omega) (by omega) (by omega) (by omega) (by omega) (by omega)) (fun j hj => f.2.1 j (by omega)) (by rw [f.2.1 11 (by decide)]; exact h.2.2.2.2.1) h12
theorem BS.fx (h : BS P τ) (f : frX τ τ') : BS P τ' := h.cg (fun c h1 h2 h3 => f.1 c (by omega) (by omega) (by omega) (by omega) (by omega) (by omega) (by omega)) (fun j hj => by rw [f.1 0 (by decide) (by decide) (by decide) (by decide) (by decide) (by decide) (Or.inl (by decide))]) (by rw [f.1 0 (by decide) (by decide) (by decide) (by decide) (by decide) (by decide) (Or.inl (by decide))]; exact h.2.2.2.2.1) (by rw [f.1 0 (by decide) (by decide) (by decide) (by decide) (by decide) (by decide) (Or.inl (by decide))]; exact h.2.2.2.2.2.1)
theorem BS.px (h : BS P τ) (hl : lmN P = 400) : PXi τ 11 P := ⟨h.1, ⟨by omega, fun j _ => by rw [h.2.1.1]⟩, fun j _ => by rw [h.2.1.2]⟩
theorem BSr.cg (h : BSr P τ) (hr : ∀ c, 8 ≤ c → c ≤ 35 → c ≠ 10 → τ'.1 c = τ.1 c) (h0 : τ'.1 0 = τ.1 0) : BSr P τ' := by
  obtain ⟨a1, a2, a3⟩ := h
  refine ⟨fun a ha => ?_, fun j hj => ?_, ?_⟩
  · rw [hr (11 + a) (by omega) (by omega) (by omega)]; exact a1 a ha
  · rw [hr 8 (by decide) (by decide) (by decide), hr 9 (by decide) (by decide) (by decide)]; exact a2 j hj
  · rw [h0]; exact a3
theorem BSr.fo (h : BSr P τ) (f : frO τ τ') : BSr P τ' := h.cg (fun c h1 h2 h3 => f.1 c (by omega)) (f.1 0 (by decide))
theorem x_explored3 (hx : EXx P w nc nl nt n p fw X τ) : qev en (d + 1) 221 [.ref 0, .int (3 : Int32)] τ = some (some (.int (nI (outL P w nt (xS X) (xN X)).length)), τ) := by
  have e := x_explored (en := en) (d := d) (a := 3) hx
  rw [if_neg (by decide), if_neg (by decide), if_neg (by decide), if_pos (by decide)] at e
  exact e
theorem x_explored5 (hx : EXx P w nc nl nt n p fw X τ) : qev en (d + 1) 221 [.ref 0, .int (5 : Int32)] τ = some (some (.int (bt fw)), τ) := by
  have e := x_explored (en := en) (d := d) (a := 5) hx
  rw [if_neg (by decide), if_neg (by decide), if_neg (by decide), if_neg (by decide), if_neg (by decide), if_pos (by decide)] at e
  exact e
/-- only the rows of a program count -/
def cut28 (P : Nat → fI) : Nat → fI := fun a => if a < 28 then P a else fun _ => 0
theorem cut28_e (h : ∀ a, a < 28 → P' a = P a) : cut28 P' = cut28 P := by
  funext a
  unfold cut28
  by_cases q : a < 28
  · rw [if_pos q, if_pos q, h a q]
  · rw [if_neg q, if_neg q]
theorem PRG_cg (hP : PRG P nc nl N lc bl K th go) (h : ∀ a, a < 28 → P' a = P a) : PRG P' nc nl N lc bl K th go := by
  have h1 : PRG (cut28 P) nc nl N lc bl K th go := hP
  rw [← cut28_e h] at h1
  exact h1
end LWK
