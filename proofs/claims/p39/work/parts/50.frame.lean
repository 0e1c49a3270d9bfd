/-! THE FRAME: a call that begins at cells of one side stays at that side. -/
/-- a set of cells that the references that never change don't leave -/
def frC (P : Nat → Prop) : Prop := (∀ a k : Nat, P a → lc a < 13 → fk (lc a) k = 2 → P (lr a k)) ∧ (∀ a j : Nat, P a → lc a = 24 → j < ln a → P (lr a 0 + j))
/-- nor do those that change -/
def frS (P : Nat → Prop) (σ : qS) : Prop := ∀ a k : Nat, P a → σ.2.2 a k ≠ 0 → P (σ.2.2 a k - 1)
def frV (P : Nat → Prop) (v : Value) : Prop := match v with
  | .ref a => P a
  | _ => True
def frL (P : Nat → Prop) (ls : List (Nat × Value)) : Prop := ∀ q ∈ ls, frV P q.2
def frT (P : Nat → Prop) (st : List Value) : Prop := ∀ v ∈ st, frV P v
/-- the other side is as it was -/
def frK (P : Nat → Prop) (σ τ : qS) : Prop := ∀ a : Nat, ¬ P a → τ.1 a = σ.1 a ∧ τ.2.1 a = σ.2.1 a ∧ τ.2.2 a = σ.2.2 a
theorem frK.rf {P : Nat → Prop} {σ : qS} : frK P σ σ := fun _ _ => ⟨rfl, rfl, rfl⟩
theorem frK.tr {P : Nat → Prop} {σ τ ρ : qS} (h : frK P σ τ) (g : frK P τ ρ) : frK P σ ρ := fun a ha => ⟨(g a ha).1.trans (h a ha).1, (g a ha).2.1.trans (h a ha).2.1, (g a ha).2.2.trans (h a ha).2.2⟩
section FR
variable {P : Nat → Prop}
theorem frT.tail {v : Value} {st : List Value} (h : frT P (v :: st)) : frT P st := fun w hw => h w (List.mem_cons_of_mem _ hw)
theorem frT.head {v : Value} {st : List Value} (h : frT P (v :: st)) : frV P v := h v List.mem_cons_self
theorem frT.cons {v : Value} {st : List Value} (h : frV P v) (g : frT P st) : frT P (v :: st) := by
  intro w hw
  rcases List.mem_cons.mp hw with rfl | hw
  · exact h
  · exact g w hw
theorem frL.get {ls : List (Nat × Value)} {i : Nat} {v : Value} (h : frL P ls) (hg : p_get ls i = some v) : frV P v := h (i, v) (p_get_mem hg)
theorem frL.cons {ls : List (Nat × Value)} {i : Nat} {v : Value} {f : Nat × Value → Bool} (h : frL P ls) (g : frV P v) : frL P ((i, v) :: ls.filter f) := by
  intro q hq
  rcases List.mem_cons.mp hq with rfl | hq
  · exact g
  · exact h q (List.mem_filter.mp hq).1
theorem fr_A {pc : Nat} {i : Instr} {ls : List (Nat × Value)} {st : List Value} {f : pF} (hs : pstepA pc i ls st = some f) (hl : frL P ls) (ht : frT P st) : frL P f.2.1 ∧ frT P f.2.2 := by
  unfold pstepA at hs
  (repeat' split at hs) <;> first
    | (cases hs; done)
    | (cases hs; exact ⟨hl, frT.cons trivial ht.tail.tail⟩)
theorem fr_L {pc : Nat} {i : Instr} {ls : List (Nat × Value)} {st : List Value} {f : pF} (hs : pstepL pc i ls st = some f) (hl : frL P ls) (ht : frT P st) : frL P f.2.1 ∧ frT P f.2.2 := by
  cases i
  all_goals first
    | (simp only [pstepL] at hs; exact fr_A hs hl ht)
    | (simp only [pstepL] at hs; (repeat' split at hs) <;> first
        | (cases hs; done)
        | (cases hs; exact ⟨hl, ht⟩)
        | (cases hs; exact ⟨hl, ht.tail⟩)
        | (cases hs; exact ⟨hl, ht.tail.tail⟩)
        | (cases hs; exact ⟨hl, frT.cons trivial ht⟩)
        | (cases hs; exact ⟨hl, frT.cons trivial ht.tail⟩)
        | (cases hs; exact ⟨hl, frT.cons trivial ht.tail.tail⟩)
        | (cases hs; exact ⟨hl, frT.cons ht.head ht⟩)
        | (cases hs; exact ⟨hl, frT.cons ht.head (frT.cons ht.tail.head ht)⟩)
        | (rename_i hg; cases hs; exact ⟨hl, frT.cons (hl.get hg) ht⟩)
        | (rename_i hg; cases hs; exact ⟨hl.cons trivial, ht⟩)
        | (cases hs; exact ⟨hl.cons ht.head, ht.tail⟩))
theorem fr_st : ∀ q ∈ stL, frV P q.2.2.2 := by
  intro q hq
  have h : stL.all (fun q => match q.2.2.2 with
    | .ref _ => false
    | _ => true) = true := by decide +kernel
  have h1 := List.all_eq_true.mp h q hq
  revert h1
  generalize q.2.2.2 = v
  intro h1
  cases v <;> first | trivial | cases h1
theorem fr_uI {σ : qS} {a k : Nat} {v : Int32} (ha : P a) (hS : frS P σ) : frS P (uI σ a k v) ∧ frK P σ (uI σ a k v) := ⟨hS, fun b hb => ⟨uI_ne (fun q => hb (by rw [q]; exact ha)), rfl, rfl⟩⟩
theorem fr_uJ {σ : qS} {a k : Nat} {v : Int64} (ha : P a) (hS : frS P σ) : frS P (uJ σ a k v) ∧ frK P σ (uJ σ a k v) := ⟨hS, fun b hb => ⟨rfl, uJ_ne (fun q => hb (by rw [q]; exact ha)), rfl⟩⟩
theorem fr_uIr {σ : qS} {a : Nat} {f : Nat → Int32} (ha : P a) (hS : frS P σ) : frS P (uIr σ a f) ∧ frK P σ (uIr σ a f) := ⟨hS, fun b hb => ⟨uIr_ne (fun q => hb (by rw [q]; exact ha)), rfl, rfl⟩⟩
theorem fr_uJr {σ : qS} {a : Nat} {f : Nat → Int64} (ha : P a) (hS : frS P σ) : frS P (uJr σ a f) ∧ frK P σ (uJr σ a f) := ⟨hS, fun b hb => ⟨rfl, uJr_ne (fun q => hb (by rw [q]; exact ha)), rfl⟩⟩
theorem fr_uR {σ : qS} {a k q : Nat} (ha : P a) (hq : P q) (hS : frS P σ) : frS P (uR σ a k (q + 1)) ∧ frK P σ (uR σ a k (q + 1)) := by
  refine ⟨fun b j hb h0 => ?_, fun b hb => ⟨rfl, rfl, uR_ne (fun q => hb (by rw [q]; exact ha))⟩⟩
  have e : (uR σ a k (q + 1)).2.2 b j = if b = a ∧ j = k then q + 1 else σ.2.2 b j := rfl
  rw [e] at h0 ⊢
  by_cases h : b = a ∧ j = k
  · rw [if_pos h]
    exact hq
  · rw [if_neg h] at h0 ⊢
    exact hS b j hb h0
theorem fr_fv {σ : qS} {a k : Nat} (hC : frC P) (hS : frS P σ) (ha : P a) (hc : lc a < 13) : frV P (qfv σ a k) := by
  unfold qfv
  split
  · trivial
  · trivial
  · rename_i h
    exact hC.1 a k ha hc h
  · split
    · trivial
    · rename_i h
      exact hS a k ha h
theorem fr_put {σ τ : qS} {a k : Nat} {v : Value} (hS : frS P σ) (ha : P a) (hv : frV P v) (h : qput σ a k v = some τ) : frS P τ ∧ frK P σ τ := by
  unfold qput at h
  split at h
  · cases h; exact fr_uI ha hS
  · cases h; exact fr_uJ ha hS
  · cases h; exact fr_uR ha hv hS
  · cases h
theorem fr_H {en : pN} {pc : Nat} {i : Instr} {x : pX} {ls : List (Nat × Value)} {st : List Value} {σ : qS} {y : pF × qS} (hC : frC P) (hs : qstepH en pc i x ls st σ = some y) (hl : frL P ls) (ht : frT P st) (hS : frS P σ) : (frL P y.1.2.1 ∧ frT P y.1.2.2) ∧ (frS P y.2 ∧ frK P σ y.2) := by
  cases i
  case getfield idx =>
    simp only [qstepH] at hs
    split at hs
    · split at hs
      · rename_i hg
        cases hs
        exact ⟨⟨hl, frT.cons (fr_fv hC hS ht.head hg.2.1) ht.tail⟩, hS, frK.rf⟩
      · cases hs
    · (repeat' split at hs) <;> first | (cases hs; exact ⟨⟨hl, frT.cons trivial ht.tail⟩, hS, frK.rf⟩) | (cases hs; done)
    · cases hs
  case putfield idx =>
    simp only [qstepH] at hs
    split at hs
    · split at hs
      · split at hs
        · rename_i hp
          cases hs
          exact ⟨⟨hl, ht.tail.tail⟩, fr_put hS ht.tail.head ht.head hp⟩
        · cases hs
      · cases hs
    · cases hs
  case getstatic idx =>
    simp only [qstepH] at hs
    split at hs
    · rename_i hq
      cases hs
      exact ⟨⟨hl, frT.cons (fr_st _ (List.mem_of_getElem? hq)) ht⟩, hS, frK.rf⟩
    · cases hs
  case aaload =>
    simp only [qstepH] at hs
    split at hs
    · split at hs
      · rename_i hg
        cases hs
        exact ⟨⟨hl, frT.cons (hC.2 _ _ ht.tail.head hg.1 (Nat.not_le.mp fun z => (p_inB_spec hg.2) (Or.inr z))) ht.tail.tail⟩, hS, frK.rf⟩
      · cases hs
    · cases hs
  case iastore =>
    simp only [qstepH] at hs
    (repeat' split at hs) <;> first | (cases hs; exact ⟨⟨hl, ht.tail.tail.tail⟩, fr_uI ht.tail.tail.head hS⟩) | (cases hs; done)
  case lastore =>
    simp only [qstepH] at hs
    (repeat' split at hs) <;> first | (cases hs; exact ⟨⟨hl, ht.tail.tail.tail⟩, fr_uJ ht.tail.tail.head hS⟩) | (cases hs; done)
  case bastore =>
    simp only [qstepH] at hs
    (repeat' split at hs) <;> first | (cases hs; exact ⟨⟨hl, ht.tail.tail.tail⟩, fr_uI ht.tail.tail.head hS⟩) | (cases hs; done)
  all_goals first
    | (simp [qstepH] at hs; done)
    | (simp only [qstepH] at hs; (repeat' split at hs) <;> first
        | (cases hs; exact ⟨⟨hl, frT.cons trivial ht⟩, hS, frK.rf⟩)
        | (cases hs; exact ⟨⟨hl, frT.cons trivial ht.tail⟩, hS, frK.rf⟩)
        | (cases hs; exact ⟨⟨hl, frT.cons trivial ht.tail.tail⟩, hS, frK.rf⟩)
        | (cases hs; done))
/-- what a function of the methods keeps to -/
def frF (P : Nat → Prop) (F : qFn) : Prop := ∀ (y : Nat) (as : List Value) (σ τ : qS) (w : Option Value), F y as σ = some (w, τ) → frT P as → frS P σ → (frS P τ ∧ frK P σ τ) ∧ ∀ v : Value, w = some v → frV P v
theorem fr_args {n : Nat} {st as r : List Value} (h : p_args n st = some (as, r)) (ht : frT P st) : frT P as ∧ frT P r := by
  obtain ⟨h1, -⟩ := p_args_spec h
  rw [h1] at ht
  exact ⟨fun v hv => ht v (List.mem_append.mpr (Or.inl (List.mem_reverse.mpr hv))), fun v hv => ht v (List.mem_append.mpr (Or.inr hv))⟩
theorem fr_app {w : Option Value} {r : List Value} (hw : ∀ v : Value, w = some v → frV P v) (hr : frT P r) : frT P (w.toList ++ r) := by
  cases w with
  | none => exact hr
  | some v => exact frT.cons (hw v rfl) hr
theorem fr_Cc {F : qFn} {pc : Nat} {i : Instr} {x : pX} {ls : List (Nat × Value)} {st : List Value} {σ : qS} {y : pF × qS} (hF : frF P F) (hs : qstepC F pc i x ls st σ = some y) (hl : frL P ls) (ht : frT P st) (hS : frS P σ) : (frL P y.1.2.1 ∧ frT P y.1.2.2) ∧ (frS P y.2 ∧ frK P σ y.2) := by
  cases i
  case invokevirtual idx =>
    simp only [qstepC] at hs
    split at hs
    · split at hs
      · rename_i ha
        split at hs
        · split at hs
          · rename_i hw
            cases hs
            obtain ⟨h1, h2⟩ := fr_args ha ht
            obtain ⟨h3, h4⟩ := hF _ _ _ _ _ hw (frT.cons h2.head h1) hS
            exact ⟨⟨hl, fr_app h4 h2.tail⟩, h3⟩
          · cases hs
        · cases hs
      · cases hs
    · cases hs
  case invokestatic idx =>
    simp only [qstepC] at hs
    split at hs
    · split at hs
      · rename_i y' hy
        cases hs
        unfold q_copy at hy
        (repeat' split at hy) <;> first
          | (cases hy; exact ⟨⟨hl, ht.tail.tail.tail.tail.tail⟩, fr_uIr ht.tail.tail.head hS⟩)
          | (cases hy; exact ⟨⟨hl, ht.tail.tail.tail.tail.tail⟩, fr_uJr ht.tail.tail.head hS⟩)
          | (cases hy; done)
      · cases hs
    · split at hs
      · split at hs
        · rename_i ha
          split at hs
          · split at hs
            · rename_i hw
              cases hs
              obtain ⟨h1, h2⟩ := fr_args ha ht
              obtain ⟨h3, h4⟩ := hF _ _ _ _ _ hw h1 hS
              exact ⟨⟨hl, fr_app h4 h2⟩, h3⟩
            · cases hs
          · cases hs
        · cases hs
      · cases hs
  all_goals (simp [qstepC] at hs)
theorem fr_ret {ret : Option FieldType} {i : Instr} {st : List Value} {w : Option Value} (h : p_ret ret i st = some w) (ht : frT P st) : ∀ v : Value, w = some v → frV P v := by
  unfold p_ret at h
  (repeat' split at h) <;> first
    | (cases h; done)
    | (cases h; intro v hv; cases hv; done)
    | (cases h; intro v hv; cases hv; exact ht.head)
theorem fr_run {F : qFn} {en : pN} {ret : Option FieldType} {tab : List pI} (hC : frC P) (hF : frF P F) : ∀ (n : Nat) (f : pF) (σ τ : qS) (w : Option Value), qrun F en ret tab n f σ = some (w, τ) → frL P f.2.1 → frT P f.2.2 → frS P σ → (frS P τ ∧ frK P σ τ) ∧ ∀ v : Value, w = some v → frV P v := by
  intro n
  induction n with
  | zero => intro f σ τ w hs; cases hs
  | succ n ih =>
    intro f σ τ w hs hl ht hS
    unfold qrun at hs
    split at hs
    · cases hs
    · rename_i q hq
      split at hs
      · rename_i v hv
        cases hs
        exact ⟨⟨hS, frK.rf⟩, fr_ret hv ht⟩
      · split at hs
        · rename_i y hy
          have key : (frL P y.1.2.1 ∧ frT P y.1.2.2) ∧ (frS P y.2 ∧ frK P σ y.2) := by
            unfold qstep at hy
            split at hy
            · exact fr_Cc hF hy hl ht hS
            · split at hy
              · exact fr_H hC hy hl ht hS
              · split at hy
                · rename_i f1 hf1
                  cases hy
                  exact ⟨fr_L hf1 hl ht, hS, frK.rf⟩
                · cases hy
          obtain ⟨⟨k1, k2⟩, k3, k4⟩ := key
          obtain ⟨⟨r1, r2⟩, r3⟩ := ih _ _ _ _ hs k1 k2 k3
          exact ⟨⟨r1, k4.tr r2⟩, r3⟩
        · cases hs
theorem fr_lv : ∀ (as : List Value) (i : Nat), frT P as → frL P (lv_args i as) := by
  intro as
  induction as with
  | nil => intro i _ q hq; cases hq
  | cons v as ih =>
    intro i ht q hq
    have hq : q ∈ (i, v) :: lv_args (if v.category = 2 then i + 2 else i + 1) as := hq
    rcases List.mem_cons.mp hq with rfl | hq
    · exact ht.head
    · exact ih _ ht.tail q hq
theorem fr_ev {en : pN} (hC : frC P) : ∀ d : Nat, frF P (qev en d) := by
  intro d
  induction d with
  | zero => intro y as σ τ w hs; cases hs
  | succ d ih =>
    intro y as σ τ w hs ht hS
    have hs : (match msL[y]? with
      | none => none
      | some M => if (lg_sl as).length ≤ M.2.2.1 then qE (qev en d) en M.2.2.2.1 M.2.2.2.2.2.2.2.2 (0, lv_args 0 as, []) σ else none) = some (w, τ) := hs
    split at hs
    · cases hs
    · split at hs
      · obtain ⟨n, hn⟩ := qE_run hs
        exact fr_run hC ih n _ _ _ _ hn (fr_lv as 0 ht) (fun _ h => by cases h) hS
      · cases hs
end FR
/-- the class's cells, the model's cells -/
def sX (a : Nat) : Prop := a < 151
def sM (a : Nat) : Prop := 151 ≤ a
theorem fk_lt {ci k : Nat} (h : fk ci k = 2) : k < 155 := by
  rcases Nat.lt_or_ge k 155 with q | q
  · exact q
  · exfalso
    have h2 : fk ci k = 9 ∨ ci < 12 := by
      rcases Nat.lt_or_ge ci 12 with z | z
      · exact Or.inr z
      · left
        unfold fk
        rw [List.getD_eq_getElem?_getD (l := fkL), List.getElem?_eq_none (by rw [show fkL.length = 12 by decide +kernel]; exact z)]
        rfl
    rcases h2 with h2 | h2
    · omega
    · have h3 : (List.range 12).all (fun c => decide ((fkL.getD c []).length ≤ 155)) = true := by decide +kernel
      have h4 := of_decide_eq_true (List.all_eq_true.mp h3 ci (List.mem_range.mpr h2))
      unfold fk at h
      rw [List.getD_eq_getElem?_getD, List.getElem?_eq_none (by omega)] at h
      cases h
theorem frC_of {p : Nat → Bool} (h1 : (List.range qNC).all (fun a => !p a || !decide (lc a < 13) || (List.range 155).all (fun k => !decide (fk (lc a) k = 2) || p (lr a k))) = true) (h2 : (List.range qNC).all (fun a => !p a || !decide (lc a = 24) || (List.range (ln a)).all (fun j => p (lr a 0 + j))) = true) : frC (fun a => p a = true) := by
  refine ⟨fun a k hp hc hf => ?_, fun a j hp hc hj => ?_⟩
  · have := allT h1 (t := a) (lc_lt (by omega))
    simp only [hp, decide_eq_true hc, Bool.not_true, Bool.false_or] at this
    have := List.all_eq_true.mp this k (List.mem_range.mpr (fk_lt hf))
    simp only [decide_eq_true hf, Bool.not_true, Bool.false_or] at this
    exact this
  · have := allT h2 (t := a) (lc_lt (by omega))
    simp only [hp, decide_eq_true hc, Bool.not_true, Bool.false_or] at this
    exact List.all_eq_true.mp this j (List.mem_range.mpr hj)
set_option maxRecDepth 100000 in
theorem frC_X : frC sX := by
  have h := frC_of (p := fun a => decide (a < 151)) (by decide +kernel) (by decide +kernel)
  simp only [decide_eq_true_eq] at h
  exact h
set_option maxRecDepth 100000 in
theorem frC_M : frC sM := by
  have h := frC_of (p := fun a => decide (151 ≤ a)) (by decide +kernel) (by decide +kernel)
  simp only [decide_eq_true_eq] at h
  exact h

