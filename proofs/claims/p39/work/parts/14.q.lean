/-! RUNS ON THE SYSTEM'S CELLS; the small machine does what they do (qev_pev). -/
variable {hX : pH}
abbrev qR : Type := Option Value × qS
abbrev qFn : Type := Nat → List Value → qS → Option qR
def q_recv (ci : Nat) (v : Value) : Bool := match v with
  | .ref a => decide (lc a = ci ∧ ci < 13)
  | .retAddr q => decide (1 ≤ q ∧ q ≤ 3) && decide (ci = 13)
  | _ => false
theorem q_recv_spec {ci : Nat} {v : Value} {σ : qS} (h : q_recv ci v = true) : p_recv (heapOf hX σ) ci v = true := by
  cases v with
  | ref a =>
    have hg := of_decide_eq_true h
    have hc : lc a < 13 := by omega
    show (decide (a < qNC + hX.1) && (match qcell hX σ a with
      | .inr (cj, _) => decide (cj = ci)
      | _ => false)) = true
    rw [qcell_obj hc]
    simp only [Bool.and_eq_true, decide_eq_true_eq]
    exact ⟨lc_ltX (by omega), hg.1⟩
  | retAddr q => exact h
  | _ => cases h
def q_copy (st : List Value) (σ : qS) : Option (List Value × qS) := match st with
  | .int n :: .int dp :: .ref a1 :: .int sp :: .ref a0 :: r => if (¬ sp < 0 ∧ ¬ dp < 0 ∧ ¬ n < 0) ∧ (p_cats r ≤ 8 ∧ (sp.toNatClampNeg + n.toNatClampNeg ≤ ln a0 ∧ dp.toNatClampNeg + n.toNatClampNeg ≤ ln a1)) then
      (if lc a0 = 20 ∧ lc a1 = 20 then some (r, uIr σ a1 (va_cpy (σ.1 a0) (σ.1 a1) sp.toNatClampNeg dp.toNatClampNeg n.toNatClampNeg))
      else if lc a0 = 21 ∧ lc a1 = 21 then some (r, uJr σ a1 (va_cpy (σ.2.1 a0) (σ.2.1 a1) sp.toNatClampNeg dp.toNatClampNeg n.toNatClampNeg)) else none) else none
  | _ => none
theorem q_copy_spec {st r : List Value} {σ τ : qS} (h : q_copy st σ = some (r, τ)) : p_copy st (heapOf hX σ) = some (r, heapOf hX τ) := by
  have hh : ∀ a : Nat, (heapOf hX σ).2.2 a = qcell hX σ a := fun _ => rfl
  have hn : (heapOf hX σ).1 = qNC + hX.1 := rfl
  unfold q_copy at h
  split at h
  · rename_i n dp a1 sp a0 r'
    split at h
    · rename_i hg
      split at h
      · rename_i hc
        cases h
        have e1 : heapOf hX (uIr σ a1 (va_cpy (σ.1 a0) (σ.1 a1) sp.toNatClampNeg dp.toNatClampNeg n.toNatClampNeg)) = _ := uIr_heap (e := .inl (0, ln a1, .inl (va_cpy (σ.1 a0) (σ.1 a1) sp.toNatClampNeg dp.toNatClampNeg n.toNatClampNeg))) (by rw [qcell_int (t := 0) hc.2 (by decide) (by decide), uIr_row])
        simp only [p_copy, hh, hn, qcell_int (t := 0) (σ := σ) hc.1 (by decide) (by decide), qcell_int (t := 0) (σ := σ) hc.2 (by decide) (by decide)]
        rw [if_pos ⟨⟨⟨lc_ltX (by omega), lc_ltX (by omega)⟩, hg.1⟩, hg.2.1⟩, if_pos hg.2.2, e1]
        rfl
      · split at h
        · rename_i hc
          cases h
          have e1 : heapOf hX (uJr σ a1 (va_cpy (σ.2.1 a0) (σ.2.1 a1) sp.toNatClampNeg dp.toNatClampNeg n.toNatClampNeg)) = _ := uJr_heap (e := .inl (1, ln a1, .inr (.inl (va_cpy (σ.2.1 a0) (σ.2.1 a1) sp.toNatClampNeg dp.toNatClampNeg n.toNatClampNeg)))) (by rw [qcell_long hc.2, uJr_row])
          simp only [p_copy, hh, hn, qcell_long (σ := σ) hc.1, qcell_long (σ := σ) hc.2]
          rw [if_pos ⟨⟨⟨lc_ltX (by omega), lc_ltX (by omega)⟩, hg.1⟩, hg.2.1⟩, if_pos hg.2.2, e1]
          rfl
        · cases h
    · cases h
  · cases h
/-- calls -/
def qstepC (F : qFn) (pc : Nat) (i : Instr) (x : pX) (ls : List (Nat × Value)) (st : List Value) (σ : qS) : Option (pF × qS) := match i with
  | .invokevirtual _ => match msL[x.1.toNat]? with
    | some M => match p_args M.2.2.2.2.1 st with
      | some (as, v :: r) => if q_recv M.2.2.2.2.2.2.1 v = true ∧ p_cats r ≤ 8 then (match F x.1.toNat (v :: as) σ with
        | some (w, τ) => some ((pc + 3, ls, w.toList ++ r), τ)
        | none => none) else none
      | _ => none
    | none => none
  | .invokestatic _ => if x.1 = -2 then (match q_copy st σ with
      | some y => some ((pc + 3, ls, y.1), y.2)
      | none => none) else (match msL[x.1.toNat]? with
    | some M => match p_args M.2.2.2.2.1 st with
      | some (as, r) => if p_cats r ≤ 8 then (match F x.1.toNat as σ with
        | some (w, τ) => some ((pc + 3, ls, w.toList ++ r), τ)
        | none => none) else none
      | none => none
    | none => none)
  | _ => none
theorem qC {F : qFn} {G : pFn} (hF : ∀ (y : Nat) (as : List Value) (σ τ : qS) (w : Option Value), F y as σ = some (w, τ) → G y as (heapOf hX σ) = some (w, heapOf hX τ)) {pc : Nat} {i : Instr} {x : pX} {ls : List (Nat × Value)} {st : List Value} {σ τ : qS} {f' : pF} (hs : qstepC F pc i x ls st σ = some (f', τ)) : pstepC msL G pc i x ls st (heapOf hX σ) = some (f', heapOf hX τ) := by
  cases i
  case invokevirtual idx =>
    simp only [qstepC] at hs
    simp only [pstepC]
    split at hs
    · rename_i M hM
      rw [hM]
      dsimp only
      split at hs
      · rename_i as v r ha
        rw [ha]
        dsimp only
        split at hs
        · rename_i hg
          rw [if_pos ⟨q_recv_spec hg.1, hg.2⟩]
          split at hs
          · rename_i w τ' hw
            cases hs
            rw [hF _ _ _ _ _ hw]
          · cases hs
        · cases hs
      · cases hs
    · cases hs
  case invokestatic idx =>
    simp only [qstepC] at hs
    simp only [pstepC]
    split at hs
    · rename_i h2
      rw [if_pos h2]
      split at hs
      · rename_i y hy
        cases hs
        rw [q_copy_spec (show q_copy st σ = some (y.1, y.2) from hy)]
      · cases hs
    · rename_i h2
      rw [if_neg h2]
      split at hs
      · rename_i M hM
        rw [hM]
        dsimp only
        split at hs
        · rename_i as r ha
          rw [ha]
          dsimp only
          split at hs
          · rename_i hg
            rw [if_pos hg]
            split at hs
            · rename_i w τ' hw
              cases hs
              rw [hF _ _ _ _ _ hw]
            · cases hs
          · cases hs
        · cases hs
      · cases hs
  all_goals (simp [qstepC] at hs)
def qstep (F : qFn) (en : pN) (pc : Nat) (i : Instr) (x : pX) (ls : List (Nat × Value)) (st : List Value) (σ : qS) : Option (pF × qS) :=
  match p_isC i with
  | true => qstepC F pc i x ls st σ
  | false => match p_isH i with
    | true => qstepH en pc i x ls st σ
    | false => match pstepL pc i ls st with
      | some f => some (f, σ)
      | none => none
def qrun (F : qFn) (en : pN) (ret : Option FieldType) (tab : List pI) : Nat → pF → qS → Option qR
  | 0, _, _ => none
  | n + 1, f, σ => match p_find tab f.1 with
    | none => none
    | some q => match p_ret ret q.1 f.2.2 with
      | some v => some (v, σ)
      | none => match qstep F en f.1 q.1 q.2.2 f.2.1 f.2.2 σ with
        | some y => qrun F en ret tab n y.1 y.2
        | none => none
theorem qrun_prun {F : qFn} {G : pFn} {en : pN} {ret : Option FieldType} {tab : List pI} (hF : ∀ (y : Nat) (as : List Value) (σ τ : qS) (w : Option Value), F y as σ = some (w, τ) → G y as (heapOf hX σ) = some (w, heapOf hX τ)) : ∀ (n : Nat) (f : pF) (σ τ : qS) (w : Option Value), qrun F en ret tab n f σ = some (w, τ) → prun msL G en ret tab n f (heapOf hX σ) = some (w, heapOf hX τ) := by
  intro n
  induction n with
  | zero => intro f σ τ w hs; cases hs
  | succ n ih =>
    intro f σ τ w hs
    unfold qrun at hs
    unfold prun
    split at hs
    · cases hs
    · rename_i q hq
      split at hs
      · rename_i v hv
        cases hs
        rw [hq]
        dsimp only
        rw [hv]
      · rename_i hv
        rw [hq]
        dsimp only
        rw [hv]
        dsimp only
        split at hs
        · rename_i y hy
          obtain ⟨f1, σ1⟩ := y
          have h1 : pstep msL G en f.1 q.1 q.2.2 f.2.1 f.2.2 (heapOf hX σ) = some (f1, heapOf hX σ1) := by
            unfold qstep at hy
            unfold pstep
            split at hy
            · rename_i hc
              rw [hc]
              exact qC hF hy
            · rename_i hc
              rw [hc]
              dsimp only
              split at hy
              · rename_i hc2
                rw [hc2]
                exact qH hy
              · rename_i hc2
                rw [hc2]
                dsimp only
                split at hy
                · rename_i f2 hf2
                  cases hy
                  rw [hf2]
                · cases hy
          rw [h1]
          exact ih _ _ _ _ hs
        · cases hs
theorem qrun_more {F : qFn} {en : pN} {ret : Option FieldType} {tab : List pI} {r : qR} : ∀ (n k : Nat) (f : pF) (σ : qS), qrun F en ret tab n f σ = some r → qrun F en ret tab (n + k) f σ = some r := by
  intro n
  induction n with
  | zero => intro k f h hs; cases hs
  | succ n ih =>
    intro k f h hs
    rw [Nat.succ_add]
    unfold qrun at hs ⊢
    split at hs
    · cases hs
    · rename_i q hq
      split at hs
      · exact hs
      · split at hs
        · exact ih k _ _ hs
        · cases hs
theorem qrun_one {F : qFn} {en : pN} {ret : Option FieldType} {tab : List pI} {r1 r2 : qR} {n1 n2 : Nat} {f : pF} {σ : qS} (h1 : qrun F en ret tab n1 f σ = some r1) (h2 : qrun F en ret tab n2 f σ = some r2) : r1 = r2 := by
  have a1 := qrun_more n1 n2 f σ h1
  have a2 := qrun_more n2 n1 f σ h2
  rw [Nat.add_comm n2 n1, a1] at a2
  exact Option.some.inj a2
/-- what comes of a frame, if its run ends -/
noncomputable def qE (F : qFn) (en : pN) (ret : Option FieldType) (tab : List pI) (f : pF) (σ : qS) : Option qR := @dite _ (∃ q : Nat × qR, qrun F en ret tab q.1 f σ = some q.2) (Classical.propDecidable _) (fun z => some z.choose.2) (fun _ => none)
theorem qE_of {F : qFn} {en : pN} {ret : Option FieldType} {tab : List pI} {f : pF} {σ : qS} {n : Nat} {r : qR} (h : qrun F en ret tab n f σ = some r) : qE F en ret tab f σ = some r := by
  have hz : ∃ q : Nat × qR, qrun F en ret tab q.1 f σ = some q.2 := ⟨(n, r), h⟩
  unfold qE
  rw [dif_pos hz]
  exact congrArg some (qrun_one hz.choose_spec h)
theorem qE_run {F : qFn} {en : pN} {ret : Option FieldType} {tab : List pI} {f : pF} {σ : qS} {r : qR} (h : qE F en ret tab f σ = some r) : ∃ n : Nat, qrun F en ret tab n f σ = some r := by
  unfold qE at h
  split at h
  · rename_i hz
    refine ⟨hz.choose.1, ?_⟩
    rw [← Option.some.inj h]
    exact hz.choose_spec
  · cases h
/-- the methods on the system's cells, with d frames -/
noncomputable def qev (en : pN) : Nat → qFn
  | 0 => fun _ _ _ => none
  | d + 1 => fun y as σ => match msL[y]? with
    | none => none
    | some M => if (lg_sl as).length ≤ M.2.2.1 then qE (qev en d) en M.2.2.2.1 M.2.2.2.2.2.2.2.2 (0, lv_args 0 as, []) σ else none
theorem qev_pev {en : pN} : ∀ (d y : Nat) (as : List Value) (σ τ : qS) (w : Option Value), qev en d y as σ = some (w, τ) → pev msL en d y as (heapOf hX σ) = some (w, heapOf hX τ) := by
  intro d
  induction d with
  | zero => intro y as σ τ w hs; cases hs
  | succ d ih =>
    intro y as σ τ w hs
    have hs : (match msL[y]? with
      | none => none
      | some M => if (lg_sl as).length ≤ M.2.2.1 then qE (qev en d) en M.2.2.2.1 M.2.2.2.2.2.2.2.2 (0, lv_args 0 as, []) σ else none) = some (w, τ) := hs
    split at hs
    · cases hs
    · rename_i M hM
      split at hs
      · rename_i hl
        obtain ⟨n, hn⟩ := qE_run hs
        exact pev_of hM hl (qrun_prun ih n _ _ _ _ hn)
      · cases hs
/-! ONE DIRECTION: what a text says comes of a frame, comes of it. -/
/-- x is none, or what y is -/
def qle {α : Type} (x y : Option α) : Prop := ∀ r : α, x = some r → y = some r
theorem qle.rf {α : Type} {x : Option α} : qle x x := fun _ h => h
theorem qle.tr {α : Type} {x y z : Option α} (h : qle x y) (g : qle y z) : qle x z := fun r q => g r (h r q)
theorem qle.none {α : Type} {y : Option α} : qle none y := fun _ h => by cases h
def gd {α : Type} (p : Prop) [Decidable p] (x : Option α) : Option α := if p then x else none
theorem gd_pos {α : Type} {p : Prop} [Decidable p] {x : Option α} (h : p) : gd p x = x := if_pos h
theorem qle_gd {α : Type} {p : Prop} [Decidable p] {x y : Option α} (h : p → qle x y) : qle (gd p x) y := by
  intro r q
  unfold gd at q
  split at q
  · rename_i hp
    exact h hp r q
  · cases q
theorem qle_if {α : Type} {p : Prop} [Decidable p] {x x' y : Option α} (h : p → qle x y) (h' : ¬ p → qle x' y) : qle (if p then x else x') y := by
  intro r q
  split at q
  · rename_i hp
    exact h hp r q
  · rename_i hp
    exact h' hp r q
/-- what a call gave goes on: an int, a long, nothing -/
def bI {α : Type} (o : Option qR) (k : Int32 → qS → Option α) : Option α := match o with
  | some (some (.int x), σ) => k x σ
  | _ => none
def bV {α : Type} (o : Option qR) (k : qS → Option α) : Option α := match o with
  | some (none, σ) => k σ
  | _ => none
theorem bI_eq {α : Type} {o : Option qR} {k : Int32 → qS → Option α} {x : Int32} {σ : qS} (h : o = some (some (.int x), σ)) : bI o k = k x σ := by rw [h]; rfl
theorem bV_eq {α : Type} {o : Option qR} {k : qS → Option α} {σ : qS} (h : o = some (none, σ)) : bV o k = k σ := by rw [h]; rfl
theorem qle_bI {α : Type} {o : Option qR} {k : Int32 → qS → Option α} {y : Option α} (h : ∀ (x : Int32) (σ : qS), o = some (some (.int x), σ) → qle (k x σ) y) : qle (bI o k) y := by
  intro r q
  unfold bI at q
  split at q
  · rename_i x σ
    exact h x σ rfl r q
  · cases q
theorem qle_bV {α : Type} {o : Option qR} {k : qS → Option α} {y : Option α} (h : ∀ (σ : qS), o = some (none, σ) → qle (k σ) y) : qle (bV o k) y := by
  intro r q
  unfold bV at q
  split at q
  · rename_i σ
    exact h σ rfl r q
  · cases q
section QE
variable {F : qFn} {en : pN} {ret : Option FieldType} {tab : List pI}
theorem qE_step {X : Option qR} {pc : Nat} {ls : List (Nat × Value)} {st : List Value} {σ : qS} {q : Instr × Nat × pX} {y : pF × qS} (hq : p_find tab pc = some q) (hr : p_ret ret q.1 st = none) (hs : qstep F en pc q.1 q.2.2 ls st σ = some y) (k : qle X (qE F en ret tab y.1 y.2)) : qle X (qE F en ret tab (pc, ls, st) σ) := by
  refine k.tr fun r h => ?_
  obtain ⟨n, hn⟩ := qE_run h
  refine qE_of (n := n + 1) ?_
  unfold qrun
  dsimp only
  rw [hq]
  dsimp only
  rw [hr]
  dsimp only
  rw [hs]
  exact hn
theorem qE_ret {pc : Nat} {ls : List (Nat × Value)} {st : List Value} {σ : qS} {q : Instr × Nat × pX} {v : Option Value} (hq : p_find tab pc = some q) (hr : p_ret ret q.1 st = some v) : qle (some (v, σ)) (qE F en ret tab (pc, ls, st) σ) := by
  intro r h
  cases h
  refine qE_of (n := 1) ?_
  unfold qrun
  dsimp only
  rw [hq]
  dsimp only
  rw [hr]
/-- fewer locals known give no more -/
def p_sub (l l' : List (Nat × Value)) : Prop := ∀ (i : Nat) (v : Value), p_get l i = some v → p_get l' i = some v
theorem p_get_filter {f : Nat × Value → Bool} : ∀ (l : List (Nat × Value)) (i : Nat) (v : Value), p_get (l.filter f) i = some v → (∀ q : Nat × Value, q.1 = i → f q = true) → p_get l i = some v := by
  intro l
  induction l with
  | nil => intro i v h _; cases h
  | cons q r ih =>
    intro i v h hf
    by_cases hq : q.1 = i
    · rw [List.filter_cons, if_pos (hf q hq)] at h
      unfold p_get at h ⊢
      rw [if_pos hq] at h ⊢
      exact h
    · unfold p_get
      rw [if_neg hq]
      refine ih i v ?_ hf
      rw [List.filter_cons] at h
      split at h
      · unfold p_get at h
        rw [if_neg hq] at h
        exact h
      · exact h
end QE
section QSUB
variable {F : qFn} {en : pN} {ret : Option FieldType} {tab : List pI}
theorem p_get_of {l : List (Nat × Value)} {i : Nat} {v : Value} (hn : (l.map fun q => q.1).Nodup) (h : (i, v) ∈ l) : p_get l i = some v := by
  induction l with
  | nil => cases h
  | cons q r ih =>
    rw [List.map_cons, List.nodup_cons] at hn
    unfold p_get
    rcases List.mem_cons.mp h with h | h
    · rw [← h]
      exact if_pos rfl
    · rw [if_neg (fun z => hn.1 (by rw [z]; exact List.mem_map.mpr ⟨(i, v), h, rfl⟩))]
      exact ih hn.2 h
/-- all that l knows l' knows, and l' knows each place once -/
def qsub (l l' : List (Nat × Value)) : Prop := (∀ q ∈ l, q ∈ l') ∧ (l'.map fun q => q.1).Nodup
theorem qsub.get {l l' : List (Nat × Value)} {i : Nat} {v : Value} (h : qsub l l') (hg : p_get l i = some v) : p_get l' i = some v := p_get_of h.2 (h.1 _ (p_get_mem hg))
theorem qsub.cons {l l' : List (Nat × Value)} {i : Nat} {v : Value} {f : Nat × Value → Bool} (hf : ∀ q : Nat × Value, f q = true → q.1 ≠ i) (h : qsub l l') : qsub ((i, v) :: l.filter f) ((i, v) :: l'.filter f) := by
  refine ⟨fun q hq => ?_, ?_⟩
  · rcases List.mem_cons.mp hq with hq | hq
    · exact List.mem_cons.mpr (Or.inl hq)
    · have h1 := List.mem_filter.mp hq
      exact List.mem_cons.mpr (Or.inr (List.mem_filter.mpr ⟨h.1 _ h1.1, h1.2⟩))
  · rw [List.map_cons, List.nodup_cons]
    refine ⟨fun hm => ?_, List.Nodup.sublist ((List.filter_sublist).map _) h.2⟩
    obtain ⟨q, hq, he⟩ := List.mem_map.mp hm
    exact hf q (List.mem_filter.mp hq).2 he
theorem qsub.set1 {l l' : List (Nat × Value)} {i : Nat} {v : Value} (h : qsub l l') : qsub (p_set1 l i v) (p_set1 l' i v) :=
  qsub.cons (fun q hq hi => by simp [hi] at hq) h
theorem qsub.set2 {l l' : List (Nat × Value)} {i : Nat} {v : Value} (h : qsub l l') : qsub (p_set2 l i v) (p_set2 l' i v) :=
  qsub.cons (fun q hq hi => by simp [hi] at hq) h
/-- instructions that touch locals -/
def p_isV : Instr → Bool
  | .iload_n _ => true
  | .iload _ => true
  | .lload_n _ => true
  | .lload _ => true
  | .aload_n _ => true
  | .aload _ => true
  | .istore_n _ => true
  | .istore _ => true
  | .lstore_n _ => true
  | .lstore _ => true
  | .astore_n _ => true
  | .astore _ => true
  | .iinc _ _ => true
  | _ => false
theorem pstepA_frame {pc : Nat} {i : Instr} {l l' : List (Nat × Value)} {st : List Value} {f : pF} (hs : pstepA pc i l st = some f) : f.2.1 = l ∧ pstepA pc i l' st = some (f.1, l', f.2.2) := by
  unfold pstepA at hs ⊢
  (repeat' split at hs) <;> first
    | (cases hs; exact ⟨rfl, rfl⟩)
    | (cases hs; done)
    | (cases hs; simp_all; done)
theorem pstepL_frame {pc : Nat} {i : Instr} {l l' : List (Nat × Value)} {st : List Value} {f : pF} (hi : p_isV i = false) (hs : pstepL pc i l st = some f) : f.2.1 = l ∧ pstepL pc i l' st = some (f.1, l', f.2.2) := by
  cases i
  all_goals first
    | (simp [p_isV] at hi; done)
    | (simp only [pstepL] at hs ⊢; exact pstepA_frame hs)
    | (simp only [pstepL] at hs ⊢; (repeat' split at hs) <;> first | (cases hs; exact ⟨rfl, rfl⟩) | (cases hs; done))
theorem pstepL_sub {pc : Nat} {i : Instr} {l l' : List (Nat × Value)} {st : List Value} {f : pF} (h : qsub l l') (hs : pstepL pc i l st = some f) : ∃ l1 : List (Nat × Value), qsub f.2.1 l1 ∧ pstepL pc i l' st = some (f.1, l1, f.2.2) := by
  by_cases hi : p_isV i = false
  · obtain ⟨h1, h2⟩ := pstepL_frame (l' := l') hi hs
    exact ⟨l', by rw [h1]; exact h, h2⟩
  · cases i
    all_goals first
      | exact absurd rfl hi
      | skip
    case iload_n n =>
      simp only [pstepL] at hs ⊢
      split at hs
      · rename_i x hg
        cases hs
        exact ⟨l', h, by rw [h.get hg]⟩
      · cases hs
    case iload n =>
      simp only [pstepL] at hs ⊢
      split at hs
      · rename_i x hg
        cases hs
        exact ⟨l', h, by rw [h.get hg]⟩
      · cases hs
    case lload_n n =>
      simp only [pstepL] at hs ⊢
      split at hs
      · rename_i x hg
        cases hs
        exact ⟨l', h, by rw [h.get hg]⟩
      · cases hs
    case lload n =>
      simp only [pstepL] at hs ⊢
      split at hs
      · rename_i x hg
        cases hs
        exact ⟨l', h, by rw [h.get hg]⟩
      · cases hs
    case aload_n n =>
      simp only [pstepL] at hs ⊢
      split at hs
      · rename_i x hg
        cases hs
        exact ⟨l', h, by rw [h.get hg]⟩
      · rename_i x hg
        cases hs
        exact ⟨l', h, by rw [h.get hg]⟩
      · cases hs
    case aload n =>
      simp only [pstepL] at hs ⊢
      split at hs
      · rename_i x hg
        cases hs
        exact ⟨l', h, by rw [h.get hg]⟩
      · rename_i x hg
        cases hs
        exact ⟨l', h, by rw [h.get hg]⟩
      · cases hs
    case iinc n k =>
      simp only [pstepL] at hs ⊢
      split at hs
      · rename_i x hg
        cases hs
        exact ⟨_, h.set1, by rw [h.get hg]⟩
      · cases hs
    case istore_n n =>
      simp only [pstepL] at hs ⊢
      split at hs
      · cases hs; exact ⟨_, h.set1, rfl⟩
      · cases hs
    case istore n =>
      simp only [pstepL] at hs ⊢
      split at hs
      · cases hs; exact ⟨_, h.set1, rfl⟩
      · cases hs
    case lstore_n n =>
      simp only [pstepL] at hs ⊢
      split at hs
      · cases hs; exact ⟨_, h.set2, rfl⟩
      · cases hs
    case lstore n =>
      simp only [pstepL] at hs ⊢
      split at hs
      · cases hs; exact ⟨_, h.set2, rfl⟩
      · cases hs
    case astore_n n =>
      simp only [pstepL] at hs ⊢
      split at hs
      · cases hs; exact ⟨_, h.set1, rfl⟩
      · cases hs; exact ⟨_, h.set1, rfl⟩
      · cases hs
    case astore n =>
      simp only [pstepL] at hs ⊢
      split at hs
      · cases hs; exact ⟨_, h.set1, rfl⟩
      · cases hs; exact ⟨_, h.set1, rfl⟩
      · cases hs
theorem qstepH_frame {pc : Nat} {i : Instr} {x : pX} {l l' : List (Nat × Value)} {st : List Value} {σ : qS} {y : pF × qS} (hs : qstepH en pc i x l st σ = some y) : y.1.2.1 = l ∧ qstepH en pc i x l' st σ = some ((y.1.1, l', y.1.2.2), y.2) := by
  cases i
  all_goals first
    | (simp [qstepH] at hs; done)
    | (simp only [qstepH] at hs ⊢; (repeat' split at hs) <;> first | (cases hs; refine ⟨rfl, ?_⟩; simp_all; done) | (cases hs; done))
theorem qstepC_frame {pc : Nat} {i : Instr} {x : pX} {l l' : List (Nat × Value)} {st : List Value} {σ : qS} {y : pF × qS} (hs : qstepC F pc i x l st σ = some y) : y.1.2.1 = l ∧ qstepC F pc i x l' st σ = some ((y.1.1, l', y.1.2.2), y.2) := by
  cases i
  all_goals first
    | (simp [qstepC] at hs; done)
    | (simp only [qstepC] at hs ⊢; (repeat' split at hs) <;> first | (cases hs; refine ⟨rfl, ?_⟩; simp_all; done) | (cases hs; done))
theorem qrun_sub : ∀ (n pc : Nat) (l l' : List (Nat × Value)) (st : List Value) (σ : qS) (r : qR), qsub l l' → qrun F en ret tab n (pc, l, st) σ = some r → qrun F en ret tab n (pc, l', st) σ = some r := by
  intro n
  induction n with
  | zero => intro pc l l' st σ r h hs; cases hs
  | succ n ih =>
    intro pc l l' st σ r h hs
    unfold qrun at hs ⊢
    dsimp only at hs ⊢
    split at hs
    · cases hs
    · rename_i q hq
      split at hs
      · rename_i v hv
        exact hs
      · rename_i hv
        split at hs
        · rename_i y hy
          obtain ⟨⟨pc1, l1, st1⟩, σ1⟩ := y
          have key : ∃ l2 : List (Nat × Value), qsub l1 l2 ∧ qstep F en pc q.1 q.2.2 l' st σ = some ((pc1, l2, st1), σ1) := by
            unfold qstep at hy ⊢
            split at hy
            · rename_i hc
              obtain ⟨h1, h2⟩ := qstepC_frame (l' := l') hy
              dsimp only at h1
              rw [h1]
              exact ⟨l', h, h2⟩
            · split at hy
              · obtain ⟨h1, h2⟩ := qstepH_frame (l' := l') hy
                dsimp only at h1
                rw [h1]
                exact ⟨l', h, h2⟩
              · split at hy
                · rename_i f1 hf1
                  cases hy
                  obtain ⟨l2, h1, h2⟩ := pstepL_sub h hf1
                  rw [h2]
                  exact ⟨l2, h1, rfl⟩
                · cases hy
          obtain ⟨l2, h1, h2⟩ := key
          rw [h2]
          exact ih _ _ _ _ _ _ h1 hs
        · cases hs
theorem qE_sub {pc : Nat} {l l' : List (Nat × Value)} {st : List Value} {σ : qS} (h : qsub l l') : qle (qE F en ret tab (pc, l, st) σ) (qE F en ret tab (pc, l', st) σ) := by
  intro r hr
  obtain ⟨n, hn⟩ := qE_run hr
  exact qE_of (qrun_sub n _ _ _ _ _ _ h hn)
/-- the places in l' of what l knows -/
theorem qsubL {l l' : List (Nat × Value)} {ks : List Nat} (is : List Nat) (h : is.filterMap (fun i => l'[i]?) = l) (hk : (l'.map fun q => q.1) = ks) (hn : ks.Nodup) : qsub l l' := by
  refine ⟨fun q hq => ?_, by rw [hk]; exact hn⟩
  rw [← h] at hq
  obtain ⟨i, -, hi⟩ := List.mem_filterMap.mp hq
  exact List.mem_of_getElem? hi
end QSUB
