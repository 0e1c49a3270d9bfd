/-! ALL METHODS AT ONCE: pev ms en d y as h: what method y of the list gives, with d frames. -/
theorem prun_more {ms : List pM} {F : pFn} {en : pN} {ret : Option FieldType} {tab : List pI} {r : pR} : ∀ (n k : Nat) (f : pF) (h : pH), prun ms F en ret tab n f h = some r → prun ms F en ret tab (n + k) f h = some r := by
  intro n
  induction n with
  | zero => intro k f h hs; cases hs
  | succ n ih =>
    intro k f h hs
    rw [Nat.succ_add]
    unfold prun at hs ⊢
    split at hs
    · cases hs
    · rename_i q hq
      split at hs
      · exact hs
      · split at hs
        · exact ih k _ _ hs
        · cases hs
theorem prun_one {ms : List pM} {F : pFn} {en : pN} {ret : Option FieldType} {tab : List pI} {r1 r2 : pR} {n1 n2 : Nat} {f : pF} {h : pH} (h1 : prun ms F en ret tab n1 f h = some r1) (h2 : prun ms F en ret tab n2 f h = some r2) : r1 = r2 := by
  have a1 := prun_more n1 n2 f h h1
  have a2 := prun_more n2 n1 f h h2
  rw [Nat.add_comm n2 n1, a1] at a2
  exact Option.some.inj a2
noncomputable def pev (ms : List pM) (en : pN) : Nat → pFn
  | 0 => fun _ _ _ => none
  | d + 1 => fun y as h => match ms[y]? with
    | none => none
    | some M => @dite _ ((lg_sl as).length ≤ M.2.2.1 ∧ ∃ q : Nat × pR, prun ms (pev ms en d) en M.2.2.2.1 M.2.2.2.2.2.2.2.2 q.1 (0, lv_args 0 as, []) h = some q.2) (Classical.propDecidable _) (fun z => some z.2.choose.2) (fun _ => none)
theorem pev_of {ms : List pM} {en : pN} {d y n : Nat} {as : List Value} {h : pH} {M : pM} {r : pR} (hM : ms[y]? = some M) (hlen : (lg_sl as).length ≤ M.2.2.1) (hs : prun ms (pev ms en d) en M.2.2.2.1 M.2.2.2.2.2.2.2.2 n (0, lv_args 0 as, []) h = some r) : pev ms en (d + 1) y as h = some r := by
  have hz : (lg_sl as).length ≤ M.2.2.1 ∧ ∃ q : Nat × pR, prun ms (pev ms en d) en M.2.2.2.1 M.2.2.2.2.2.2.2.2 q.1 (0, lv_args 0 as, []) h = some q.2 := ⟨hlen, (n, r), hs⟩
  show (match ms[y]? with
    | none => none
    | some M => @dite _ ((lg_sl as).length ≤ M.2.2.1 ∧ ∃ q : Nat × pR, prun ms (pev ms en d) en M.2.2.2.1 M.2.2.2.2.2.2.2.2 q.1 (0, lv_args 0 as, []) h = some q.2) (Classical.propDecidable _) (fun z => some z.2.choose.2) (fun _ => none)) = some r
  rw [hM]
  dsimp only
  rw [dif_pos hz]
  exact congrArg some (prun_one hz.2.choose_spec hs)
theorem sF_pev {l : Launch} {D : va_G} {cA : Nat → ClassId} {en : pN} {b : Nat} {o : Nat → Nat} {ms : List pM} (hms : ∀ M ∈ ms, mOK ms M = true) : ∀ d : Nat, sF l D cA b o en ms d (pev ms en d) := by
  intro d
  induction d with
  | zero => intro y as h r h' hs; cases hs
  | succ d ih =>
    intro y as h r h' hs
    have hs : (match ms[y]? with
      | none => none
      | some M => @dite _ ((lg_sl as).length ≤ M.2.2.1 ∧ ∃ q : Nat × pR, prun ms (pev ms en d) en M.2.2.2.1 M.2.2.2.2.2.2.2.2 q.1 (0, lv_args 0 as, []) h = some q.2) (Classical.propDecidable _) (fun z => some z.2.choose.2) (fun _ => none)) = some (r, h') := hs
    split at hs
    · cases hs
    · rename_i M hM
      split at hs
      · rename_i hz
        have h1 := hz.2.choose_spec
        rw [Option.some.inj hs] at h1
        have h2 := met_of (l := l) (D := D) (cA := cA) (b := b) (o := o) ih hms (hms M (List.mem_of_getElem? hM)) hz.1 h1
        refine ⟨h2.1, fun M' hM' => ?_⟩
        cases hM.symm.trans hM'
        exact h2.2
      · cases hs
