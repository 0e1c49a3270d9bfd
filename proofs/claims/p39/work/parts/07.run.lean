/-! Calls, runs, methods: what the small machine does, the machine does. -/
section SIMR
variable {p : Program} {l : Launch} {e : Env} {R : Room} {s : State} {m : MethodId} {args : Array Value} {below : List Frame} {meth : Method} {c : Code} {H : Heap} {locs : List Loc} {cells slots : Nat} {Q : State → Prop} {cc : ByteArray}
variable {D : va_G} {cA : Nat → ClassId} {en : pN} {b : Nat} {o : Nat → Nat} {ms : List pM}
theorem gT_oi1 : Cond.instanceMethod Lib.objectInit ∈ gT := gT_place (i := 119) (by decide +kernel) (by decide +kernel)
theorem gT_oi2 : Cond.code Lib.objectInit ⟨#[0xb1]⟩ 1 none ∈ gT := gT_place (i := 120) (by decide +kernel) (by decide +kernel)
theorem rS_len (b : Nat) (o : Nat → Nat) (st : List Value) : (rS b o st).length = st.length := List.length_map _
theorem sC {own : String} {d nL pc len : Nat} {F : pFn} {i : Instr} {x : pX} {ls ls' : List (Nat × Value)} {st st' : List Value} {h h' : pH} {pc' : Nat} {LS : Array Slot} {c0 n0 : Nat}
    (hF : sF l D cA b o en ms d F) (hms : ∀ M ∈ ms, mOK ms M = true) (hfr : d + 2 ≤ R.frames) (hlo : 40 * (d + 1) + 40 ≤ R.locals)
    (hx : p.tables.exec = Jvm.exec) (hb : c.code = cc) (hml : c.maxLocals = nL) (hts : ∀ w ∈ gT, w.before args s = true) (hown : s.vm.findClass own = some m.cls) (hK : va_K D vwCl (tysL cA) s) (hE : sEnv en b o s s.heap)
    (hR : sRep D cA b o h H) (hS : va_S (fun q => b ≤ q) s.heap H locs) (hdg : decode cc pc = .ok (i, len)) (hok : p_ok nL pc i len = true) (hlk : lnkC ms own i x = true) (hl : lv_has LS nL (rL b o ls)) (hs : pstepC ms F pc i x ls st h = some ((pc', ls', st'), h'))
    (hc0 : c0 ≤ h.1) (hn0 : n0 ≤ h.2.1) (hcR : h'.1 - c0 ≤ R.cells) (hnR : h'.2.1 - n0 ≤ R.slots)
    (k : ∀ (H1 : Heap) (locs1 : List Loc), sRep D cA b o h' H1 → va_S (fun q => b ≤ q) s.heap H1 locs1 → lv_has LS nL (rL b o ls') → W p l e R s m args below meth c H1 locs1 (h'.1 - c0) (h'.2.1 - n0) Q (F0 m pc' LS (rS b o st'))) : W p l e R s m args below meth c H locs (h.1 - c0) (h.2.1 - n0) Q (F0 m pc LS (rS b o st)) := by
  have fin : ∀ {mc ns : Nat} {st0 r0 : List Value} {a : Array Value} {w : Option Value}, h.1 ≤ h'.1 ∧ h.2.1 ≤ h'.2.1 → mc = h'.1 - h.1 → ns = h'.2.1 - h.2.1 → va_Run p l e R s m args below meth c H locs (h.1 - c0) (h.2.1 - n0) mc ns (F0 m pc LS st0) (rS b o r0) (sPost D cA b o w h' a) (fun q => b ≤ q) → (pc', ls', st') = (pc + 3, ls, w.toList ++ r0) → W p l e R s m args below meth c H locs (h.1 - c0) (h.2.1 - n0) Q (F0 m pc LS st0) := by
    intro mc ns st0 r0 a w hm e1 e2 hr e3
    cases e3
    subst e1; subst e2
    refine s_call hr hS (fun H1 locs1 a1 a2 => ?_)
    rw [rV_toList]
    have q1 : h.1 - c0 + (h'.1 - h.1) = h'.1 - c0 := by omega
    have q2 : h.2.1 - n0 + (h'.2.1 - h.2.1) = h'.2.1 - n0 := by omega
    exact W.cs q1 q2 (k H1 locs1 a1 a2 hl)
  cases i
  case invokevirtual idx =>
    obtain rfl : len = 3 := of_decide_eq_true hok
    simp only [pstepC] at hs
    split at hs
    · rename_i M hM
      split at hs
      · rename_i as v r ha
        split at hs
        · rename_i hg
          split at hs
          · rename_i w h1 hw
            simp only [Option.some.injEq, Prod.mk.injEq] at hs
            obtain ⟨⟨rfl, rfl, rfl⟩, rfl⟩ := hs
            obtain ⟨hmono, hMet⟩ := hF _ _ _ _ _ hw
            have hmet := hMet M hM
            obtain ⟨-, gcode, gplain, gd, gl, gini, gst, ginst, gsel, ginit, -⟩ := mOK_spec (hms M (List.mem_of_getElem? hM))
            simp only [lnkC, hM] at hlk
            obtain ⟨l1, l2⟩ := (Bool.and_eq_true _ _).mp hlk
            have l1 := of_decide_eq_true l1
            obtain ⟨e1, e2⟩ := p_args_spec ha
            subst e1
            obtain ⟨s1, s2⟩ := gsel l1
            have hgood : GoodIn gT (wsV own idx M.1.cls M.1 (wsM M)) := gT_good (by
              intro w hw
              simp only [wsV, List.mem_append, List.mem_cons, List.not_mem_nil, or_false] at hw
              rcases hw with (rfl | rfl | rfl | rfl) | hw
              · exact wd_in l2
              · exact ginst (by rw [l1]; decide)
              · exact s1
              · exact gini
              · exact ws_good gcode w hw)
            have cw : CallW R s args own M.1.cls idx M.1 M.2.1 M.2.2.1 M.2.2.2.1 (wsM M) (rmd d (h1.1 - h.1) (h1.2.1 - h.2.1)) (h1.1 - h.1) (h1.2.1 - h.2.1) M.2.2.2.2.1 :=
              cwV M.2.2.2.2.1 hts hgood rfl rfl rfl ⟨rfl, gd⟩ ⟨hfr, by show 8 + (M.2.2.1 + 11) + 40 * (d + 1) ≤ R.locals; omega⟩
            have hf : h.1 - c0 + (h1.1 - h.1) ≤ R.cells ∧ h.2.1 - n0 + (h1.2.1 - h.2.1) ≤ R.slots := ⟨by omega, by omega⟩
            have hroom : ((rS b o r).map fun v => v.category).sum ≤ 8 := by rw [rS_cats]; exact hg.2
            have hst : rS b o (as.reverse ++ v :: r) = (rS b o as).reverse ++ rV b o v :: rS b o r := by rw [rS_app, rS_rev]; rfl
            rw [hst]
            have hn : (rS b o as).length = M.2.2.2.2.1 := by rw [rS_len, e2]
            have hrv := hg.1
            cases v with
            | ref a =>
              simp only [p_recv, Bool.and_eq_true] at hrv
              obtain ⟨r1, r2⟩ := hrv
              have r1 := of_decide_eq_true r1
              split at r2
              · rename_i cj fs he
                have r2 := of_decide_eq_true r2
                rw [r2] at he
                have hcl : ∃ cell : Cell, H[b + a]? = some cell ∧ cell.vm.isStatics = false ∧ s.vm.findClass M.1.cls = some cell.cls := by
                  have hat := hR.2 a r1
                  rw [he] at hat
                  obtain ⟨r', g1, cell, q1, q2, q3, -⟩ := hat
                  rcases s2 with ⟨r0, z1, z2⟩ | ⟨z1, -⟩
                  · refine ⟨cell, q1, by rw [q3]; rfl, ?_⟩
                    rw [← z2, q2]
                    exact (hK.1 _ _ z1).2.1
                  · dsimp only at g1
                    rw [z1] at g1
                    simp [vwCl] at g1
                exact fin hmono rfl rfl (va_runV (As := rS b o as) (rest := rS b o r) ⟨hx, hb, hml, hown, hts⟩ hmet cw ⟨sPre_blind, hcl, s_preS hR hS hK hE⟩ rfl hn hl.1 rfl (lv_room hroom) hdg hf) rfl
              · cases r2
            | retAddr q =>
              simp only [p_recv, Bool.and_eq_true] at hrv
              obtain ⟨r1, r2⟩ := hrv
              have r1 := of_decide_eq_true r1
              have r2 := of_decide_eq_true r2
              have hcl : ∃ cell : Cell, H[o q]? = some cell ∧ cell.vm.isStatics = false ∧ s.vm.findClass M.1.cls = some cell.cls := by
                obtain ⟨j, rfl, hj⟩ : ∃ j, q = j + 1 ∧ j < 3 := ⟨q - 1, by omega, by omega⟩
                obtain ⟨cell, z1, z2, z3, -⟩ := (hE.2.1 j hj).1.kept hS.2.1
                refine ⟨cell, z1, z2, ?_⟩
                rcases s2 with ⟨r0, y1, y2⟩ | ⟨-, y2⟩
                · rw [r2] at y1
                  simp [vwCl] at y1
                · rw [y2]
                  exact z3
              exact fin hmono rfl rfl (va_runV (As := rS b o as) (rest := rS b o r) ⟨hx, hb, hml, hown, hts⟩ hmet cw ⟨sPre_blind, hcl, s_preS hR hS hK hE⟩ rfl hn hl.1 rfl (lv_room hroom) hdg hf) rfl
            | _ => simp [p_recv] at hrv
          · cases hs
        · cases hs
      · cases hs
    · cases hs
  case invokestatic idx =>
    obtain rfl : len = 3 := of_decide_eq_true hok
    simp only [pstepC] at hs
    split at hs
    · rename_i hx1
      simp only [lnkC, if_pos hx1] at hlk
      split at hs
      · rename_i y hy
        simp only [Option.some.injEq, Prod.mk.injEq] at hs
        obtain ⟨⟨rfl, rfl, rfl⟩, rfl⟩ := hs
        obtain ⟨r, h1⟩ := y
        refine s_copy hx hb (by rw [hml]; exact hl.1.symm) hts hown (hts _ (wd_in hlk)) hK hR hS (by omega) (by omega) hdg hy (fun H1 locs1 z0 z1 z2 => ?_)
        have k3 := k H1 locs1 z1 z2 hl
        dsimp only at k3
        rw [z0.1, z0.2] at k3
        exact k3
      · cases hs
    · rename_i hx1
      split at hs
      · rename_i M hM
        split at hs
        · rename_i as r ha
          split at hs
          · rename_i hg
            split at hs
            · rename_i w h1 hw
              simp only [Option.some.injEq, Prod.mk.injEq] at hs
              obtain ⟨⟨rfl, rfl, rfl⟩, rfl⟩ := hs
              obtain ⟨hmono, hMet⟩ := hF _ _ _ _ _ hw
              have hmet := hMet M hM
              obtain ⟨-, gcode, gplain, gd, gl, gini, gst, ginst, gsel, ginit, -⟩ := mOK_spec (hms M (List.mem_of_getElem? hM))
              simp only [lnkC, if_neg hx1, hM] at hlk
              obtain ⟨l1, l2⟩ := (Bool.and_eq_true _ _).mp hlk
              have l1 := of_decide_eq_true l1
              obtain ⟨e1, e2⟩ := p_args_spec ha
              subst e1
              have hgood : GoodIn gT (va_wsS own idx M.1 (wsM M)) := gT_good (by
                intro w hw
                simp only [va_wsS, List.mem_append, List.mem_cons, List.not_mem_nil, or_false] at hw
                rcases hw with (rfl | rfl | rfl) | hw
                · exact wd_in l2
                · exact gst l1
                · exact gini
                · exact ws_good gcode w hw)
              have cw := va_cwS (R := R) (s := s) (args := args) (own := own) (index := idx) (y := M.1) (bytes := M.2.1) (maxL := M.2.2.1) (mc := h1.1 - h.1) (ms := h1.2.1 - h.2.1) (ret := M.2.2.2.1) (ws := wsM M) (rm := rmd d (h1.1 - h.1) (h1.2.1 - h.2.1)) M.2.2.2.2.1 hts hgood rfl rfl rfl gd ⟨hfr, by show 8 + (M.2.2.1 + 11) + 40 * (d + 1) ≤ R.locals; omega⟩
              have hf : h.1 - c0 + (h1.1 - h.1) ≤ R.cells ∧ h.2.1 - n0 + (h1.2.1 - h.2.1) ≤ R.slots := ⟨by omega, by omega⟩
              have hroom : ((rS b o r).map fun v => v.category).sum ≤ 8 := by rw [rS_cats]; exact hg
              have hst : rS b o (as.reverse ++ r) = (rS b o as).reverse ++ rS b o r := by rw [rS_app, rS_rev]
              rw [hst]
              have hn : (rS b o as).length = M.2.2.2.2.1 := by rw [rS_len, e2]
              exact fin hmono rfl rfl (va_runS (As := rS b o as) (rest := rS b o r) ⟨hx, hb, hml, hown, hts⟩ hmet cw ⟨sPre_blind, s_preS hR hS hK hE⟩ rfl hn hl.1 rfl (lv_room hroom) hdg hf) rfl
            · cases hs
          · cases hs
        · cases hs
      · cases hs
  case invokespecial idx =>
    obtain rfl : len = 3 := of_decide_eq_true hok
    simp only [pstepC] at hs
    split at hs
    · rename_i hx1
      simp only [lnkC, if_pos hx1] at hlk
      split at hs
      · rename_i a r
        split at hs
        · rename_i hg
          simp only [Option.some.injEq, Prod.mk.injEq] at hs
          obtain ⟨⟨rfl, rfl, rfl⟩, rfl⟩ := hs
          have hroom : ((rS b o r).map fun v => v.category).sum ≤ 8 := by rw [rS_cats]; exact hg
          refine W.objInit (a := b + a) (rest := rS b o r) hx hb hown (hts _ (wd_in hlk)) (hts _ gT_oi1) (hts _ gT_oi2) rfl (by rw [hml]; exact hl.1) rfl hdg (by omega) (by show 2 * 0 + _ + 12 ≤ R.locals; omega) ?_
          exact W.eq (g2 := F0 m (pc + 3) LS (rS b o r)) rfl (k H locs hR hS hl)
        · cases hs
      · cases hs
    · rename_i hx1
      simp only [lnkC, if_neg hx1] at hlk
      split at hs
      · rename_i M hM
        simp only [hM] at hlk
        split at hs
        · rename_i as a r ha
          split at hs
          · rename_i hg
            split at hs
            · rename_i w h1 hw
              simp only [Option.some.injEq, Prod.mk.injEq] at hs
              obtain ⟨⟨rfl, rfl, rfl⟩, rfl⟩ := hs
              obtain ⟨hmono, hMet⟩ := hF _ _ _ _ _ hw
              have hmet := hMet M hM
              obtain ⟨-, gcode, gplain, gd, gl, gini, gst, ginst, gsel, ginit, -⟩ := mOK_spec (hms M (List.mem_of_getElem? hM))
              obtain ⟨l1, l2⟩ := (Bool.and_eq_true _ _).mp hlk
              have l1 := of_decide_eq_true l1
              obtain ⟨i1, i2⟩ := ginit l1
              obtain ⟨e1, e2⟩ := p_args_spec ha
              subst e1
              have hw0 : wsM M = Cond.code M.1 M.2.1 M.2.2.1 none :: gT := by unfold wsM; rw [i2]
              have hf : h.1 - c0 + (h1.1 - h.1) ≤ R.cells ∧ h.2.1 - n0 + (h1.2.1 - h.2.1) ≤ R.slots := ⟨by omega, by omega⟩
              have hroom : ((rS b o r).map fun v => v.category).sum ≤ 8 := by rw [rS_cats]; exact hg
              have hst : rS b o (as.reverse ++ .ref a :: r) = (rS b o as).reverse ++ .ref (b + a) :: rS b o r := by rw [rS_app, rS_rev]; rfl
              rw [hst]
              have hn : (rS b o as).length = M.2.2.2.2.1 := by rw [rS_len, e2]
              split at l2
              · have cw := cwI (R := R) (s := s) (args := args) (own := own) (index := idx) (y := M.1) (bytes := M.2.1) (maxL := M.2.2.1) (mc := h1.1 - h.1) (ms := h1.2.1 - h.2.1) (ws := wsM M) (rm := rmd d (h1.1 - h.1) (h1.2.1 - h.2.1)) M.2.2.2.2.1 hts (gT_good (ws_good gcode)) hw0 rfl rfl (hts _ gini) (hts _ (wd_in l2)) (hts _ (ginst (by rw [l1]; decide))) i1 gd ⟨hfr, by show 8 + (M.2.2.1 + 11) + 40 * (d + 1) ≤ R.locals; omega⟩
                exact fin hmono rfl rfl (va_runI (As := rS b o as) (rest := rS b o r) ⟨hx, hb, hml, hown, hts⟩ hmet cw ⟨sPre_blind, s_preS hR hS hK hE⟩ rfl hn hl.1 rfl (lv_room hroom) hdg hf) rfl
              · have hne := hE.2.2.2.1 _ (List.mem_of_getElem? (of_decide_eq_true l2))
                have cw := va_cnB (R := R) (s := s) (args := args) (own := own) (host := "TurnHouse") (index := idx) (y := M.1) (bytes := M.2.1) (maxL := M.2.2.1) (mc := h1.1 - h.1) (ms := h1.2.1 - h.2.1) (ret := none) (ws := wsM M) (rm := rmd d (h1.1 - h.1) (h1.2.1 - h.2.1)) M.2.2.2.2.1 hts (gT_good (ws_good gcode)) hw0 rfl rfl hne (hts _ gini) gd ⟨hfr, by show 8 + (M.2.2.1 + 11) + 40 * (d + 1) ≤ R.locals; omega⟩
                exact fin hmono rfl rfl (va_runIN (As := rS b o as) (rest := rS b o r) ⟨hx, hb, hml, hown, hts⟩ hmet ⟨cw, i1, hts _ (ginst (by rw [l1]; decide))⟩ ⟨sPre_blind, s_preS hR hS hK hE⟩ rfl hn hl.1 rfl (lv_room hroom) hdg hf) rfl
            · cases hs
          · cases hs
        · cases hs
      · cases hs
  all_goals (simp [pstepC] at hs)
theorem pstepC_mono {d : Nat} {F : pFn} {pc : Nat} {i : Instr} {x : pX} {ls : List (Nat × Value)} {st : List Value} {h h' : pH} {f' : pF} (hF : sF l D cA b o en ms d F) (hs : pstepC ms F pc i x ls st h = some (f', h')) : h.1 ≤ h'.1 ∧ h.2.1 ≤ h'.2.1 := by
  have key : ∀ {y : pF × pH}, some y = some (f', h') → (h.1 ≤ y.2.1 ∧ h.2.1 ≤ y.2.2.1) → h.1 ≤ h'.1 ∧ h.2.1 ≤ h'.2.1 := by
    intro y hy hz
    cases hy
    exact hz
  unfold pstepC at hs
  repeat' split at hs
  all_goals first
    | (rename_i hw; exact key hs (p_copy_mono hw))
    | (rename_i hw; exact key hs (hF _ _ _ _ _ hw).1)
    | exact key hs ⟨Nat.le_refl _, Nat.le_refl _⟩
    | cases hs
theorem pstep_mono {d : Nat} {F : pFn} {pc : Nat} {i : Instr} {x : pX} {ls : List (Nat × Value)} {st : List Value} {h : pH} {y : pF × pH} (hF : sF l D cA b o en ms d F) (hs : pstep ms F en pc i x ls st h = some y) : h.1 ≤ y.2.1 ∧ h.2.1 ≤ y.2.2.1 := by
  unfold pstep at hs
  split at hs
  · exact pstepC_mono hF hs
  · split at hs
    · exact pstepH_mono hs
    · split at hs
      · cases hs
        exact ⟨Nat.le_refl _, Nat.le_refl _⟩
      · cases hs
theorem prun_mono {d : Nat} {F : pFn} {ret : Option FieldType} {tab : List pI} {r : Option Value} {h' : pH} (hF : sF l D cA b o en ms d F) : ∀ (n : Nat) (f : pF) (h : pH), prun ms F en ret tab n f h = some (r, h') → h.1 ≤ h'.1 ∧ h.2.1 ≤ h'.2.1 := by
  intro n
  induction n with
  | zero => intro f h hs; cases hs
  | succ n ih =>
    intro f h hs
    unfold prun at hs
    split at hs
    · cases hs
    · split at hs
      · cases hs
        exact ⟨Nat.le_refl _, Nat.le_refl _⟩
      · split at hs
        · rename_i y hy
          have h1 := pstep_mono hF hy
          have h2 := ih _ _ hs
          exact ⟨Nat.le_trans h1.1 h2.1, Nat.le_trans h1.2 h2.2⟩
        · cases hs
theorem s_runG {own : String} {init : Bool} {nL : Nat} {ret : Option FieldType} {tab : List pI} {d c0 n0 : Nat} {F : pFn} {r : Option Value} {h' : pH} (hF : sF l D cA b o en ms d F) (hms : ∀ M ∈ ms, mOK ms M = true) (hfr : d + 2 ≤ R.frames) (hlo : 40 * (d + 1) + 40 ≤ R.locals)
    (hx : p.tables.exec = Jvm.exec) (hb : c.code = cc) (hml : c.maxLocals = nL) (hts : ∀ w ∈ gT, w.before args s = true) (hown : s.vm.findClass own = some m.cls) (hK : va_K D vwCl (tysL cA) s) (hE : sEnv en b o s s.heap) (hinit : init = true → meth.name = "<init>")
    (gtab : ∀ q ∈ tab, decode cc q.1 = .ok (q.2.1, q.2.2.1) ∧ p_ok nL q.1 q.2.1 q.2.2.1 = true ∧ lnk own init q.2.1 q.2.2.2 = true ∧ lnkC ms own q.2.1 q.2.2.2 = true)
    (hcR : h'.1 - c0 ≤ R.cells) (hnR : h'.2.1 - n0 ≤ R.slots)
    (fin : ∀ (pc len : Nat) (i : Instr) (st : List Value) (H : Heap) (locs : List Loc) (LS : Array Slot), decode cc pc = .ok (i, len) → p_ok nL pc i len = true → p_ret ret i st = some r → sRep D cA b o h' H → va_S (fun q => b ≤ q) s.heap H locs → W p l e R s m args below meth c H locs (h'.1 - c0) (h'.2.1 - n0) Q (F0 m pc LS (rS b o st))) :
    ∀ (n : Nat) (f : pF) (h : pH) (H : Heap) (locs : List Loc) (LS : Array Slot), prun ms F en ret tab n f h = some (r, h') → c0 ≤ h.1 → n0 ≤ h.2.1 → sRep D cA b o h H → va_S (fun q => b ≤ q) s.heap H locs → lv_has LS nL (rL b o f.2.1) →
      W p l e R s m args below meth c H locs (h.1 - c0) (h.2.1 - n0) Q (F0 m f.1 LS (rS b o f.2.2)) := by
  intro n
  induction n with
  | zero => intro f h H locs LS hs; cases hs
  | succ n ih =>
    intro f h H locs LS hs hc0 hn0 hR hS hl
    unfold prun at hs
    split at hs
    · cases hs
    · rename_i q hq
      obtain ⟨hdg, hok, hlk, hlkC⟩ := gtab _ (p_find_mem hq)
      dsimp only at hdg hok hlk hlkC
      split at hs
      · rename_i v hv
        simp only [Option.some.injEq, Prod.mk.injEq] at hs
        obtain ⟨rfl, rfl⟩ := hs
        exact fin _ _ _ _ H locs LS hdg hok hv hR hS
      · split at hs
        · rename_i y hy
          have hm1 := pstep_mono hF hy
          have hm2 := prun_mono hF _ _ _ hs
          obtain ⟨pc, ls, st⟩ := f
          obtain ⟨i, len, x⟩ := q
          obtain ⟨⟨pc', ls', st'⟩, h1⟩ := y
          dsimp only at hdg hok hlk hlkC hy hl hs hm1 hm2 ⊢
          have go : ∀ (H1 : Heap) (locs1 : List Loc) (LS1 : Array Slot), sRep D cA b o h1 H1 → va_S (fun q => b ≤ q) s.heap H1 locs1 → lv_has LS1 nL (rL b o ls') → W p l e R s m args below meth c H1 locs1 (h1.1 - c0) (h1.2.1 - n0) Q (F0 m pc' LS1 (rS b o st')) :=
            fun H1 locs1 LS1 a1 a2 a3 => ih (pc', ls', st') h1 H1 locs1 LS1 hs (Nat.le_trans hc0 hm1.1) (Nat.le_trans hn0 hm1.2) a1 a2 a3
          unfold pstep at hy
          split at hy
          · exact sC hF hms hfr hlo hx hb hml hts hown hK hE hR hS hdg hok hlkC hl hy hc0 hn0 (by omega) (by omega) (fun H1 locs1 a1 a2 a3 => go H1 locs1 LS a1 a2 a3)
          · split at hy
            · exact sH hx hb hts hown hK hE hinit hR hS hdg hok hlk hl hy hc0 hn0 (by omega) (by omega) (fun H1 locs1 a1 a2 a3 => go H1 locs1 LS a1 a2 a3)
            · split at hy
              · rename_i f1 hf1
                cases hy
                exact sL hx hb hdg hok hl hf1 (fun LS' a3 => go H locs LS' hR hS a3)
              · cases hy
        · cases hs
theorem s_run {M : pM} {d c0 n0 : Nat} {F : pFn} {r : Option Value} {h' : pH} (hF : sF l D cA b o en ms d F) (hms : ∀ M ∈ ms, mOK ms M = true) (hMk : mOK ms M = true) (hfr : d + 2 ≤ R.frames) (hlo : 40 * (d + 1) + 40 ≤ R.locals)
    (hx : p.tables.exec = Jvm.exec) (hb : c.code = M.2.1) (hml : c.maxLocals = M.2.2.1) (hts : ∀ w ∈ gT, w.before args s = true) (hown : s.vm.findClass M.1.cls = some m.cls) (hK : va_K D vwCl (tysL cA) s) (hE : sEnv en b o s s.heap) (hname : meth.name = M.1.name) (hr : meth.sig.returnType = M.2.2.2.1) (hlocks : meth.locks = false)
    (hcR : h'.1 - c0 ≤ R.cells) (hnR : h'.2.1 - n0 ≤ R.slots) :
    ∀ (n : Nat) (f : pF) (h : pH) (H : Heap) (locs : List Loc) (LS : Array Slot), prun ms F en M.2.2.2.1 M.2.2.2.2.2.2.2.2 n f h = some (r, h') → c0 ≤ h.1 → n0 ≤ h.2.1 → sRep D cA b o h H → va_S (fun q => b ≤ q) s.heap H locs → lv_has LS M.2.2.1 (rL b o f.2.1) →
      W p l e R s m args below meth c H locs (h.1 - c0) (h.2.1 - n0) (MQ below (sPost D cA b o r h') args s (h'.1 - c0) (h'.2.1 - n0) (fun q => b ≤ q)) (F0 m f.1 LS (rS b o f.2.2)) := by
  obtain ⟨-, -, -, -, -, -, -, -, -, ginit, gtab⟩ := mOK_spec hMk
  refine s_runG hF hms hfr hlo hx hb hml hts hown hK hE (fun z => by rw [hname]; exact (ginit (of_decide_eq_true z)).1) gtab hcR hnR ?_
  intro pc len i st H locs LS hdg hok hv hR hS
  unfold p_ret at hv
  split at hv
  · obtain rfl : len = 1 := of_decide_eq_true hok
    split at hv
    · rename_i z
      split at hv
      · rename_i hret
        cases hv
        exact W.iret hx hb (by rw [hr, hret]) (fun t ht hW => ⟨rfl, by rw [ht]; exact hR, hS.F ht⟩) hS.2.2 hdg hlocks
      · rename_i hret
        split at hv
        · rename_i hz
          cases hv
          exact W.zret hx hb (ty := .boolean) (by rw [hr, hret]) (by rcases hz with rfl | rfl <;> rfl) (fun t ht hW => ⟨rfl, by rw [ht]; exact hR, hS.F ht⟩) hS.2.2 hdg hlocks
        · cases hv
      · rename_i hret
        split at hv
        · rename_i hz
          cases hv
          exact W.zret hx hb (ty := .char) (by rw [hr, hret]) hz (fun t ht hW => ⟨rfl, by rw [ht]; exact hR, hS.F ht⟩) hS.2.2 hdg hlocks
        · cases hv
      · rename_i hret
        split at hv
        · rename_i hz
          cases hv
          exact W.zret hx hb (ty := .byte) (by rw [hr, hret]) hz (fun t ht hW => ⟨rfl, by rw [ht]; exact hR, hS.F ht⟩) hS.2.2 hdg hlocks
        · cases hv
      · cases hv
    · cases hv
  · obtain rfl : len = 1 := of_decide_eq_true hok
    split at hv
    · rename_i z
      split at hv
      · rename_i hret
        cases hv
        exact W.lret hx hb (by rw [hr, hret]) (fun t ht hW => ⟨rfl, by rw [ht]; exact hR, hS.F ht⟩) hS.2.2 hdg hlocks
      · cases hv
    · cases hv
  · obtain rfl : len = 1 := of_decide_eq_true hok
    split at hv
    · rename_i z
      split at hv
      · rename_i t hret
        cases hv
        exact W.aret hx hb (rt := .array t) (by rw [hr, hret]) (Or.inr ⟨_, rfl⟩) (Or.inr ⟨_, rfl⟩) (fun t ht hW => ⟨rfl, by rw [ht]; exact hR, hS.F ht⟩) hS.2.2 hdg hlocks
      · cases hv
    · cases hv
  · obtain rfl : len = 1 := of_decide_eq_true hok
    split at hv
    · split at hv
      · rename_i hret
        cases hv
        exact W.vret hx hb (by rw [hr, hret]) (fun t ht hW => ⟨rfl, by rw [ht]; exact hR, hS.F ht⟩) hS.2.2 hdg hlocks
      · cases hv
    · cases hv
  · cases hv
theorem lv_args_rS (b : Nat) (o : Nat → Nat) : ∀ (as : List Value) (i : Nat), lv_args i (rS b o as) = rL b o (lv_args i as) := by
  intro as
  induction as with
  | nil => intro i; rfl
  | cons v as ih =>
    intro i
    show (i, rV b o v) :: lv_args (if (rV b o v).category = 2 then i + 2 else i + 1) (rS b o as) = (i, rV b o v) :: rL b o (lv_args (if v.category = 2 then i + 2 else i + 1) as)
    rw [rV_cat, ih]
theorem lg_sl_rS (b : Nat) (o : Nat → Nat) (as : List Value) : (lg_sl (rS b o as)).length = (lg_sl as).length := by
  induction as with
  | nil => rfl
  | cons v as ih =>
    have e1 : ∀ (w : Value) (l : List Value), lg_sl (w :: l) = (if w.category = 2 then [.val w, .second] else [.val w]) ++ lg_sl l := fun w l => by
      unfold lg_sl
      rw [List.flatMap_cons]
    show (lg_sl (rV b o v :: rS b o as)).length = _
    rw [e1, e1, List.length_append, List.length_append, ih, rV_cat]
    split <;> rfl
/-- a method that the small machine runs to its end meets that as its contract -/
theorem met_of {M : pM} {d n : Nat} {F : pFn} {as : List Value} {h h' : pH} {r : Option Value} (hF : sF l D cA b o en ms d F) (hms : ∀ M ∈ ms, mOK ms M = true) (hMk : mOK ms M = true) (hlen : (lg_sl as).length ≤ M.2.2.1) (hs : prun ms F en M.2.2.2.1 M.2.2.2.2.2.2.2.2 n (0, lv_args 0 as, []) h = some (r, h')) :
    (h.1 ≤ h'.1 ∧ h.2.1 ≤ h'.2.1) ∧ Met l M.1 (wsM M) (rmd (d + 1) (h'.1 - h.1) (h'.2.1 - h.2.1)) (sPre D cA b o en as h) (sPost D cA b o r h') (h'.1 - h.1) (h'.2.1 - h.2.1) (fun q => b ≤ q) := by
  refine ⟨prun_mono hF _ _ _ hs, ?_⟩
  obtain ⟨-, -, gplain, -, -, -, -, -, -, -, -⟩ := mOK_spec hMk
  refine MetFree.of_bodySF (code := M.2.1) (maxLocals := M.2.2.1) (ret := M.2.2.2.1) gplain (fun args s m h hn => ?_) ?_
  · obtain ⟨meth, c, k⟩ := Cond.code_spec hn (atoms_spec (ws := wsM M) h _ List.mem_cons_self)
    exact ⟨meth, c, k.1, k.2.1, k.2.2.1, k.2.2.2.1, k.2.2.2.2.1, k.2.2.2.2.2.1⟩
  intro p e s m args below meth c s₁ B hml hv _
  obtain ⟨rfl, hR, hK, hE⟩ := hv
  have hts0 := atoms_spec (ws := wsM M) B.pre
  have hl := lv_entry (rS b o as) (n := M.2.2.1) (by rw [lg_sl_rS]; exact hlen)
  rw [lv_args_rS] at hl
  rw [lg_entry_eq]
  have K := s_run (R := rmd (d + 1) (h'.1 - h.1) (h'.2.1 - h.2.1)) (p := p) (l := l) (e := e) (s := s) (m := m) (args := (rS b o as).toArray) (below := below) (meth := meth) (c := c) (M := M) (d := d) (c0 := h.1) (n0 := h.2.1) (F := F) (r := r) (h' := h') hF hms hMk (Nat.le_refl _) (by show 40 * (d + 1) + 40 ≤ 40 * (d + 1 + 1); omega)
    B.exec B.bytes hml (fun w hw => hts0 w (List.mem_cons_of_mem _ hw)) (findClass_of_methodNamed B.named) hK hE (name_of_methodNamed B.named B.method).1 B.returns B.notSynchronized (Nat.le_refl _) (Nat.le_refl _) n (0, lv_args 0 as, []) h s.heap [] _ hs (Nat.le_refl _) (Nat.le_refl _) hR va_S.rf hl
  rw [Nat.sub_self, Nat.sub_self] at K
  obtain ⟨t, k1, w, k2, k3, k4⟩ := K s₁ (by rw [B.state]; rfl) (Stand.of_body B)
  exact ⟨t, w, k1, k2, k3, k4.1, k4.2⟩
end SIMR
