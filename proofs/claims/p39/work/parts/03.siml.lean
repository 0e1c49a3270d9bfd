section SIML
variable {p : Program} {l : Launch} {e : Env} {R : Room} {s : State} {m : MethodId} {args : Array Value} {below : List Frame} {meth : Method} {c : Code} {H : Heap} {locs : List Loc} {cells slots : Nat} {Q : State → Prop} {cc : ByteArray}
theorem p_tgt_eq {pc : Nat} {off : Int} (h : p_in0 pc off = true) : (pc : Int) + off = ((p_tgt pc off : Nat) : Int) := by
  unfold p_in0 at h
  unfold p_tgt
  have := of_decide_eq_true h
  omega
theorem p_br_W {pc tgt : Nat} {LS : Array Slot} {stk : List Value} {t : Bool} {g : JFrame} (h : (t = true → W p l e R s m args below meth c H locs cells slots Q (F0 m tgt LS stk)) → (¬ t = true → W p l e R s m args below meth c H locs cells slots Q (F0 m (pc + 3) LS stk)) → W p l e R s m args below meth c H locs cells slots Q g)
    (k : W p l e R s m args below meth c H locs cells slots Q (F0 m (p_br t tgt (pc + 3)) LS stk)) : W p l e R s m args below meth c H locs cells slots Q g := by
  cases t with
  | true => exact h (fun _ => k) (fun z => absurd rfl z)
  | false => exact h (fun z => by cases z) (fun _ => k)
theorem sA {b : Nat} {o : Nat → Nat} {nL pc : Nat} {i : Instr} {ls ls' : List (Nat × Value)} {st st' : List Value} {pc' : Nat} {LS : Array Slot} (hx : p.tables.exec = Jvm.exec) (hb : c.code = cc) (hdg : decode cc pc = .ok (i, 1)) (hl : lv_has LS nL (rL b o ls)) (hs : pstepA pc i ls st = some (pc', ls', st'))
    (k : ∀ LS' : Array Slot, lv_has LS' nL (rL b o ls') → W p l e R s m args below meth c H locs cells slots Q (F0 m pc' LS' (rS b o st'))) : W p l e R s m args below meth c H locs cells slots Q (F0 m pc LS (rS b o st)) := by
  unfold pstepA at hs
  split at hs
  · rename_i y x r
    split at hs
    · rename_i z hz
      simp only [Option.some.injEq, Prod.mk.injEq] at hs
      obtain ⟨rfl, rfl, rfl⟩ := hs
      show W p l e R s m args below meth c H locs cells slots Q (F0 m pc LS (.int y :: .int x :: rS b o r))
      have k2 : W p l e R s m args below meth c H locs cells slots Q (F0 m (pc + 1) LS (.int z :: rS b o r)) := k LS hl
      cases i
      case iadd =>
        simp only [p_bin, Option.some.injEq] at hz
        subst hz
        exact lv_iadd hx hb hdg k2
      case isub =>
        simp only [p_bin, Option.some.injEq] at hz
        subst hz
        exact lv_isub hx hb hdg k2
      case imul =>
        simp only [p_bin, Option.some.injEq] at hz
        subst hz
        exact lv_imul hx hb hdg k2
      case iand =>
        simp only [p_bin, Option.some.injEq] at hz
        subst hz
        exact lv_iand hx hb hdg k2
      case ior =>
        simp only [p_bin, Option.some.injEq] at hz
        subst hz
        exact lv_ior hx hb hdg k2
      case ixor =>
        simp only [p_bin, Option.some.injEq] at hz
        subst hz
        exact lv_ixor hx hb hdg k2
      case ishl =>
        simp only [p_bin, Option.some.injEq] at hz
        subst hz
        exact lv_ishl hx hb hdg k2
      case ishr =>
        simp only [p_bin, Option.some.injEq] at hz
        subst hz
        exact lv_ishr hx hb hdg k2
      case iushr =>
        simp only [p_bin, Option.some.injEq] at hz
        exact lv_iushr hx hb hdg hz k2
      case idiv =>
        simp only [p_bin] at hz
        by_cases h0 : y = 0
        · rw [if_pos h0] at hz
          cases hz
        · rw [if_neg h0] at hz
          simp only [Option.some.injEq] at hz
          subst hz
          exact lv_idiv hx hb hdg h0 k2
      case irem =>
        simp only [p_bin] at hz
        by_cases h0 : y = 0
        · rw [if_pos h0] at hz
          cases hz
        · rw [if_neg h0] at hz
          simp only [Option.some.injEq] at hz
          subst hz
          exact lv_irem hx hb hdg h0 k2
      all_goals (simp [p_bin] at hz)
    · cases hs
  · rename_i y x r
    split at hs
    · rename_i z hz
      simp only [Option.some.injEq, Prod.mk.injEq] at hs
      obtain ⟨rfl, rfl, rfl⟩ := hs
      show W p l e R s m args below meth c H locs cells slots Q (F0 m pc LS (.long y :: .long x :: rS b o r))
      have k2 : W p l e R s m args below meth c H locs cells slots Q (F0 m (pc + 1) LS (.long z :: rS b o r)) := k LS hl
      cases i
      case ladd =>
        simp only [p_binl, Option.some.injEq] at hz
        subst hz
        exact lv_ladd hx hb hdg k2
      case lsub =>
        simp only [p_binl, Option.some.injEq] at hz
        subst hz
        exact lv_lsub hx hb hdg k2
      case lmul =>
        simp only [p_binl, Option.some.injEq] at hz
        subst hz
        exact lv_lmul hx hb hdg k2
      case land =>
        simp only [p_binl, Option.some.injEq] at hz
        subst hz
        exact lv_land hx hb hdg k2
      case lor =>
        simp only [p_binl, Option.some.injEq] at hz
        subst hz
        exact lv_lor hx hb hdg k2
      case lxor =>
        simp only [p_binl, Option.some.injEq] at hz
        subst hz
        exact lv_lxor hx hb hdg k2
      all_goals (simp [p_binl] at hz)
    · cases hs
  · rename_i y x r
    split at hs
    · rename_i z hz
      simp only [Option.some.injEq, Prod.mk.injEq] at hs
      obtain ⟨rfl, rfl, rfl⟩ := hs
      show W p l e R s m args below meth c H locs cells slots Q (F0 m pc LS (.int y :: .long x :: rS b o r))
      have k2 : W p l e R s m args below meth c H locs cells slots Q (F0 m (pc + 1) LS (.long z :: rS b o r)) := k LS hl
      cases i
      case lshl =>
        simp only [p_shl, Option.some.injEq] at hz
        exact lv_lshl hx hb hdg hz k2
      case lshr =>
        simp only [p_shl, Option.some.injEq] at hz
        exact lv_lshr hx hb hdg hz k2
      case lushr =>
        simp only [p_shl, Option.some.injEq] at hz
        exact lv_lushr hx hb hdg hz k2
      all_goals (simp [p_shl] at hz)
    · cases hs
  · cases hs
theorem sL {b : Nat} {o : Nat → Nat} {nL pc len : Nat} {i : Instr} {ls ls' : List (Nat × Value)} {st st' : List Value} {pc' : Nat} {LS : Array Slot} (hx : p.tables.exec = Jvm.exec) (hb : c.code = cc) (hdg : decode cc pc = .ok (i, len)) (hok : p_ok nL pc i len = true) (hl : lv_has LS nL (rL b o ls)) (hs : pstepL pc i ls st = some (pc', ls', st'))
    (k : ∀ LS' : Array Slot, lv_has LS' nL (rL b o ls') → W p l e R s m args below meth c H locs cells slots Q (F0 m pc' LS' (rS b o st'))) : W p l e R s m args below meth c H locs cells slots Q (F0 m pc LS (rS b o st)) := by
  cases i
  case iconst n =>
    obtain rfl : len = 1 := of_decide_eq_true hok
    simp only [pstepL, Option.some.injEq, Prod.mk.injEq] at hs
    obtain ⟨rfl, rfl, rfl⟩ := hs
    exact lv_iconst hx hb hdg rfl (k LS hl)
  case bipush n =>
    obtain rfl : len = 2 := of_decide_eq_true hok
    simp only [pstepL, Option.some.injEq, Prod.mk.injEq] at hs
    obtain ⟨rfl, rfl, rfl⟩ := hs
    exact lv_bipush hx hb hdg rfl (k LS hl)
  case sipush n =>
    obtain rfl : len = 3 := of_decide_eq_true hok
    simp only [pstepL, Option.some.injEq, Prod.mk.injEq] at hs
    obtain ⟨rfl, rfl, rfl⟩ := hs
    exact lv_sipush hx hb hdg rfl (k LS hl)
  case lconst n =>
    obtain rfl : len = 1 := of_decide_eq_true hok
    simp only [pstepL, Option.some.injEq, Prod.mk.injEq] at hs
    obtain ⟨rfl, rfl, rfl⟩ := hs
    exact lv_lconst hx hb hdg rfl (k LS hl)
  case iload_n n =>
    obtain rfl : len = 1 := of_decide_eq_true hok
    simp only [pstepL] at hs
    split at hs
    · rename_i x hg
      simp only [Option.some.injEq, Prod.mk.injEq] at hs
      obtain ⟨rfl, rfl, rfl⟩ := hs
      exact lv_iload_n (x := x) hx hb hdg rfl (p_at hl hg) (k LS hl)
    · cases hs
  case iload n =>
    obtain rfl : len = 2 := of_decide_eq_true hok
    simp only [pstepL] at hs
    split at hs
    · rename_i x hg
      simp only [Option.some.injEq, Prod.mk.injEq] at hs
      obtain ⟨rfl, rfl, rfl⟩ := hs
      exact lv_iload (x := x) hx hb hdg (p_at hl hg) (k LS hl)
    · cases hs
  case lload_n n =>
    obtain rfl : len = 1 := of_decide_eq_true hok
    simp only [pstepL] at hs
    split at hs
    · rename_i x hg
      simp only [Option.some.injEq, Prod.mk.injEq] at hs
      obtain ⟨rfl, rfl, rfl⟩ := hs
      exact lv_lload_n (x := x) hx hb hdg rfl (p_at hl hg) (k LS hl)
    · cases hs
  case lload n =>
    obtain rfl : len = 2 := of_decide_eq_true hok
    simp only [pstepL] at hs
    split at hs
    · rename_i x hg
      simp only [Option.some.injEq, Prod.mk.injEq] at hs
      obtain ⟨rfl, rfl, rfl⟩ := hs
      exact lv_lload (x := x) hx hb hdg (p_at hl hg) (k LS hl)
    · cases hs
  case aload_n n =>
    obtain rfl : len = 1 := of_decide_eq_true hok
    simp only [pstepL] at hs
    split at hs
    · rename_i x hg
      simp only [Option.some.injEq, Prod.mk.injEq] at hs
      obtain ⟨rfl, rfl, rfl⟩ := hs
      exact lv_aload_n (x := b + x) hx hb hdg rfl (p_at hl hg) (k LS hl)
    · rename_i x hg
      simp only [Option.some.injEq, Prod.mk.injEq] at hs
      obtain ⟨rfl, rfl, rfl⟩ := hs
      exact lv_aload_n (x := o x) hx hb hdg rfl (p_at hl hg) (k LS hl)
    · cases hs
  case aload n =>
    obtain rfl : len = 2 := of_decide_eq_true hok
    simp only [pstepL] at hs
    split at hs
    · rename_i x hg
      simp only [Option.some.injEq, Prod.mk.injEq] at hs
      obtain ⟨rfl, rfl, rfl⟩ := hs
      exact lv_aload (x := b + x) hx hb hdg (p_at hl hg) (k LS hl)
    · rename_i x hg
      simp only [Option.some.injEq, Prod.mk.injEq] at hs
      obtain ⟨rfl, rfl, rfl⟩ := hs
      exact lv_aload (x := o x) hx hb hdg (p_at hl hg) (k LS hl)
    · cases hs
  case istore_n n =>
    obtain ⟨h1, h2⟩ := (Bool.and_eq_true _ _).mp hok
    obtain rfl : len = 1 := of_decide_eq_true h1
    simp only [pstepL] at hs
    split at hs
    · rename_i x r
      simp only [Option.some.injEq, Prod.mk.injEq] at hs
      obtain ⟨rfl, rfl, rfl⟩ := hs
      exact lv_istore_n (x := x) hx hb hdg rfl hl (of_decide_eq_true h2) (rL_set1 b o ls _ (.int x)).symm (fun LS' h => k LS' h)
    · cases hs
  case istore n =>
    obtain ⟨h1, h2⟩ := (Bool.and_eq_true _ _).mp hok
    obtain rfl : len = 2 := of_decide_eq_true h1
    simp only [pstepL] at hs
    split at hs
    · rename_i x r
      simp only [Option.some.injEq, Prod.mk.injEq] at hs
      obtain ⟨rfl, rfl, rfl⟩ := hs
      exact lv_istore (x := x) hx hb hdg hl (of_decide_eq_true h2) (rL_set1 b o ls _ (.int x)).symm (fun LS' h => k LS' h)
    · cases hs
  case lstore_n n =>
    obtain ⟨h1, h2⟩ := (Bool.and_eq_true _ _).mp hok
    obtain rfl : len = 1 := of_decide_eq_true h1
    simp only [pstepL] at hs
    split at hs
    · rename_i x r
      simp only [Option.some.injEq, Prod.mk.injEq] at hs
      obtain ⟨rfl, rfl, rfl⟩ := hs
      exact lv_lstore_n (x := x) hx hb hdg rfl hl (of_decide_eq_true h2) (rL_set2 b o ls _ (.long x)).symm (fun LS' h => k LS' h)
    · cases hs
  case lstore n =>
    obtain ⟨h1, h2⟩ := (Bool.and_eq_true _ _).mp hok
    obtain rfl : len = 2 := of_decide_eq_true h1
    simp only [pstepL] at hs
    split at hs
    · rename_i x r
      simp only [Option.some.injEq, Prod.mk.injEq] at hs
      obtain ⟨rfl, rfl, rfl⟩ := hs
      exact lv_lstore (x := x) hx hb hdg hl (of_decide_eq_true h2) (rL_set2 b o ls _ (.long x)).symm (fun LS' h => k LS' h)
    · cases hs
  case astore_n n =>
    obtain ⟨h1, h2⟩ := (Bool.and_eq_true _ _).mp hok
    obtain rfl : len = 1 := of_decide_eq_true h1
    simp only [pstepL] at hs
    split at hs
    · rename_i x r
      simp only [Option.some.injEq, Prod.mk.injEq] at hs
      obtain ⟨rfl, rfl, rfl⟩ := hs
      exact lv_astore_n (x := b + x) hx hb hdg rfl hl (of_decide_eq_true h2) (rL_set1 b o ls _ (.ref x)).symm (fun LS' h => k LS' h)
    · rename_i x r
      simp only [Option.some.injEq, Prod.mk.injEq] at hs
      obtain ⟨rfl, rfl, rfl⟩ := hs
      exact lv_astore_n (x := o x) hx hb hdg rfl hl (of_decide_eq_true h2) (rL_set1 b o ls _ (.retAddr x)).symm (fun LS' h => k LS' h)
    · cases hs
  case astore n =>
    obtain ⟨h1, h2⟩ := (Bool.and_eq_true _ _).mp hok
    obtain rfl : len = 2 := of_decide_eq_true h1
    simp only [pstepL] at hs
    split at hs
    · rename_i x r
      simp only [Option.some.injEq, Prod.mk.injEq] at hs
      obtain ⟨rfl, rfl, rfl⟩ := hs
      exact lv_astore (x := b + x) hx hb hdg hl (of_decide_eq_true h2) (rL_set1 b o ls _ (.ref x)).symm (fun LS' h => k LS' h)
    · rename_i x r
      simp only [Option.some.injEq, Prod.mk.injEq] at hs
      obtain ⟨rfl, rfl, rfl⟩ := hs
      exact lv_astore (x := o x) hx hb hdg hl (of_decide_eq_true h2) (rL_set1 b o ls _ (.retAddr x)).symm (fun LS' h => k LS' h)
    · cases hs
  case iinc n d =>
    obtain ⟨h1, h2⟩ := (Bool.and_eq_true _ _).mp hok
    obtain rfl : len = 3 := of_decide_eq_true h1
    simp only [pstepL] at hs
    split at hs
    · rename_i x hg
      simp only [Option.some.injEq, Prod.mk.injEq] at hs
      obtain ⟨rfl, rfl, rfl⟩ := hs
      obtain ⟨q, hq⟩ := p_place (b := b) (o := o) hg
      exact lv_iinc hx hb hdg hl hq rfl (of_decide_eq_true h2) (rL_set1 b o ls _ (.int (x + Int32.ofInt d))).symm (fun LS' h => k LS' h)
    · cases hs
  case dup =>
    obtain rfl : len = 1 := of_decide_eq_true hok
    simp only [pstepL] at hs
    split at hs
    · rename_i x r
      simp only [Option.some.injEq, Prod.mk.injEq] at hs
      obtain ⟨rfl, rfl, rfl⟩ := hs
      exact lv_dup (va := .int x) hx hb hdg rfl (k LS hl)
    · rename_i x r
      simp only [Option.some.injEq, Prod.mk.injEq] at hs
      obtain ⟨rfl, rfl, rfl⟩ := hs
      exact lv_dup (va := .ref (b + x)) hx hb hdg rfl (k LS hl)
    · rename_i x r
      simp only [Option.some.injEq, Prod.mk.injEq] at hs
      obtain ⟨rfl, rfl, rfl⟩ := hs
      exact lv_dup (va := .ref (o x)) hx hb hdg rfl (k LS hl)
    · cases hs
  case dup2 =>
    obtain rfl : len = 1 := of_decide_eq_true hok
    simp only [pstepL] at hs
    split at hs
    · rename_i x a r
      simp only [Option.some.injEq, Prod.mk.injEq] at hs
      obtain ⟨rfl, rfl, rfl⟩ := hs
      exact lv_dup2_11 (va := .int x) (vb := .ref (b + a)) hx hb hdg rfl rfl (k LS hl)
    · rename_i x a r
      simp only [Option.some.injEq, Prod.mk.injEq] at hs
      obtain ⟨rfl, rfl, rfl⟩ := hs
      exact lv_dup2_11 (va := .int x) (vb := .int a) hx hb hdg rfl rfl (k LS hl)
    · rename_i x r
      simp only [Option.some.injEq, Prod.mk.injEq] at hs
      obtain ⟨rfl, rfl, rfl⟩ := hs
      exact lv_dup2_2 (va := .long x) hx hb hdg rfl (k LS hl)
    · cases hs
  case pop =>
    obtain rfl : len = 1 := of_decide_eq_true hok
    simp only [pstepL] at hs
    split at hs
    · rename_i x r
      simp only [Option.some.injEq, Prod.mk.injEq] at hs
      obtain ⟨rfl, rfl, rfl⟩ := hs
      exact lv_pop (va := .int x) hx hb hdg rfl (k LS hl)
    · rename_i x r
      simp only [Option.some.injEq, Prod.mk.injEq] at hs
      obtain ⟨rfl, rfl, rfl⟩ := hs
      exact lv_pop (va := .ref (b + x)) hx hb hdg rfl (k LS hl)
    · cases hs
  case goto off =>
    obtain ⟨h1, h2⟩ := (Bool.and_eq_true _ _).mp hok
    obtain rfl : len = 3 := of_decide_eq_true h1
    simp only [pstepL, Option.some.injEq, Prod.mk.injEq] at hs
    obtain ⟨rfl, rfl, rfl⟩ := hs
    exact lv_goto hx hb hdg (p_tgt_eq h2) (k LS hl)
  case ifCond q off =>
    obtain ⟨h1, h2⟩ := (Bool.and_eq_true _ _).mp hok
    obtain rfl : len = 3 := of_decide_eq_true h1
    simp only [pstepL] at hs
    split at hs
    · rename_i x r
      simp only [Option.some.injEq, Prod.mk.injEq] at hs
      obtain ⟨rfl, rfl, rfl⟩ := hs
      refine p_br_W (pc := pc) (tgt := p_tgt pc off) (LS := LS) (stk := rS b o r) (t := p_cnd q x 0) ?_ (k LS hl)
      intro kt kf
      cases q
      case eq =>
        exact lv_if_eq hx hb hdg (p_tgt_eq h2) (fun z => kt (decide_eq_true z)) (fun z => kf (fun w => z (of_decide_eq_true w)))
      case ne =>
        exact lv_if_ne hx hb hdg (p_tgt_eq h2) (fun z => kt (decide_eq_true z)) (fun z => kf (fun w => absurd z (of_decide_eq_true w)))
      case lt =>
        exact lv_if_lt hx hb hdg (p_tgt_eq h2) (fun z => kt (decide_eq_true z)) (fun z => kf (fun w => z (of_decide_eq_true w)))
      case ge =>
        exact lv_if_ge hx hb hdg (p_tgt_eq h2) (fun z => kt (decide_eq_true z)) (fun z => kf (fun w => z (of_decide_eq_true w)))
      case gt =>
        exact lv_if_gt hx hb hdg (p_tgt_eq h2) (fun z => kt (decide_eq_true z)) (fun z => kf (fun w => z (of_decide_eq_true w)))
      case le =>
        exact lv_if_le hx hb hdg (p_tgt_eq h2) (fun z => kt (decide_eq_true z)) (fun z => kf (fun w => z (of_decide_eq_true w)))
    · cases hs
  case if_icmp q off =>
    obtain ⟨h1, h2⟩ := (Bool.and_eq_true _ _).mp hok
    obtain rfl : len = 3 := of_decide_eq_true h1
    simp only [pstepL] at hs
    split at hs
    · rename_i y x r
      simp only [Option.some.injEq, Prod.mk.injEq] at hs
      obtain ⟨rfl, rfl, rfl⟩ := hs
      refine p_br_W (pc := pc) (tgt := p_tgt pc off) (LS := LS) (stk := rS b o r) (t := p_cnd q x y) ?_ (k LS hl)
      intro kt kf
      cases q
      case eq =>
        exact lv_icmp_eq hx hb hdg (p_tgt_eq h2) (fun z => kt (decide_eq_true z)) (fun z => kf (fun w => z (of_decide_eq_true w)))
      case ne =>
        exact lv_icmp_ne hx hb hdg (p_tgt_eq h2) (fun z => kt (decide_eq_true z)) (fun z => kf (fun w => absurd z (of_decide_eq_true w)))
      case lt =>
        exact lv_icmp_lt hx hb hdg (p_tgt_eq h2) (fun z => kt (decide_eq_true z)) (fun z => kf (fun w => z (of_decide_eq_true w)))
      case ge =>
        exact lv_icmp_ge hx hb hdg (p_tgt_eq h2) (fun z => kt (decide_eq_true z)) (fun z => kf (fun w => z (of_decide_eq_true w)))
      case gt =>
        exact lv_icmp_gt hx hb hdg (p_tgt_eq h2) (fun z => kt (decide_eq_true z)) (fun z => kf (fun w => z (of_decide_eq_true w)))
      case le =>
        exact lv_icmp_le hx hb hdg (p_tgt_eq h2) (fun z => kt (decide_eq_true z)) (fun z => kf (fun w => z (of_decide_eq_true w)))
    · cases hs
  case tableswitch d lo hi offs =>
    obtain ⟨h1, h2⟩ := (Bool.and_eq_true _ _).mp hok
    obtain ⟨h2, h3⟩ := (Bool.and_eq_true _ _).mp h2
    obtain ⟨h3, h4⟩ := (Bool.and_eq_true _ _).mp h3
    have h3 := of_decide_eq_true h3
    have h4 := of_decide_eq_true h4
    simp only [pstepL] at hs
    split at hs
    · rename_i x r
      simp only [Option.some.injEq, Prod.mk.injEq] at hs
      obtain ⟨rfl, rfl, rfl⟩ := hs
      have k2 := k LS hl
      unfold p_sw at k2
      by_cases a1 : x.toInt < lo
      · rw [if_pos a1] at k2
        exact lv_tableOut hx hb hdg (Or.inl a1) (p_tgt_eq h1) k2
      · rw [if_neg a1] at k2
        by_cases a2 : hi < x.toInt
        · rw [if_pos a2] at k2
          exact lv_tableOut hx hb hdg (Or.inr a2) (p_tgt_eq h1) k2
        · rw [if_neg a2] at k2
          have a3 : (x.toInt - lo).toNat < offs.size := by omega
          have a4 : offs[(x.toInt - lo).toNat]? = some offs[(x.toInt - lo).toNat] := Array.getElem?_eq_getElem a3
          rw [a4] at k2
          have a5 : offs[(x.toInt - lo).toNat] ∈ offs.toList := by
            rw [← Array.getElem_toList]
            exact List.getElem_mem _
          exact lv_tableIn hx hb hdg a1 a2 a4 (p_tgt_eq (List.all_eq_true.mp h2 _ a5)) k2
    · cases hs
  case lookupswitch d ps =>
    obtain ⟨h1, h2⟩ := (Bool.and_eq_true _ _).mp hok
    obtain ⟨h2, h3⟩ := (Bool.and_eq_true _ _).mp h2
    simp only [pstepL] at hs
    split at hs
    · rename_i x r
      simp only [Option.some.injEq, Prod.mk.injEq] at hs
      obtain ⟨rfl, rfl, rfl⟩ := hs
      have key : ∀ l : List (Int × Int), l.all (fun q => p_in0 pc q.2) = true → p_in0 pc (Op.lookupswitch.offset l d x.toInt) = true := by
        intro l
        induction l with
        | nil => intro _; exact h1
        | cons q l ih =>
          intro hq
          obtain ⟨q1, q2⟩ := q
          rw [List.all_cons] at hq
          obtain ⟨g1, g2⟩ := (Bool.and_eq_true _ _).mp hq
          rw [Op.lookupswitch.offset_cons]
          split
          · exact g1
          · exact ih g2
      exact lv_lookup hx hb hdg h3 rfl (p_tgt_eq (key _ h2)) (k LS hl)
    · cases hs
  case lcmp =>
    obtain rfl : len = 1 := of_decide_eq_true hok
    simp only [pstepL] at hs
    split at hs
    · rename_i y x r
      simp only [Option.some.injEq, Prod.mk.injEq] at hs
      obtain ⟨rfl, rfl, rfl⟩ := hs
      exact W.lcmp hx hb hdg (k LS hl)
    · cases hs
  case ineg =>
    obtain rfl : len = 1 := of_decide_eq_true hok
    simp only [pstepL] at hs
    split at hs
    · rename_i x r
      simp only [Option.some.injEq, Prod.mk.injEq] at hs
      obtain ⟨rfl, rfl, rfl⟩ := hs
      exact lv_ineg hx hb hdg (k LS hl)
    · cases hs
  case i2l =>
    obtain rfl : len = 1 := of_decide_eq_true hok
    simp only [pstepL] at hs
    split at hs
    · rename_i x r
      simp only [Option.some.injEq, Prod.mk.injEq] at hs
      obtain ⟨rfl, rfl, rfl⟩ := hs
      exact lv_i2l hx hb hdg rfl (k LS hl)
    · cases hs
  case l2i =>
    obtain rfl : len = 1 := of_decide_eq_true hok
    simp only [pstepL] at hs
    split at hs
    · rename_i x r
      simp only [Option.some.injEq, Prod.mk.injEq] at hs
      obtain ⟨rfl, rfl, rfl⟩ := hs
      exact lv_l2i hx hb hdg rfl (k LS hl)
    · cases hs
  case i2b =>
    obtain rfl : len = 1 := of_decide_eq_true hok
    simp only [pstepL] at hs
    split at hs
    · rename_i x r
      simp only [Option.some.injEq, Prod.mk.injEq] at hs
      obtain ⟨rfl, rfl, rfl⟩ := hs
      exact lv_i2b hx hb hdg rfl (k LS hl)
    · cases hs
  case i2c =>
    obtain rfl : len = 1 := of_decide_eq_true hok
    simp only [pstepL] at hs
    split at hs
    · rename_i x r
      simp only [Option.some.injEq, Prod.mk.injEq] at hs
      obtain ⟨rfl, rfl, rfl⟩ := hs
      exact lv_i2c hx hb hdg rfl (k LS hl)
    · cases hs
  case iadd =>
    obtain rfl : len = 1 := of_decide_eq_true hok
    exact sA hx hb hdg hl hs k
  case isub =>
    obtain rfl : len = 1 := of_decide_eq_true hok
    exact sA hx hb hdg hl hs k
  case imul =>
    obtain rfl : len = 1 := of_decide_eq_true hok
    exact sA hx hb hdg hl hs k
  case iand =>
    obtain rfl : len = 1 := of_decide_eq_true hok
    exact sA hx hb hdg hl hs k
  case ior =>
    obtain rfl : len = 1 := of_decide_eq_true hok
    exact sA hx hb hdg hl hs k
  case ixor =>
    obtain rfl : len = 1 := of_decide_eq_true hok
    exact sA hx hb hdg hl hs k
  case ishl =>
    obtain rfl : len = 1 := of_decide_eq_true hok
    exact sA hx hb hdg hl hs k
  case ishr =>
    obtain rfl : len = 1 := of_decide_eq_true hok
    exact sA hx hb hdg hl hs k
  case iushr =>
    obtain rfl : len = 1 := of_decide_eq_true hok
    exact sA hx hb hdg hl hs k
  case idiv =>
    obtain rfl : len = 1 := of_decide_eq_true hok
    exact sA hx hb hdg hl hs k
  case irem =>
    obtain rfl : len = 1 := of_decide_eq_true hok
    exact sA hx hb hdg hl hs k
  case ladd =>
    obtain rfl : len = 1 := of_decide_eq_true hok
    exact sA hx hb hdg hl hs k
  case lsub =>
    obtain rfl : len = 1 := of_decide_eq_true hok
    exact sA hx hb hdg hl hs k
  case lmul =>
    obtain rfl : len = 1 := of_decide_eq_true hok
    exact sA hx hb hdg hl hs k
  case land =>
    obtain rfl : len = 1 := of_decide_eq_true hok
    exact sA hx hb hdg hl hs k
  case lor =>
    obtain rfl : len = 1 := of_decide_eq_true hok
    exact sA hx hb hdg hl hs k
  case lxor =>
    obtain rfl : len = 1 := of_decide_eq_true hok
    exact sA hx hb hdg hl hs k
  case lshl =>
    obtain rfl : len = 1 := of_decide_eq_true hok
    exact sA hx hb hdg hl hs k
  case lshr =>
    obtain rfl : len = 1 := of_decide_eq_true hok
    exact sA hx hb hdg hl hs k
  case lushr =>
    obtain rfl : len = 1 := of_decide_eq_true hok
    exact sA hx hb hdg hl hs k
  all_goals
    (exfalso
     simp only [pstepL] at hs
     unfold pstepA at hs
     split at hs
     · simp [p_bin] at hs
     · simp [p_binl] at hs
     · simp [p_shl] at hs
     · cases hs)
end SIML
