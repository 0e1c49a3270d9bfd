/-! THE CONSTRUCTORS, on the small machine: forward runs. -/
def xW (F : pFn) (en : pN) (ret : Option FieldType) (tab : List pI) (f : pF) (h : pH) (r : pR) : Prop := ∃ n : Nat, prun msL F en ret tab n f h = some r
section PX
variable {F : pFn} {en : pN} {ret : Option FieldType} {tab : List pI} {ls : List (Nat × Value)} {st : List Value} {h : pH} {pc len : Nat} {x : pX} {R : pR}
theorem x_step {i : Instr} {y : pF × pH} (hq : p_find tab pc = some (i, len, x)) (hr : p_ret ret i st = none) (hs : pstep msL F en pc i x ls st h = some y) (k : xW F en ret tab y.1 y.2 R) : xW F en ret tab (pc, ls, st) h R := by
  obtain ⟨n, hn⟩ := k
  refine ⟨n + 1, ?_⟩
  unfold prun
  dsimp only
  rw [hq]
  dsimp only
  rw [hr]
  dsimp only
  rw [hs]
  exact hn
theorem x_L (n : Nat) {f f' : pF} (hs : qLs ret tab n f = some f') (k : xW F en ret tab f' h R) : xW F en ret tab f h R := by
  induction n generalizing f with
  | zero => cases hs; exact k
  | succ n ih =>
    unfold qLs at hs
    split at hs
    · cases hs
    · rename_i q hq
      split at hs
      · cases hs
      · rename_i hc
        split at hs
        · cases hs
        · rename_i hr
          split at hs
          · rename_i f1 hf1
            obtain ⟨c1, c2⟩ := Bool.or_eq_false_iff.mp hc
            refine x_step (pc := f.1) (ls := f.2.1) (st := f.2.2) (y := (f1, h)) hq hr ?_ (ih hs)
            unfold pstep
            rw [c1]
            dsimp only
            rw [c2]
            dsimp only
            rw [hf1]
          · cases hs
theorem x_H {i : Instr} (y : pF × pH) (hq : p_find tab pc = some (i, len, x)) (hc : p_isC i = false) (hh : p_isH i = true) (hr : p_ret ret i st = none) (hs : pstepH en pc i x ls st h = some y) (k : xW F en ret tab y.1 y.2 R) : xW F en ret tab (pc, ls, st) h R := by
  refine x_step hq hr ?_ k
  unfold pstep
  rw [hc]
  dsimp only
  rw [hh]
  exact hs
theorem x_C {i : Instr} {y : pF × pH} (hq : p_find tab pc = some (i, len, x)) (hc : p_isC i = true) (hr : p_ret ret i st = none) (hs : pstepC msL F pc i x ls st h = some y) (k : xW F en ret tab y.1 y.2 R) : xW F en ret tab (pc, ls, st) h R := by
  refine x_step hq hr ?_ k
  unfold pstep
  rw [hc]
  exact hs
theorem x_obj {idx a : Nat} {r : List Value} (hq : p_find tab pc = some (.invokespecial idx, len, x)) (hx : x.1 = -1) (hr : p_cats r ≤ 8) (k : xW F en ret tab (pc + 3, ls, r) h R) : xW F en ret tab (pc, ls, .ref a :: r) h R := by
  refine x_C (y := ((pc + 3, ls, r), h)) hq rfl rfl ?_ k
  simp only [pstepC]
  rw [if_pos hx, if_pos hr]
theorem x_spec {M : pM} {idx a : Nat} {as r : List Value} {h' : pH} (y : Nat) (hq : p_find tab pc = some (.invokespecial idx, len, x)) (hx : decide (x.1 = -1) = false) (hy : x.1.toNat = y) (hM : msL[y]? = some M) (ha : p_args M.2.2.2.2.1 st = some (as, .ref a :: r)) (hr : p_cats r ≤ 8) (hF : F y (.ref a :: as) h = some (none, h')) (k : xW F en ret tab (pc + 3, ls, r) h' R) : xW F en ret tab (pc, ls, st) h R := by
  refine x_C (y := ((pc + 3, ls, r), h')) hq rfl rfl ?_ k
  simp only [pstepC, hy, hM, ha]
  rw [if_neg (of_decide_eq_false hx), if_pos hr, hF]
  rfl
theorem x_stat {M : pM} {idx : Nat} {as r : List Value} {w : Option Value} {h' : pH} (y : Nat) (hq : p_find tab pc = some (.invokestatic idx, len, x)) (hx : decide (x.1 = -2) = false) (hy : x.1.toNat = y) (hM : msL[y]? = some M) (ha : p_args M.2.2.2.2.1 st = some (as, r)) (hr : p_cats r ≤ 8) (hF : F y as h = some (w, h')) (k : xW F en ret tab (pc + 3, ls, w.toList ++ r) h' R) : xW F en ret tab (pc, ls, st) h R := by
  refine x_C (y := ((pc + 3, ls, w.toList ++ r), h')) hq rfl rfl ?_ k
  simp only [pstepC, hy, hM, ha]
  rw [if_neg (of_decide_eq_false hx), if_pos hr, hF]
theorem x_virt {M : pM} {idx : Nat} {as r : List Value} {v : Value} {w : Option Value} {h' : pH} (y : Nat) (hq : p_find tab pc = some (.invokevirtual idx, len, x)) (hy : x.1.toNat = y) (hM : msL[y]? = some M) (ha : p_args M.2.2.2.2.1 st = some (as, v :: r)) (hv : p_recv h M.2.2.2.2.2.2.1 v = true) (hr : p_cats r ≤ 8) (hF : F y (v :: as) h = some (w, h')) (k : xW F en ret tab (pc + 3, ls, w.toList ++ r) h' R) : xW F en ret tab (pc, ls, st) h R := by
  refine x_C (y := ((pc + 3, ls, w.toList ++ r), h')) hq rfl rfl ?_ k
  simp only [pstepC, hy, hM, ha]
  rw [if_pos ⟨hv, hr⟩, hF]
theorem x_ret {i : Instr} {v : Option Value} (hq : p_find tab pc = some (i, len, x)) (hr : p_ret ret i st = some v) : xW F en ret tab (pc, ls, st) h (v, h) := by
  refine ⟨1, ?_⟩
  unfold prun
  dsimp only
  rw [hq]
  dsimp only
  rw [hr]
theorem x_enter {d y : Nat} {as : List Value} {M : pM} (hM : msL[y]? = some M) (hl : (lg_sl as).length ≤ M.2.2.1) (k : xW (pev msL en d) en M.2.2.2.1 M.2.2.2.2.2.2.2.2 (0, lv_args 0 as, []) h R) : pev msL en (d + 1) y as h = some R := by
  obtain ⟨n, hn⟩ := k
  exact pev_of hM hl hn
theorem x_br {i : Instr} {f' : pF} (hq : p_find tab pc = some (i, len, x)) (hc : p_isC i = false) (hh : p_isH i = false) (hr : p_ret ret i st = none) (hs : pstepL pc i ls st = some f') (k : xW F en ret tab f' h R) : xW F en ret tab (pc, ls, st) h R := by
  refine x_step (y := (f', h)) hq hr ?_ k
  unfold pstep
  rw [hc]
  dsimp only
  rw [hh]
  dsimp only
  rw [hs]
end PX
/-! the words of a String, packed: Tokens.codes -/
theorem x_coder {en : pN} {d q : Nat} {h : pH} (hq : 1 ≤ q ∧ q ≤ 3) : pev msL en (d + 1) 417 [.retAddr q] h = some (some (.int 0), h) := by
  refine x_enter ix_J0_coder_7d493 (Nat.le_of_ble_eq_true rfl) ?_
  show xW _ en (some .byte) tb_J0_coder_7d493 (0, [(0, .retAddr q)], []) h _
  refine x_H ((3, [(0, .retAddr q)], [.int 1]), h) rfl rfl rfl rfl rfl ?_
  refine x_L 2 (f' := (7, [(0, .retAddr q)], [.retAddr q])) rfl ?_
  refine x_H ((10, [(0, .retAddr q)], [.int 0]), h) rfl rfl rfl rfl (by simp only [pstepH]; rw [if_pos ⟨hq, trivial⟩]; rfl) ?_
  refine x_L 1 (f' := (14, [(0, .retAddr q)], [.int 0])) rfl ?_
  exact x_ret rfl rfl
theorem x_latin {en : pN} {d q : Nat} {h : pH} (hq : 1 ≤ q ∧ q ≤ 3) : pev msL en (d + 1) 418 [.retAddr q] h = some (some (.int 1), h) := by
  refine x_enter ix_J0_isLatin1_aae02 (Nat.le_of_ble_eq_true rfl) ?_
  show xW _ en (some .boolean) tb_J0_isLatin1_aae02 (0, [(0, .retAddr q)], []) h _
  refine x_H ((3, [(0, .retAddr q)], [.int 1]), h) rfl rfl rfl rfl rfl ?_
  refine x_L 2 (f' := (7, [(0, .retAddr q)], [.retAddr q])) rfl ?_
  refine x_H ((10, [(0, .retAddr q)], [.int 0]), h) rfl rfl rfl rfl (by simp only [pstepH]; rw [if_pos ⟨hq, trivial⟩]; rfl) ?_
  refine x_L 3 (f' := (18, [(0, .retAddr q)], [.int 1])) rfl ?_
  exact x_ret rfl rfl
theorem x_length {en : pN} {d q n : Nat} {f : Nat → Int32} {h : pH} (hq : 1 ≤ q ∧ q ≤ 3) (ho : oArr en (q + 3) = some (3, n, f)) (hn : n < 1000) : pev msL en (d + 2) 413 [.retAddr q] h = some (some (.int (Int32.ofNat n)), h) := by
  refine x_enter ix_J0_length_8abf5 (Nat.le_of_ble_eq_true rfl) ?_
  show xW _ en (some .int) tb_J0_length_8abf5 (0, [(0, .retAddr q)], []) h _
  refine x_L 1 (f' := (1, [(0, .retAddr q)], [.retAddr q])) rfl ?_
  refine x_H ((4, [(0, .retAddr q)], [.retAddr (q + 3)]), h) rfl rfl rfl rfl (by simp only [pstepH]; rw [if_pos ⟨hq, trivial⟩]; rfl) ?_
  refine x_H ((5, [(0, .retAddr q)], [.int (Int32.ofNat n)]), h) rfl rfl rfl rfl (by simp only [pstepH, ho]) ?_
  refine x_L 1 (f' := (6, [(0, .retAddr q)], [.retAddr q, .int (Int32.ofNat n)])) rfl ?_
  refine x_virt 417 rfl rfl ix_J0_coder_7d493 rfl (by show (decide (1 ≤ q ∧ q ≤ 3) && decide (13 = 13)) = true; rw [decide_eq_true hq]; rfl) (Nat.le_of_ble_eq_true rfl) (x_coder hq) ?_
  show xW _ en (some .int) tb_J0_length_8abf5 (9, [(0, .retAddr q)], [.int 0, .int (Int32.ofNat n)]) h _
  refine x_L 1 (f' := (10, [(0, .retAddr q)], [.int (Int32.ofNat n >>> ((0 : Int32) &&& 31))])) rfl ?_
  have e1 : Int32.ofNat n >>> ((0 : Int32) &&& 31) = Int32.ofNat n := by
    rw [show (0 : Int32) &&& 31 = 0 by decide]
    exact Int32.shiftRight_zero
  rw [e1]
  exact x_ret rfl rfl
section PX2
variable {F : pFn} {en : pN} {ret : Option FieldType} {tab : List pI} {ls : List (Nat × Value)} {st r : List Value} {h : pH} {pc len : Nat} {x : pX} {R : pR}
theorem x_ifz {c : Jvm.ClassFile.Cond} {off : Int} {u : Int32} (b : Bool) (hq : p_find tab pc = some (.ifCond c off, len, x)) (hp : p_cnd c u 0 = b) (k : xW F en ret tab (p_br b (p_tgt pc off) (pc + 3), ls, r) h R) : xW F en ret tab (pc, ls, .int u :: r) h R := by
  refine x_br (f' := (p_br b (p_tgt pc off) (pc + 3), ls, r)) hq rfl rfl rfl ?_ k
  simp only [pstepL, hp]
theorem x_icm {c : Jvm.ClassFile.Cond} {off : Int} {u v : Int32} (b : Bool) (hq : p_find tab pc = some (.if_icmp c off, len, x)) (hp : p_cnd c u v = b) (k : xW F en ret tab (p_br b (p_tgt pc off) (pc + 3), ls, r) h R) : xW F en ret tab (pc, ls, .int v :: .int u :: r) h R := by
  refine x_br (f' := (p_br b (p_tgt pc off) (pc + 3), ls, r)) hq rfl rfl rfl ?_ k
  simp only [pstepL, hp]
theorem pstepH_frame {i : Instr} {l l' : List (Nat × Value)} {y : pF × pH} (hs : pstepH en pc i x l st h = some y) : y.1.2.1 = l ∧ pstepH en pc i x l' st h = some ((y.1.1, l', y.1.2.2), y.2) := by
  cases i
  all_goals first
    | (simp [pstepH] at hs; done)
    | (simp only [pstepH] at hs ⊢; (repeat' split at hs) <;> first | (cases hs; refine ⟨rfl, ?_⟩; simp_all; done) | (cases hs; done))
theorem pstepC_frame {i : Instr} {l l' : List (Nat × Value)} {y : pF × pH} (hs : pstepC msL F pc i x l st h = some y) : y.1.2.1 = l ∧ pstepC msL F pc i x l' st h = some ((y.1.1, l', y.1.2.2), y.2) := by
  cases i
  all_goals first
    | (simp [pstepC] at hs; done)
    | (simp only [pstepC] at hs ⊢; (repeat' split at hs) <;> first | (cases hs; refine ⟨rfl, ?_⟩; simp_all; done) | (cases hs; done))
theorem prun_sub : ∀ (n pc : Nat) (l l' : List (Nat × Value)) (st : List Value) (h : pH) (r : pR), qsub l l' → prun msL F en ret tab n (pc, l, st) h = some r → prun msL F en ret tab n (pc, l', st) h = some r := by
  intro n
  induction n with
  | zero => intro pc l l' st h r hl hs; cases hs
  | succ n ih =>
    intro pc l l' st h r hl hs
    unfold prun at hs ⊢
    dsimp only at hs ⊢
    split at hs
    · cases hs
    · rename_i q hq
      split at hs
      · rename_i v hv
        exact hs
      · rename_i hv
        split at hs
        · rename_i y hy
          obtain ⟨⟨pc1, l1, st1⟩, h1⟩ := y
          have key : ∃ l2 : List (Nat × Value), qsub l1 l2 ∧ pstep msL F en pc q.1 q.2.2 l' st h = some ((pc1, l2, st1), h1) := by
            unfold pstep at hy ⊢
            split at hy
            · rename_i hc
              obtain ⟨e1, e2⟩ := pstepC_frame (l' := l') hy
              dsimp only at e1
              rw [e1]
              exact ⟨l', hl, e2⟩
            · split at hy
              · obtain ⟨e1, e2⟩ := pstepH_frame (l' := l') hy
                dsimp only at e1
                rw [e1]
                exact ⟨l', hl, e2⟩
              · split at hy
                · rename_i f1 hf1
                  cases hy
                  obtain ⟨l2, e1, e2⟩ := pstepL_sub hl hf1
                  rw [e2]
                  exact ⟨l2, e1, rfl⟩
                · cases hy
          obtain ⟨l2, e1, e2⟩ := key
          rw [e2]
          exact ih _ _ _ _ _ _ e1 hs
        · cases hs
theorem x_sub {l l' : List (Nat × Value)} (hl : qsub l l') (k : xW F en ret tab (pc, l, st) h R) : xW F en ret tab (pc, l', st) h R := by
  obtain ⟨n, hn⟩ := k
  exact ⟨n, prun_sub n _ _ _ _ _ _ hl hn⟩
end PX2
theorem x_chk {en : pN} {d : Nat} {i n : Int32} {h : pH} (h0 : ¬ i < 0) (h1 : i < n) : pev msL en (d + 1) 436 [.int i, .int n, .float 0] h = some (some (.int i), h) := by
  refine x_enter ix_J3_checkIndex_8e157 (Nat.le_of_ble_eq_true rfl) ?_
  show xW _ en (some .int) tb_J3_checkIndex_8e157 (0, [(0, .int i), (1, .int n), (2, .float 0)], []) h _
  refine x_L 1 (f' := (1, [(0, .int i), (1, .int n), (2, .float 0)], [.int i])) rfl ?_
  refine x_ifz false rfl (decide_eq_false h0) ?_
  refine x_L 2 (f' := (6, [(0, .int i), (1, .int n), (2, .float 0)], [.int n, .int i])) rfl ?_
  refine x_icm true rfl (decide_eq_true h1) ?_
  refine x_L 1 (f' := (17, [(0, .int i), (1, .int n), (2, .float 0)], [.int i])) rfl ?_
  exact x_ret rfl rfl
theorem x_chk0 {en : pN} {d : Nat} {i n : Int32} {h : pH} (h0 : ¬ i < 0) (h1 : i < n) : pev msL en (d + 2) 419 [.int i, .int n] h = some (none, h) := by
  refine x_enter ix_J0_checkIndex_df160 (Nat.le_of_ble_eq_true rfl) ?_
  show xW _ en none tb_J0_checkIndex_df160 (0, [(0, .int i), (1, .int n)], []) h _
  refine x_L 2 (f' := (2, [(0, .int i), (1, .int n)], [.int n, .int i])) rfl ?_
  refine x_H ((5, [(0, .int i), (1, .int n)], [.float 0, .int n, .int i]), h) rfl rfl rfl rfl rfl ?_
  refine x_stat 436 rfl rfl rfl ix_J3_checkIndex_8e157 rfl (Nat.le_of_ble_eq_true rfl) (x_chk h0 h1) ?_
  show xW _ en none tb_J0_checkIndex_df160 (8, [(0, .int i), (1, .int n)], [.int i]) h _
  refine x_L 1 (f' := (9, [(0, .int i), (1, .int n)], [])) rfl ?_
  exact x_ret rfl rfl
/-- a byte as a char -/
def chB (b : Int32) : Int32 := ((b &&& 255).toUInt32 % 65536).toInt32
theorem x_charL {en : pN} {d q n i : Nat} {f : Nat → Int32} {h : pH} (ho : oArr en q = some (3, n, f)) (hn : n < 1000) (hi : i < n) (hc : narrow .char (.int (chB (f i))) = .int (chB (f i))) : pev msL en (d + 3) 421 [.retAddr q, .int (nI i)] h = some (some (.int (chB (f i))), h) := by
  refine x_enter ix_J1_charAt_3b067 (Nat.le_of_ble_eq_true rfl) ?_
  show xW _ en (some .char) tb_J1_charAt_3b067 (0, [(0, .retAddr q), (1, .int (nI i))], []) h _
  refine x_L 2 (f' := (2, [(0, .retAddr q), (1, .int (nI i))], [.retAddr q, .int (nI i)])) rfl ?_
  refine x_H ((3, [(0, .retAddr q), (1, .int (nI i))], [.int (nI n), .int (nI i)]), h) rfl rfl rfl rfl (by simp only [pstepH, ho]; rfl) ?_
  refine x_stat 419 rfl rfl rfl ix_J0_checkIndex_df160 rfl (Nat.le_of_ble_eq_true rfl) (x_chk0 (nI_pos (by omega)) (nI_lt hi (by omega))) ?_
  show xW _ en (some .char) tb_J1_charAt_3b067 (6, [(0, .retAddr q), (1, .int (nI i))], []) h _
  refine x_L 2 (f' := (8, [(0, .retAddr q), (1, .int (nI i))], [.int (nI i), .retAddr q])) rfl ?_
  refine x_H ((9, [(0, .retAddr q), (1, .int (nI i))], [.int (f i)]), h) rfl rfl rfl rfl ?_ ?_
  · simp only [pstepH, ho]
    rw [if_pos (show p_inB (nI i) n = true from decide_eq_true (nI_in hi (by omega))), nI_clamp (by omega)]
  refine x_L 3 (f' := (14, [(0, .retAddr q), (1, .int (nI i))], [.int (chB (f i))])) rfl ?_
  exact x_ret rfl (by simp only [p_ret]; rw [if_pos hc])
theorem x_char {en : pN} {d q n i : Nat} {f : Nat → Int32} {h : pH} (hq : 1 ≤ q ∧ q ≤ 3) (ho : oArr en (q + 3) = some (3, n, f)) (hn : n < 1000) (hi : i < n) (hc : narrow .char (.int (chB (f i))) = .int (chB (f i))) : pev msL en (d + 4) 414 [.retAddr q, .int (nI i)] h = some (some (.int (chB (f i))), h) := by
  refine x_enter ix_J0_charAt_5068e (Nat.le_of_ble_eq_true rfl) ?_
  show xW _ en (some .char) tb_J0_charAt_5068e (0, [(0, .retAddr q), (1, .int (nI i))], []) h _
  refine x_L 1 (f' := (1, [(0, .retAddr q), (1, .int (nI i))], [.retAddr q])) rfl ?_
  refine x_virt 418 rfl rfl ix_J0_isLatin1_aae02 rfl (by show (decide (1 ≤ q ∧ q ≤ 3) && decide (13 = 13)) = true; rw [decide_eq_true hq]; rfl) (Nat.le_of_ble_eq_true rfl) (x_latin hq) ?_
  show xW _ en (some .char) tb_J0_charAt_5068e (4, [(0, .retAddr q), (1, .int (nI i))], [.int 1]) h _
  refine x_ifz false rfl (by decide) ?_
  refine x_L 1 (f' := (8, [(0, .retAddr q), (1, .int (nI i))], [.retAddr q])) rfl ?_
  refine x_H ((11, [(0, .retAddr q), (1, .int (nI i))], [.retAddr (q + 3)]), h) rfl rfl rfl rfl (by simp only [pstepH]; rw [if_pos ⟨hq, trivial⟩]; rfl) ?_
  refine x_L 1 (f' := (12, [(0, .retAddr q), (1, .int (nI i))], [.int (nI i), .retAddr (q + 3)])) rfl ?_
  refine x_stat 421 rfl rfl rfl ix_J1_charAt_3b067 rfl (Nat.le_of_ble_eq_true rfl) (x_charL ho hn hi hc) ?_
  show xW _ en (some .char) tb_J0_charAt_5068e (15, [(0, .retAddr q), (1, .int (nI i))], [.int (chB (f i))]) h _
  exact x_ret rfl (by simp only [p_ret]; rw [if_pos hc])
/-- the words packed, behind i bytes: how many words are whole, and the row -/
def cdS (bs : List Int32) (cnt : Nat) : Nat → Nat × List Int64
  | 0 => (0, List.replicate cnt 0)
  | i + 1 => match cdS bs cnt i with
    | (n, l) => if chB (bs.getD i 0) = 32 then (n + 1, l) else (n, l.set n (((l.getD n 0) <<< ((7 : Int32).toInt64 &&& 63)) ||| (chB (bs.getD i 0)).toInt64))
theorem cdS_len (bs : List Int32) (cnt : Nat) : ∀ i : Nat, (cdS bs cnt i).2.length = cnt := by
  intro i
  induction i with
  | zero => exact List.length_replicate
  | succ i ih =>
    show (match cdS bs cnt i with
      | (n, l) => if chB (bs.getD i 0) = 32 then (n + 1, l) else (n, l.set n (((l.getD n 0) <<< ((7 : Int32).toInt64 &&& 63)) ||| (chB (bs.getD i 0)).toInt64))).2.length = cnt
    generalize cdS bs cnt i = q at ih
    obtain ⟨n, l⟩ := q
    dsimp only at ih ⊢
    split
    · exact ih
    · rw [List.length_set]
      exact ih
/-- the cell of the row -/
def cdE (cnt : Nat) (l : List Int64) : pE := .inl (1, cnt, .inr (.inl (fun j => l.getD j 0)))
theorem p_up_up (f : Nat → pE) (k : Nat) (e e' : pE) : p_up (p_up f k e) k e' = p_up f k e' := by
  funext j
  unfold p_up
  by_cases h : j = k
  · rw [if_pos h, if_pos h]
  · rw [if_neg h, if_neg h, if_neg h]
theorem cd_upd {l : List Int64} {n : Nat} {v : Int64} (hn : n < l.length) : vp_updL (fun j => l.getD j 0) n v = fun j => (l.set n v).getD j 0 := by
  funext j
  show (if j = n then v else l.getD j 0) = _
  rw [List.getD_eq_getElem?_getD, List.getD_eq_getElem?_getD, List.getElem?_set]
  by_cases h : j = n
  · subst h
    rw [if_pos rfl, if_pos rfl, if_pos hn]
    rfl
  · rw [if_neg h, if_neg (fun z => h z.symm)]
set_option maxHeartbeats 4000000 in
theorem x_codes_loop {en : pN} {d q cnt : Nat} {bs : List Int32} {h : pH} (hq : 1 ≤ q ∧ q ≤ 3) (ho : oArr en (q + 3) = some (3, bs.length, fun j => bs.getD j 0)) (hb : bs.length < 1000) (hcnt : cnt < 1000)
    (hch : ∀ i : Nat, i < bs.length → narrow .char (.int (chB (bs.getD i 0))) = .int (chB (bs.getD i 0))) (hw : ∀ i : Nat, i < bs.length → (cdS bs cnt i).1 < cnt) :
    ∀ (m i : Nat), i + m = bs.length → xW (pev msL en (d + 4)) en (some (.array .long)) tb_X9_codes (9, [(0, .retAddr q), (1, .int (nI cnt)), (2, .ref h.1), (3, .int (nI (cdS bs cnt i).1)), (4, .int (nI i))], []) (h.1 + 1, h.2.1 + cnt, p_up h.2.2 h.1 (cdE cnt (cdS bs cnt i).2)) (some (.ref h.1), (h.1 + 1, h.2.1 + cnt, p_up h.2.2 h.1 (cdE cnt (cdS bs cnt bs.length).2))) := by
  intro m
  induction m with
  | zero =>
    intro i hi
    obtain rfl : i = bs.length := by omega
    generalize hl0 : [((0 : Nat), Value.retAddr q), (1, .int (nI cnt)), (2, .ref h.1), (3, .int (nI (cdS bs cnt bs.length).1)), (4, .int (nI bs.length))] = l0
    refine x_L 2 (f' := (12, l0, [.retAddr q, .int (nI bs.length)])) (by rw [← hl0]; rfl) ?_
    refine x_virt 413 rfl rfl ix_J0_length_8abf5 rfl (by show (decide (1 ≤ q ∧ q ≤ 3) && decide (13 = 13)) = true; rw [decide_eq_true hq]; rfl) (Nat.le_of_ble_eq_true rfl) (x_length hq ho hb) ?_
    show xW _ en (some (.array .long)) tb_X9_codes (15, l0, [.int (nI bs.length), .int (nI bs.length)]) _ _
    refine x_icm true rfl (decide_eq_true (nI_le (Nat.le_refl _) (by omega))) ?_
    refine x_L 1 (f' := (64, l0, [.ref h.1])) (by rw [← hl0]; rfl) ?_
    exact x_ret rfl rfl
  | succ m ih =>
    intro i hi
    have hlt : i < bs.length := by omega
    have hwi := hw i hlt
    have hlen := cdS_len bs cnt i
    have hnext : cdS bs cnt (i + 1) = (if chB (bs.getD i 0) = 32 then ((cdS bs cnt i).1 + 1, (cdS bs cnt i).2) else ((cdS bs cnt i).1, (cdS bs cnt i).2.set (cdS bs cnt i).1 ((((cdS bs cnt i).2.getD (cdS bs cnt i).1 0) <<< ((7 : Int32).toInt64 &&& 63)) ||| (chB (bs.getD i 0)).toInt64))) := rfl
    have hIH := ih (i + 1) (by omega)
    rw [hnext] at hIH
    generalize cdS bs cnt i = w at hwi hlen hIH ⊢
    obtain ⟨n, l⟩ := w
    dsimp only at hwi hlen hIH ⊢
    refine x_L 2 (f' := (12, [(0, .retAddr q), (1, .int (nI cnt)), (2, .ref h.1), (3, .int (nI n)), (4, .int (nI i))], [.retAddr q, .int (nI i)])) rfl ?_
    refine x_virt 413 rfl rfl ix_J0_length_8abf5 rfl (by show (decide (1 ≤ q ∧ q ≤ 3) && decide (13 = 13)) = true; rw [decide_eq_true hq]; rfl) (Nat.le_of_ble_eq_true rfl) (x_length hq ho hb) ?_
    show xW _ en (some (.array .long)) tb_X9_codes (15, [(0, .retAddr q), (1, .int (nI cnt)), (2, .ref h.1), (3, .int (nI n)), (4, .int (nI i))], [.int (nI bs.length), .int (nI i)]) _ _
    refine x_icm false rfl (decide_eq_false (nI_ge hlt (by omega))) ?_
    refine x_L 2 (f' := (20, [(0, .retAddr q), (1, .int (nI cnt)), (2, .ref h.1), (3, .int (nI n)), (4, .int (nI i))], [.int (nI cnt), .int (nI n)])) rfl ?_
    refine x_icm false rfl (decide_eq_false (nI_ge hwi (by omega))) ?_
    refine x_L 2 (f' := (26, [(0, .retAddr q), (1, .int (nI cnt)), (2, .ref h.1), (3, .int (nI n)), (4, .int (nI i))], [.int (nI i), .retAddr q])) rfl ?_
    refine x_virt 414 rfl rfl ix_J0_charAt_5068e rfl (by show (decide (1 ≤ q ∧ q ≤ 3) && decide (13 = 13)) = true; rw [decide_eq_true hq]; rfl) (Nat.le_of_ble_eq_true rfl) (x_char hq ho hb hlt (hch i hlt)) ?_
    show xW _ en (some (.array .long)) tb_X9_codes (29, [(0, .retAddr q), (1, .int (nI cnt)), (2, .ref h.1), (3, .int (nI n)), (4, .int (nI i))], [.int (chB (bs.getD i 0))]) _ _
    refine x_L 3 (f' := (35, [(5, .int (chB (bs.getD i 0))), (0, .retAddr q), (1, .int (nI cnt)), (2, .ref h.1), (3, .int (nI n)), (4, .int (nI i))], [.int 32, .int (chB (bs.getD i 0))])) rfl ?_
    by_cases hsp : chB (bs.getD i 0) = 32
    · rw [if_pos hsp] at hIH
      refine x_icm false rfl (decide_eq_false (fun z => z hsp)) ?_
      refine x_L 4 (f' := (9, [(4, .int (nI i + 1)), (3, .int (nI n + 1)), (5, .int (chB (bs.getD i 0))), (0, .retAddr q), (1, .int (nI cnt)), (2, .ref h.1)], [])) rfl ?_
      rw [nI_1, nI_1]
      exact x_sub (qsubL [3, 4, 5, 1, 0] rfl (ks := [4, 3, 5, 0, 1, 2]) rfl (by decide)) hIH
    · rw [if_neg hsp] at hIH
      refine x_icm true rfl (decide_eq_true hsp) ?_
      refine x_L 4 (f' := (48, [(5, .int (chB (bs.getD i 0))), (0, .retAddr q), (1, .int (nI cnt)), (2, .ref h.1), (3, .int (nI n)), (4, .int (nI i))], [.int (nI n), .ref h.1, .int (nI n), .ref h.1])) rfl ?_
      have hin : p_inB (nI n) cnt = true := decide_eq_true (vp_in_nI hwi (by omega))
      have hcl : (nI n).toNatClampNeg = n := nI_clamp (by omega)
      have hcell : p_up h.2.2 h.1 (cdE cnt l) h.1 = .inl (1, cnt, .inr (.inl (fun j => l.getD j 0))) := if_pos rfl
      refine x_H ((49, [(5, .int (chB (bs.getD i 0))), (0, .retAddr q), (1, .int (nI cnt)), (2, .ref h.1), (3, .int (nI n)), (4, .int (nI i))], [.long (l.getD n 0), .int (nI n), .ref h.1]), (h.1 + 1, h.2.1 + cnt, p_up h.2.2 h.1 (cdE cnt l))) rfl rfl rfl rfl ?_ ?_
      · simp only [pstepH, hcell]
        rw [if_pos ⟨Nat.lt_succ_self _, hin⟩, hcl]
      refine x_L 5 (f' := (56, [(5, .int (chB (bs.getD i 0))), (0, .retAddr q), (1, .int (nI cnt)), (2, .ref h.1), (3, .int (nI n)), (4, .int (nI i))], [.long (((l.getD n 0) <<< ((7 : Int32).toInt64 &&& 63)) ||| (chB (bs.getD i 0)).toInt64), .int (nI n), .ref h.1])) rfl ?_
      refine x_H ((57, [(5, .int (chB (bs.getD i 0))), (0, .retAddr q), (1, .int (nI cnt)), (2, .ref h.1), (3, .int (nI n)), (4, .int (nI i))], []), (h.1 + 1, h.2.1 + cnt, p_up h.2.2 h.1 (cdE cnt (l.set n (((l.getD n 0) <<< ((7 : Int32).toInt64 &&& 63)) ||| (chB (bs.getD i 0)).toInt64))))) rfl rfl rfl rfl ?_ ?_
      · simp only [pstepH, hcell]
        rw [if_pos ⟨Nat.lt_succ_self _, hin⟩, hcl, cd_upd (by rw [hlen]; exact hwi), p_up_up]
        rfl
      refine x_L 2 (f' := (9, [(4, .int (nI i + 1)), (5, .int (chB (bs.getD i 0))), (0, .retAddr q), (1, .int (nI cnt)), (2, .ref h.1), (3, .int (nI n))], [])) rfl ?_
      rw [nI_1]
      exact x_sub (qsubL [2, 3, 4, 5, 0] rfl (ks := [4, 5, 0, 1, 2, 3]) rfl (by decide)) hIH
theorem x_codes {en : pN} {d q cnt : Nat} {bs : List Int32} {h : pH} (hq : 1 ≤ q ∧ q ≤ 3) (ho : oArr en (q + 3) = some (3, bs.length, fun j => bs.getD j 0)) (hb : bs.length < 1000) (hcnt : cnt < 1000)
    (hch : ∀ i : Nat, i < bs.length → narrow .char (.int (chB (bs.getD i 0))) = .int (chB (bs.getD i 0))) (hw : ∀ i : Nat, i < bs.length → (cdS bs cnt i).1 < cnt) : pev msL en (d + 5) 164 [.retAddr q, .int (nI cnt)] h = some (some (.ref h.1), (h.1 + 1, h.2.1 + cnt, p_up h.2.2 h.1 (cdE cnt (cdS bs cnt bs.length).2))) := by
  refine x_enter ix_X9_codes (Nat.le_of_ble_eq_true rfl) ?_
  show xW _ en (some (.array .long)) tb_X9_codes (0, [(0, .retAddr q), (1, .int (nI cnt))], []) h _
  refine x_L 1 (f' := (1, [(0, .retAddr q), (1, .int (nI cnt))], [.int (nI cnt)])) rfl ?_
  have hcl : (nI cnt).toNatClampNeg = cnt := nI_clamp (by omega)
  refine x_H ((3, [(0, .retAddr q), (1, .int (nI cnt))], [.ref h.1]), (h.1 + 1, h.2.1 + cnt, p_up h.2.2 h.1 (cdE cnt (List.replicate cnt 0)))) rfl rfl rfl rfl ?_ ?_
  · simp only [pstepH, p_aty]
    rw [hcl, if_pos ⟨nI_pos (by omega), by omega⟩]
    have e1 : (fun j => (List.replicate cnt (0 : Int64)).getD j 0) = fun _ => 0 := by
      funext j
      rw [List.getD_eq_getElem?_getD, List.getElem?_replicate]
      split <;> rfl
    unfold cdE
    rw [e1]
    rfl
  refine x_L 5 (f' := (9, [(4, .int 0), (3, .int 0), (2, .ref h.1), (0, .retAddr q), (1, .int (nI cnt))], [])) rfl ?_
  have K := x_codes_loop (en := en) (d := d) (h := h) hq ho hb hcnt hch hw bs.length 0 (by omega)
  exact x_sub (qsubL [3, 4, 2, 1, 0] rfl (ks := [4, 3, 2, 0, 1]) rfl (by decide)) K
