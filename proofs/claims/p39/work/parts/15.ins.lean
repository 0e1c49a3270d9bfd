/-! INSTRUCTIONS, one direction: rows by which a text goes along a method's frame. -/
def nm {α β : Type} (e : α) (K : α → Option β) : Option β := K e
def isB (v : Int32) : Bool := decide (v = 0) || decide (v = 1)
def gOK (x : pX) (ci k kind : Nat) : Bool := decide (x.1 = (ci : Int)) && (decide (x.2.1 = k) && (decide (ci < 13) && (decide (k < cn ci) && decide (fk ci k = kind))))
theorem gOK_spec {x : pX} {ci k kind : Nat} (h : gOK x ci k kind = true) : x.1 = (ci : Int) ∧ x.2.1 = k ∧ ci < 13 ∧ k < cn ci ∧ fk ci k = kind := by
  simp only [gOK, Bool.and_eq_true, decide_eq_true_eq] at h
  exact h
/-- a stretch of instructions that need no cell -/
def qLs (ret : Option FieldType) (tab : List pI) : Nat → pF → Option pF
  | 0, f => some f
  | n + 1, f => match p_find tab f.1 with
    | none => none
    | some q => match p_isC q.1 || p_isH q.1 with
      | true => none
      | false => match p_ret ret q.1 f.2.2 with
        | some _ => none
        | none => match pstepL f.1 q.1 f.2.1 f.2.2 with
          | some f' => qLs ret tab n f'
          | none => none
def swI {α : Type} (x : Int) (lo : Int) : List (Option α) → Option α → Option α
  | [], D => D
  | A :: as, D => if x = lo then A else swI x (lo + 1) as D
def swAll (P : Option qR → Nat → Prop) (pc : Nat) : List (Option qR) → List Int → Prop
  | [], [] => True
  | A :: as, o :: os => P A (p_tgt pc o) ∧ swAll P pc as os
  | _, _ => False
def swL {α : Type} (x : Int) : List (Int × Option α) → Option α → Option α
  | [], D => D
  | q :: as, D => if q.1 = x then q.2 else swL x as D
def swAllL (P : Option qR → Nat → Prop) (pc : Nat) : List (Int × Option qR) → List (Int × Int) → Prop
  | [], [] => True
  | A :: as, o :: os => A.1 = o.1 ∧ (P A.2 (p_tgt pc o.2) ∧ swAllL P pc as os)
  | _, _ => False
section QI
variable {F : qFn} {en : pN} {ret : Option FieldType} {tab : List pI} {ls : List (Nat × Value)} {r st : List Value} {σ : qS} {pc len : Nat} {x : pX} {X A B : Option qR}
theorem e_L (n : Nat) {f f' : pF} (hs : qLs ret tab n f = some f') (k : qle X (qE F en ret tab f' σ)) : qle X (qE F en ret tab f σ) := by
  induction n generalizing f with
  | zero => cases hs; exact k
  | succ n ih =>
    unfold qLs at hs
    split at hs
    · cases hs
    · rename_i q hq
      split at hs
      · cases hs
      · rename_i hc
        split at hs
        · cases hs
        · rename_i hr
          split at hs
          · rename_i f1 hf1
            obtain ⟨c1, c2⟩ := Bool.or_eq_false_iff.mp hc
            refine qE_step (pc := f.1) (ls := f.2.1) (st := f.2.2) (y := (f1, σ)) hq hr ?_ (ih hs)
            unfold qstep
            rw [c1]
            dsimp only
            rw [c2]
            dsimp only
            rw [hf1]
          · cases hs
theorem e_H {i : Instr} {y : pF × qS} (hq : p_find tab pc = some (i, len, x)) (hc : p_isC i = false) (hh : p_isH i = true) (hr : p_ret ret i st = none) (hs : qstepH en pc i x ls st σ = some y) (k : qle X (qE F en ret tab y.1 y.2)) : qle X (qE F en ret tab (pc, ls, st) σ) := by
  refine qE_step hq hr ?_ k
  show qstep F en pc i x ls st σ = some y
  unfold qstep
  rw [hc]
  dsimp only
  rw [hh]
  exact hs
theorem e_C {i : Instr} {y : pF × qS} (hq : p_find tab pc = some (i, len, x)) (hc : p_isC i = true) (hr : p_ret ret i st = none) (hs : qstepC F pc i x ls st σ = some y) (k : qle X (qE F en ret tab y.1 y.2)) : qle X (qE F en ret tab (pc, ls, st) σ) := by
  refine qE_step hq hr ?_ k
  show qstep F en pc i x ls st σ = some y
  unfold qstep
  rw [hc]
  exact hs
-- fields
theorem e_gI {a idx : Nat} (ci k : Nat) (hq : p_find tab pc = some (.getfield idx, len, x)) (hg : gOK x ci k 0 = true) (hc : lc a = ci) (kk : qle X (qE F en ret tab (pc + 3, ls, .int (σ.1 a k) :: r) σ)) : qle X (qE F en ret tab (pc, ls, .ref a :: r) σ) := by
  obtain ⟨h1, h2, h3, h4, h5⟩ := gOK_spec hg
  subst hc
  refine e_H (y := ((pc + 3, ls, .int (σ.1 a k) :: r), σ)) hq rfl rfl rfl ?_ kk
  simp only [qstepH]
  rw [if_pos ⟨h1, h3, by rw [h2]; exact h4⟩, h2]
  unfold qfv
  rw [h5]
  rfl
theorem e_gJ {a idx : Nat} (ci k : Nat) (hq : p_find tab pc = some (.getfield idx, len, x)) (hg : gOK x ci k 1 = true) (hc : lc a = ci) (kk : qle X (qE F en ret tab (pc + 3, ls, .long (σ.2.1 a k) :: r) σ)) : qle X (qE F en ret tab (pc, ls, .ref a :: r) σ) := by
  obtain ⟨h1, h2, h3, h4, h5⟩ := gOK_spec hg
  subst hc
  refine e_H (y := ((pc + 3, ls, .long (σ.2.1 a k) :: r), σ)) hq rfl rfl rfl ?_ kk
  simp only [qstepH]
  rw [if_pos ⟨h1, h3, by rw [h2]; exact h4⟩, h2]
  unfold qfv
  rw [h5]
  rfl
theorem e_gR {a idx q : Nat} (ci k : Nat) (hq : p_find tab pc = some (.getfield idx, len, x)) (hg : gOK x ci k 2 = true) (hc : lc a = ci) (hv : lr a k = q) (kk : qle X (qE F en ret tab (pc + 3, ls, .ref q :: r) σ)) : qle X (qE F en ret tab (pc, ls, .ref a :: r) σ) := by
  obtain ⟨h1, h2, h3, h4, h5⟩ := gOK_spec hg
  subst hc
  subst hv
  refine e_H (y := ((pc + 3, ls, .ref (lr a k) :: r), σ)) hq rfl rfl rfl ?_ kk
  simp only [qstepH]
  rw [if_pos ⟨h1, h3, by rw [h2]; exact h4⟩, h2]
  unfold qfv
  rw [h5]
  rfl
theorem e_gM {a idx : Nat} (ci k : Nat) (hq : p_find tab pc = some (.getfield idx, len, x)) (hg : gOK x ci k 3 = true) (hc : lc a = ci) (hv : σ.2.2 a k ≠ 0) (kk : qle X (qE F en ret tab (pc + 3, ls, .ref (σ.2.2 a k - 1) :: r) σ)) : qle X (qE F en ret tab (pc, ls, .ref a :: r) σ) := by
  obtain ⟨h1, h2, h3, h4, h5⟩ := gOK_spec hg
  subst hc
  refine e_H (y := ((pc + 3, ls, .ref (σ.2.2 a k - 1) :: r), σ)) hq rfl rfl rfl ?_ kk
  simp only [qstepH]
  rw [if_pos ⟨h1, h3, by rw [h2]; exact h4⟩, h2]
  unfold qfv
  rw [h5]
  exact congrArg (fun w => some ((pc + 3, ls, w :: r), σ)) (if_neg hv)
theorem e_gS {q idx : Nat} {w : Value} (hq : p_find tab pc = some (.getfield idx, len, x)) (h1 : 1 ≤ q ∧ q ≤ 3) (h2 : x.1 = -1) (hw : (if x.2.1 = 0 then Value.int 0 else .retAddr (q + 3)) = w) (kk : qle X (qE F en ret tab (pc + 3, ls, w :: r) σ)) : qle X (qE F en ret tab (pc, ls, .retAddr q :: r) σ) := by
  refine e_H (y := ((pc + 3, ls, w :: r), σ)) hq rfl rfl rfl ?_ kk
  simp only [qstepH]
  rw [if_pos ⟨h1, h2⟩, ← hw]
  split <;> rfl
theorem e_pI {a idx : Nat} {v : Int32} (ci k : Nat) (hq : p_find tab pc = some (.putfield idx, len, x)) (hg : gOK x ci k 0 = true) (hc : lc a = ci) (hf : p_fit (clTy ci k) (.int v) = true) (kk : qle X (qE F en ret tab (pc + 3, ls, r) (uI σ a k v))) : qle X (qE F en ret tab (pc, ls, .int v :: .ref a :: r) σ) := by
  obtain ⟨h1, h2, h3, h4, h5⟩ := gOK_spec hg
  subst hc
  refine e_H (y := ((pc + 3, ls, r), uI σ a k v)) hq rfl rfl rfl ?_ kk
  simp only [qstepH]
  rw [if_pos ⟨⟨h1, h3, by rw [h2]; exact h4⟩, by rw [h2]; exact hf⟩, h2]
  unfold qput
  rw [h5]
  rfl
theorem e_pJ {a idx : Nat} {v : Int64} (ci k : Nat) (hq : p_find tab pc = some (.putfield idx, len, x)) (hg : gOK x ci k 1 = true) (hc : lc a = ci) (hf : p_fit (clTy ci k) (.long v) = true) (kk : qle X (qE F en ret tab (pc + 3, ls, r) (uJ σ a k v))) : qle X (qE F en ret tab (pc, ls, .long v :: .ref a :: r) σ) := by
  obtain ⟨h1, h2, h3, h4, h5⟩ := gOK_spec hg
  subst hc
  refine e_H (y := ((pc + 3, ls, r), uJ σ a k v)) hq rfl rfl rfl ?_ kk
  simp only [qstepH]
  rw [if_pos ⟨⟨h1, h3, by rw [h2]; exact h4⟩, by rw [h2]; exact hf⟩, h2]
  unfold qput
  rw [h5]
  rfl
theorem e_pM {a idx v : Nat} (ci k : Nat) (hq : p_find tab pc = some (.putfield idx, len, x)) (hg : gOK x ci k 3 = true) (hc : lc a = ci) (hf : p_fit (clTy ci k) (.ref v) = true) (kk : qle X (qE F en ret tab (pc + 3, ls, r) (uR σ a k (v + 1)))) : qle X (qE F en ret tab (pc, ls, .ref v :: .ref a :: r) σ) := by
  obtain ⟨h1, h2, h3, h4, h5⟩ := gOK_spec hg
  subst hc
  refine e_H (y := ((pc + 3, ls, r), uR σ a k (v + 1))) hq rfl rfl rfl ?_ kk
  simp only [qstepH]
  rw [if_pos ⟨⟨h1, h3, by rw [h2]; exact h4⟩, by rw [h2]; exact hf⟩, h2]
  unfold qput
  rw [h5]
  rfl
theorem e_gs {idx : Nat} {w : Value} (hq : p_find tab pc = some (.getstatic idx, len, x)) (hw : (stL[x.2.1]?).map (fun q => q.2.2.2) = some w) (kk : qle X (qE F en ret tab (pc + 3, ls, w :: st) σ)) : qle X (qE F en ret tab (pc, ls, st) σ) := by
  refine e_H (y := ((pc + 3, ls, w :: st), σ)) hq rfl rfl rfl ?_ kk
  simp only [qstepH]
  cases h : stL[x.2.1]? with
  | none => rw [h] at hw; cases hw
  | some q =>
    rw [h] at hw
    cases hw
    rfl
-- arrays
theorem e_ial {a n k : Nat} {i : Int32} (hq : p_find tab pc = some (.iaload, len, x)) (hc : lc a = 20) (hn : ln a = n) (hi : p_inB i n = true) (hk : i.toNatClampNeg = k) (kk : qle X (qE F en ret tab (pc + 1, ls, .int (σ.1 a k) :: r) σ)) : qle X (qE F en ret tab (pc, ls, .int i :: .ref a :: r) σ) := by
  subst hn; subst hk
  refine e_H (y := ((pc + 1, ls, .int (σ.1 a i.toNatClampNeg) :: r), σ)) hq rfl rfl rfl ?_ kk
  simp only [qstepH]
  rw [if_pos ⟨hc, hi⟩]
theorem e_lal {a n k : Nat} {i : Int32} (hq : p_find tab pc = some (.laload, len, x)) (hc : lc a = 21) (hn : ln a = n) (hi : p_inB i n = true) (hk : i.toNatClampNeg = k) (kk : qle X (qE F en ret tab (pc + 1, ls, .long (σ.2.1 a k) :: r) σ)) : qle X (qE F en ret tab (pc, ls, .int i :: .ref a :: r) σ) := by
  subst hn; subst hk
  refine e_H (y := ((pc + 1, ls, .long (σ.2.1 a i.toNatClampNeg) :: r), σ)) hq rfl rfl rfl ?_ kk
  simp only [qstepH]
  rw [if_pos ⟨hc, hi⟩]
theorem e_bal {a n k : Nat} {i : Int32} (hq : p_find tab pc = some (.baload, len, x)) (hc : False ∨ lc a = 23) (hn : ln a = n) (hi : p_inB i n = true) (hk : i.toNatClampNeg = k) (kk : qle X (qE F en ret tab (pc + 1, ls, .int (σ.1 a k) :: r) σ)) : qle X (qE F en ret tab (pc, ls, .int i :: .ref a :: r) σ) := by
  subst hn; subst hk
  refine e_H (y := ((pc + 1, ls, .int (σ.1 a i.toNatClampNeg) :: r), σ)) hq rfl rfl rfl ?_ kk
  simp only [qstepH]
  rw [if_pos ⟨hc, hi⟩]
theorem e_aal {a n q : Nat} {i : Int32} (hq : p_find tab pc = some (.aaload, len, x)) (hc : lc a = 24) (hn : ln a = n) (hi : p_inB i n = true) (hv : lr a 0 + i.toNatClampNeg = q) (kk : qle X (qE F en ret tab (pc + 1, ls, .ref q :: r) σ)) : qle X (qE F en ret tab (pc, ls, .int i :: .ref a :: r) σ) := by
  subst hn; subst hv
  refine e_H (y := ((pc + 1, ls, .ref (lr a 0 + i.toNatClampNeg) :: r), σ)) hq rfl rfl rfl ?_ kk
  simp only [qstepH]
  rw [if_pos ⟨hc, hi⟩]
theorem e_alen {a : Nat} {v : Int32} (hq : p_find tab pc = some (.arraylength, len, x)) (hc : 20 ≤ lc a ∧ lc a < 25) (hv : Int32.ofNat (ln a) = v) (kk : qle X (qE F en ret tab (pc + 1, ls, .int v :: r) σ)) : qle X (qE F en ret tab (pc, ls, .ref a :: r) σ) := by
  subst hv
  refine e_H (y := ((pc + 1, ls, .int (Int32.ofNat (ln a)) :: r), σ)) hq rfl rfl rfl ?_ kk
  simp only [qstepH]
  rw [if_pos hc]
theorem e_ias {a n k : Nat} {i v : Int32} (hq : p_find tab pc = some (.iastore, len, x)) (hc : lc a = 20) (hn : ln a = n) (hi : p_inB i n = true) (hk : i.toNatClampNeg = k) (kk : qle X (qE F en ret tab (pc + 1, ls, r) (uI σ a k v))) : qle X (qE F en ret tab (pc, ls, .int v :: .int i :: .ref a :: r) σ) := by
  subst hn; subst hk
  refine e_H (y := ((pc + 1, ls, r), uI σ a i.toNatClampNeg v)) hq rfl rfl rfl ?_ kk
  simp only [qstepH]
  rw [if_pos ⟨hc, hi⟩]
theorem e_las {a n k : Nat} {i : Int32} {v : Int64} (hq : p_find tab pc = some (.lastore, len, x)) (hc : lc a = 21) (hn : ln a = n) (hi : p_inB i n = true) (hk : i.toNatClampNeg = k) (kk : qle X (qE F en ret tab (pc + 1, ls, r) (uJ σ a k v))) : qle X (qE F en ret tab (pc, ls, .long v :: .int i :: .ref a :: r) σ) := by
  subst hn; subst hk
  refine e_H (y := ((pc + 1, ls, r), uJ σ a i.toNatClampNeg v)) hq rfl rfl rfl ?_ kk
  simp only [qstepH]
  rw [if_pos ⟨hc, hi⟩]
theorem e_bas3 {a n k : Nat} {i v : Int32} (hq : p_find tab pc = some (.bastore, len, x)) (hc : lc a = 23) (hn : ln a = n) (hi : p_inB i n = true) (hk : i.toNatClampNeg = k) (kk : qle X (qE F en ret tab (pc + 1, ls, r) (uI σ a k (vp_nar .byte v)))) : qle X (qE F en ret tab (pc, ls, .int v :: .int i :: .ref a :: r) σ) := by
  subst hn; subst hk
  refine e_H (y := ((pc + 1, ls, r), uI σ a i.toNatClampNeg (vp_nar .byte v))) hq rfl rfl rfl ?_ kk
  simp only [qstepH]
  rw [if_pos ⟨hc, hi⟩]
theorem e_oal {q n : Nat} {f : Nat → Int32} {i : Int32} (hq : p_find tab pc = some (.iaload, len, x)) (ho : oArr en q = some (0, n, f)) (hi : p_inB i n = true) (kk : qle X (qE F en ret tab (pc + 1, ls, .int (f i.toNatClampNeg) :: r) σ)) : qle X (qE F en ret tab (pc, ls, .int i :: .retAddr q :: r) σ) := by
  refine e_H (y := ((pc + 1, ls, .int (f i.toNatClampNeg) :: r), σ)) hq rfl rfl rfl ?_ kk
  simp only [qstepH, ho]
  rw [if_pos hi]
theorem e_obal {q n : Nat} {f : Nat → Int32} {i : Int32} (hq : p_find tab pc = some (.baload, len, x)) (ho : oArr en q = some (3, n, f)) (hi : p_inB i n = true) (kk : qle X (qE F en ret tab (pc + 1, ls, .int (f i.toNatClampNeg) :: r) σ)) : qle X (qE F en ret tab (pc, ls, .int i :: .retAddr q :: r) σ) := by
  refine e_H (y := ((pc + 1, ls, .int (f i.toNatClampNeg) :: r), σ)) hq rfl rfl rfl ?_ kk
  simp only [qstepH, ho]
  rw [if_pos hi]
theorem e_olen {q t n : Nat} {f : Nat → Int32} {v : Int32} (hq : p_find tab pc = some (.arraylength, len, x)) (ho : oArr en q = some (t, n, f)) (hv : Int32.ofNat n = v) (kk : qle X (qE F en ret tab (pc + 1, ls, .int v :: r) σ)) : qle X (qE F en ret tab (pc, ls, .retAddr q :: r) σ) := by
  subst hv
  refine e_H (y := ((pc + 1, ls, .int (Int32.ofNat n) :: r), σ)) hq rfl rfl rfl ?_ kk
  simp only [qstepH, ho]
theorem e_ldcI {idx : Nat} {v : Int32} (hq : p_find tab pc = some (.ldc idx, len, x)) (h0 : x.2.1 = 0) (hv : Int32.ofInt x.1 = v) (kk : qle X (qE F en ret tab (pc + 2, ls, .int v :: st) σ)) : qle X (qE F en ret tab (pc, ls, st) σ) := by
  subst hv
  refine e_H (y := ((pc + 2, ls, .int (Int32.ofInt x.1) :: st), σ)) hq rfl rfl rfl ?_ kk
  simp only [qstepH]
  rw [if_pos h0]
theorem e_ldcS {idx k : Nat} (hq : p_find tab pc = some (.ldc idx, len, x)) (h0 : x.2.1 = k + 1) (kk : qle X (qE F en ret tab (pc + 2, ls, .retAddr (k + 1) :: st) σ)) : qle X (qE F en ret tab (pc, ls, st) σ) := by
  refine e_H (y := ((pc + 2, ls, .retAddr (k + 1) :: st), σ)) hq rfl rfl rfl ?_ kk
  simp only [qstepH]
  rw [if_neg (by rw [h0]; exact Nat.succ_ne_zero k), h0]
theorem e_ldcw {idx : Nat} {v : Int32} (hq : p_find tab pc = some (.ldc_w idx, len, x)) (hv : Int32.ofInt x.1 = v) (kk : qle X (qE F en ret tab (pc + 3, ls, .int v :: st) σ)) : qle X (qE F en ret tab (pc, ls, st) σ) := by
  subst hv
  exact e_H (y := ((pc + 3, ls, .int (Int32.ofInt x.1) :: st), σ)) hq rfl rfl rfl rfl kk
theorem e_ldc2 {idx : Nat} {v : Int64} (hq : p_find tab pc = some (.ldc2_w idx, len, x)) (hv : Int64.ofInt x.1 = v) (kk : qle X (qE F en ret tab (pc + 3, ls, .long v :: st) σ)) : qle X (qE F en ret tab (pc, ls, st) σ) := by
  subst hv
  exact e_H (y := ((pc + 3, ls, .long (Int64.ofInt x.1) :: st), σ)) hq rfl rfl rfl rfl kk
-- branches
theorem e_Lstep {i : Instr} {f' : pF} (hq : p_find tab pc = some (i, len, x)) (hc : p_isC i = false) (hh : p_isH i = false) (hr : p_ret ret i st = none) (hs : pstepL pc i ls st = some f') (k : qle X (qE F en ret tab f' σ)) : qle X (qE F en ret tab (pc, ls, st) σ) := by
  refine qE_step (y := (f', σ)) hq hr ?_ k
  show qstep F en pc i x ls st σ = some (f', σ)
  unfold qstep
  rw [hc]
  dsimp only
  rw [hh]
  dsimp only
  rw [hs]
theorem e_icmp {c : Jvm.ClassFile.Cond} {off : Int} {u v : Int32} {P : Prop} [hP : Decidable P] (t : Nat) (hq : p_find tab pc = some (.if_icmp c off, len, x)) (hp : p_cnd c u v = decide P) (ht : p_tgt pc off = t) (h1 : P → qle A (qE F en ret tab (t, ls, r) σ)) (h2 : ¬ P → qle B (qE F en ret tab (pc + 3, ls, r) σ)) : qle (if P then A else B) (qE F en ret tab (pc, ls, .int v :: .int u :: r) σ) := by
  refine qle_if (fun hp' => ?_) (fun hp' => ?_)
  · refine e_Lstep (f' := (t, ls, r)) hq rfl rfl rfl ?_ (h1 hp')
    simp only [pstepL, hp, decide_eq_true hp', p_br, ht]
  · refine e_Lstep (f' := (pc + 3, ls, r)) hq rfl rfl rfl ?_ (h2 hp')
    simp only [pstepL, hp, decide_eq_false hp', p_br]
theorem e_ifz {c : Jvm.ClassFile.Cond} {off : Int} {u : Int32} {P : Prop} [hP : Decidable P] (t : Nat) (hq : p_find tab pc = some (.ifCond c off, len, x)) (hp : p_cnd c u 0 = decide P) (ht : p_tgt pc off = t) (h1 : P → qle A (qE F en ret tab (t, ls, r) σ)) (h2 : ¬ P → qle B (qE F en ret tab (pc + 3, ls, r) σ)) : qle (if P then A else B) (qE F en ret tab (pc, ls, .int u :: r) σ) := by
  refine qle_if (fun hp' => ?_) (fun hp' => ?_)
  · refine e_Lstep (f' := (t, ls, r)) hq rfl rfl rfl ?_ (h1 hp')
    simp only [pstepL, hp, decide_eq_true hp', p_br, ht]
  · refine e_Lstep (f' := (pc + 3, ls, r)) hq rfl rfl rfl ?_ (h2 hp')
    simp only [pstepL, hp, decide_eq_false hp', p_br]
theorem sw_go {D : Option qR} {v d : Int} {P : Option qR → Nat → Prop} (hD : P D (p_tgt pc d)) : ∀ (as : List (Option qR)) (os : List Int) (lo : Int), swAll P pc as os → P (swI v lo as D) (p_tgt pc (if v < lo then d else (os[(v - lo).toNat]?).getD d)) := by
  intro as
  induction as with
  | nil =>
    intro os lo h
    cases os with
    | nil =>
      show P D _
      have : (if v < lo then d else (([] : List Int)[(v - lo).toNat]?).getD d) = d := by
        split <;> simp
      rw [this]
      exact hD
    | cons o os => exact h.elim
  | cons A as ih =>
    intro os lo h
    cases os with
    | nil => exact h.elim
    | cons o os =>
      obtain ⟨h1, h2⟩ := h
      unfold swI
      by_cases hv : v = lo
      · subst hv
        rw [if_pos rfl, if_neg (by omega), Int.sub_self]
        exact h1
      · rw [if_neg hv]
        have h3 := ih os (lo + 1) h2
        by_cases hlt : v < lo
        · rw [if_pos hlt]
          rw [if_pos (by omega)] at h3
          exact h3
        · rw [if_neg hlt]
          rw [if_neg (by omega)] at h3
          rw [show (v - lo).toNat = (v - (lo + 1)).toNat + 1 by omega, List.getElem?_cons_succ]
          exact h3
theorem swAll_len {P : Option qR → Nat → Prop} : ∀ (as : List (Option qR)) (os : List Int), swAll P pc as os → as.length = os.length := by
  intro as
  induction as with
  | nil => intro os h; cases os with
    | nil => rfl
    | cons o os => exact h.elim
  | cons A as ih => intro os h; cases os with
    | nil => exact h.elim
    | cons o os => exact congrArg Nat.succ (ih os h.2)
theorem e_tsw {d lo hi : Int} {offs : Array Int} {v : Int32} {as : List (Option qR)} {D : Option qR} (hq : p_find tab pc = some (.tableswitch d lo hi offs, len, x)) (hn : ((offs.toList.length : Nat) : Int) = hi - lo + 1) (h : swAll (fun A t => qle A (qE F en ret tab (t, ls, r) σ)) pc as offs.toList) (hD : qle D (qE F en ret tab (p_tgt pc d, ls, r) σ)) : qle (swI v.toInt lo as D) (qE F en ret tab (pc, ls, .int v :: r) σ) := by
  have h1 := sw_go (pc := pc) (v := v.toInt) (d := d) (P := fun A t => qle A (qE F en ret tab (t, ls, r) σ)) hD as offs.toList lo h
  refine e_Lstep (f' := (p_tgt pc (p_sw d lo hi offs v.toInt), ls, r)) hq rfl rfl rfl rfl ?_
  have h2 : p_sw d lo hi offs v.toInt = if v.toInt < lo then d else (offs.toList[(v.toInt - lo).toNat]?).getD d := by
    unfold p_sw
    split
    · rfl
    · rename_i hlo
      split
      · rename_i hhi
        rw [List.getElem?_eq_none (by omega)]
        rfl
      · rw [Array.getElem?_toList]
  rw [h2]
  exact h1
theorem sl_go {D : Option qR} {v d : Int} {P : Option qR → Nat → Prop} (hD : P D (p_tgt pc d)) : ∀ (as : List (Int × Option qR)) (os : List (Int × Int)), swAllL P pc as os → P (swL v as D) (p_tgt pc (Op.lookupswitch.offset os d v)) := by
  intro as
  induction as with
  | nil =>
    intro os h
    cases os with
    | nil => exact hD
    | cons o os => exact h.elim
  | cons A as ih =>
    intro os h
    cases os with
    | nil => exact h.elim
    | cons o os =>
      obtain ⟨h0, h1, h2⟩ := h
      obtain ⟨k, o⟩ := o
      rw [Op.lookupswitch.offset_cons]
      unfold swL
      dsimp only at h0 h1
      by_cases hv : k = v
      · rw [if_pos (by rw [h0]; exact hv), if_pos hv]
        exact h1
      · rw [if_neg (by rw [h0]; exact hv), if_neg hv]
        exact ih os h2
theorem e_lsw {d : Int} {ps : Array (Int × Int)} {v : Int32} {as : List (Int × Option qR)} {D : Option qR} (hq : p_find tab pc = some (.lookupswitch d ps, len, x)) (h : swAllL (fun A t => qle A (qE F en ret tab (t, ls, r) σ)) pc as ps.toList) (hD : qle D (qE F en ret tab (p_tgt pc d, ls, r) σ)) : qle (swL v.toInt as D) (qE F en ret tab (pc, ls, .int v :: r) σ) :=
  e_Lstep (f' := (p_tgt pc (Op.lookupswitch.offset ps.toList d v.toInt), ls, r)) hq rfl rfl rfl rfl (sl_go (pc := pc) (v := v.toInt) (d := d) (P := fun A t => qle A (qE F en ret tab (t, ls, r) σ)) hD as ps.toList h)
theorem e_div {u v : Int32} (hq : p_find tab pc = some (.idiv, len, x)) (h0 : ¬ v = 0) (k : qle X (qE F en ret tab (pc + 1, ls, .int (u / v) :: r) σ)) : qle X (qE F en ret tab (pc, ls, .int v :: .int u :: r) σ) := by
  refine e_Lstep (f' := (pc + 1, ls, .int (u / v) :: r)) hq rfl rfl rfl ?_ k
  simp only [pstepL, pstepA, p_bin, if_neg h0]
theorem e_rem {u v : Int32} (hq : p_find tab pc = some (.irem, len, x)) (h0 : ¬ v = 0) (k : qle X (qE F en ret tab (pc + 1, ls, .int (u - u / v * v) :: r) σ)) : qle X (qE F en ret tab (pc, ls, .int v :: .int u :: r) σ) := by
  refine e_Lstep (f' := (pc + 1, ls, .int (u - u / v * v) :: r)) hq rfl rfl rfl ?_ k
  simp only [pstepL, pstepA, p_bin, if_neg h0]
theorem e_nR {v ci : Nat} {K : Nat → Option qR} (hc : lc v = ci) (h : ∀ w : Nat, lc w = ci → qle (K w) (qE F en ret tab (pc, ls, .ref w :: r) σ)) : qle (nm v K) (qE F en ret tab (pc, ls, .ref v :: r) σ) := h v hc
-- ends
theorem e_rI {v : Int32} (hq : p_find tab pc = some (.ireturn, len, x)) (hr : ret = some .int) : qle (some (some (.int v), σ)) (qE F en ret tab (pc, ls, [.int v]) σ) := qE_ret hq (by rw [hr]; rfl)
theorem e_rZ {v : Int32} (hq : p_find tab pc = some (.ireturn, len, x)) (hr : ret = some .boolean) (hv : v = 0 ∨ v = 1) : qle (some (some (.int v), σ)) (qE F en ret tab (pc, ls, [.int v]) σ) := qE_ret hq (by rw [hr]; simp only [p_ret]; rw [if_pos hv])
theorem e_rC {v : Int32} (hq : p_find tab pc = some (.ireturn, len, x)) (hr : ret = some .char) (hv : narrow .char (.int v) = .int v) : qle (some (some (.int v), σ)) (qE F en ret tab (pc, ls, [.int v]) σ) := qE_ret hq (by rw [hr]; simp only [p_ret]; rw [if_pos hv])
theorem e_rB {v : Int32} (hq : p_find tab pc = some (.ireturn, len, x)) (hr : ret = some .byte) (hv : narrow .byte (.int v) = .int v) : qle (some (some (.int v), σ)) (qE F en ret tab (pc, ls, [.int v]) σ) := qE_ret hq (by rw [hr]; simp only [p_ret]; rw [if_pos hv])
theorem e_rV (hq : p_find tab pc = some (.return_, len, x)) (hr : ret = none) : qle (some (none, σ)) (qE F en ret tab (pc, ls, []) σ) := qE_ret hq (by rw [hr]; rfl)
-- names
theorem e_nS {τ : qS} {f : pF} {K : qS → Option qR} (h : ∀ τ' : qS, qle (K τ') (qE F en ret tab f τ')) : qle (nm τ K) (qE F en ret tab f τ) := h τ
theorem e_nI {v : Int32} {K : Int32 → Option qR} (h : ∀ w : Int32, qle (K w) (qE F en ret tab (pc, ls, .int w :: r) σ)) : qle (nm v K) (qE F en ret tab (pc, ls, .int v :: r) σ) := h v
theorem e_nJ {v : Int64} {K : Int64 → Option qR} (h : ∀ w : Int64, qle (K w) (qE F en ret tab (pc, ls, .long w :: r) σ)) : qle (nm v K) (qE F en ret tab (pc, ls, .long v :: r) σ) := h v
-- calls
theorem e_vI {M : pM} {idx : Nat} {as : List Value} {v : Value} {K : Int32 → qS → Option qR} (y : Nat) (hq : p_find tab pc = some (.invokevirtual idx, len, x)) (hy : x.1.toNat = y) (hM : msL[y]? = some M) (ha : p_args M.2.2.2.2.1 st = some (as, v :: r)) (hv : q_recv M.2.2.2.2.2.2.1 v = true) (hr : p_cats r ≤ 8) (kk : ∀ (w : Int32) (τ : qS), F y (v :: as) σ = some (some (.int w), τ) → qle (K w τ) (qE F en ret tab (pc + 3, ls, .int w :: r) τ)) : qle (bI (F y (v :: as) σ) K) (qE F en ret tab (pc, ls, st) σ) := by
  refine qle_bI fun w τ hw => ?_
  refine e_C (y := ((pc + 3, ls, .int w :: r), τ)) hq rfl rfl ?_ (kk w τ hw)
  simp only [qstepC, hy, hM, ha]
  rw [if_pos ⟨hv, hr⟩, hw]
  rfl
theorem e_vV {M : pM} {idx : Nat} {as : List Value} {v : Value} {K : qS → Option qR} (y : Nat) (hq : p_find tab pc = some (.invokevirtual idx, len, x)) (hy : x.1.toNat = y) (hM : msL[y]? = some M) (ha : p_args M.2.2.2.2.1 st = some (as, v :: r)) (hv : q_recv M.2.2.2.2.2.2.1 v = true) (hr : p_cats r ≤ 8) (kk : ∀ (τ : qS), F y (v :: as) σ = some (none, τ) → qle (K τ) (qE F en ret tab (pc + 3, ls, r) τ)) : qle (bV (F y (v :: as) σ) K) (qE F en ret tab (pc, ls, st) σ) := by
  refine qle_bV fun τ hw => ?_
  refine e_C (y := ((pc + 3, ls, r), τ)) hq rfl rfl ?_ (kk τ hw)
  simp only [qstepC, hy, hM, ha]
  rw [if_pos ⟨hv, hr⟩, hw]
  rfl
theorem e_sI {M : pM} {idx : Nat} {as : List Value} {K : Int32 → qS → Option qR} (y : Nat) (hq : p_find tab pc = some (.invokestatic idx, len, x)) (h2 : decide (x.1 = -2) = false) (hy : x.1.toNat = y) (hM : msL[y]? = some M) (ha : p_args M.2.2.2.2.1 st = some (as, r)) (hr : p_cats r ≤ 8) (kk : ∀ (w : Int32) (τ : qS), F y as σ = some (some (.int w), τ) → qle (K w τ) (qE F en ret tab (pc + 3, ls, .int w :: r) τ)) : qle (bI (F y as σ) K) (qE F en ret tab (pc, ls, st) σ) := by
  refine qle_bI fun w τ hw => ?_
  refine e_C (y := ((pc + 3, ls, .int w :: r), τ)) hq rfl rfl ?_ (kk w τ hw)
  simp only [qstepC, hy, hM, ha]
  rw [if_neg (of_decide_eq_false h2), if_pos hr, hw]
  rfl
theorem e_sV {M : pM} {idx : Nat} {as : List Value} {K : qS → Option qR} (y : Nat) (hq : p_find tab pc = some (.invokestatic idx, len, x)) (h2 : decide (x.1 = -2) = false) (hy : x.1.toNat = y) (hM : msL[y]? = some M) (ha : p_args M.2.2.2.2.1 st = some (as, r)) (hr : p_cats r ≤ 8) (kk : ∀ (τ : qS), F y as σ = some (none, τ) → qle (K τ) (qE F en ret tab (pc + 3, ls, r) τ)) : qle (bV (F y as σ) K) (qE F en ret tab (pc, ls, st) σ) := by
  refine qle_bV fun τ hw => ?_
  refine e_C (y := ((pc + 3, ls, r), τ)) hq rfl rfl ?_ (kk τ hw)
  simp only [qstepC, hy, hM, ha]
  rw [if_neg (of_decide_eq_false h2), if_pos hr, hw]
  rfl
abbrev cpG (sp dp n : Int32) (n0 n1 : Nat) : Prop := (¬ sp < 0 ∧ ¬ dp < 0 ∧ ¬ n < 0) ∧ (sp.toNatClampNeg + n.toNatClampNeg ≤ n0 ∧ dp.toNatClampNeg + n.toNatClampNeg ≤ n1)
theorem e_cpI {idx n0 n1 a0 a1 : Nat} {sp dp n : Int32} (hq : p_find tab pc = some (.invokestatic idx, len, x)) (h2 : x.1 = -2) (hr : p_cats r ≤ 8) (hc : lc a0 = 20 ∧ lc a1 = 20) (hn0 : ln a0 = n0) (hn1 : ln a1 = n1) (hg : cpG sp dp n n0 n1) (kk : qle X (qE F en ret tab (pc + 3, ls, r) (uIr σ a1 (va_cpy (σ.1 a0) (σ.1 a1) sp.toNatClampNeg dp.toNatClampNeg n.toNatClampNeg)))) : qle X (qE F en ret tab (pc, ls, .int n :: .int dp :: .ref a1 :: .int sp :: .ref a0 :: r) σ) := by
  subst hn0; subst hn1
  refine e_C (y := ((pc + 3, ls, r), uIr σ a1 (va_cpy (σ.1 a0) (σ.1 a1) sp.toNatClampNeg dp.toNatClampNeg n.toNatClampNeg))) hq rfl rfl ?_ kk
  have e1 : q_copy (.int n :: .int dp :: .ref a1 :: .int sp :: .ref a0 :: r) σ = some (r, uIr σ a1 (va_cpy (σ.1 a0) (σ.1 a1) sp.toNatClampNeg dp.toNatClampNeg n.toNatClampNeg)) := by
    unfold q_copy
    dsimp only
    rw [if_pos ⟨hg.1, hr, hg.2⟩, if_pos hc]
  simp only [qstepC]
  rw [if_pos h2, e1]
theorem e_cpJ {idx n0 n1 a0 a1 : Nat} {sp dp n : Int32} (hq : p_find tab pc = some (.invokestatic idx, len, x)) (h2 : x.1 = -2) (hr : p_cats r ≤ 8) (hc : lc a0 = 21 ∧ lc a1 = 21) (hn0 : ln a0 = n0) (hn1 : ln a1 = n1) (hg : cpG sp dp n n0 n1) (kk : qle X (qE F en ret tab (pc + 3, ls, r) (uJr σ a1 (va_cpy (σ.2.1 a0) (σ.2.1 a1) sp.toNatClampNeg dp.toNatClampNeg n.toNatClampNeg)))) : qle X (qE F en ret tab (pc, ls, .int n :: .int dp :: .ref a1 :: .int sp :: .ref a0 :: r) σ) := by
  subst hn0; subst hn1
  refine e_C (y := ((pc + 3, ls, r), uJr σ a1 (va_cpy (σ.2.1 a0) (σ.2.1 a1) sp.toNatClampNeg dp.toNatClampNeg n.toNatClampNeg))) hq rfl rfl ?_ kk
  have e1 : q_copy (.int n :: .int dp :: .ref a1 :: .int sp :: .ref a0 :: r) σ = some (r, uJr σ a1 (va_cpy (σ.2.1 a0) (σ.2.1 a1) sp.toNatClampNeg dp.toNatClampNeg n.toNatClampNeg)) := by
    unfold q_copy
    dsimp only
    rw [if_pos ⟨hg.1, hr, hg.2⟩, if_neg (fun z => by omega), if_pos hc]
  simp only [qstepC]
  rw [if_pos h2, e1]
/-- a method called: its text from its first instruction on -/
theorem e_enter {d y : Nat} {as : List Value} {M : pM} (hM : msL[y]? = some M) (hl : (lg_sl as).length ≤ M.2.2.1) (k : qle X (qE (qev en d) en M.2.2.2.1 M.2.2.2.2.2.2.2.2 (0, lv_args 0 as, []) σ)) : qle X (qev en (d + 1) y as σ) := by
  have e1 : qev en (d + 1) y as σ = qE (qev en d) en M.2.2.2.1 M.2.2.2.2.2.2.2.2 (0, lv_args 0 as, []) σ := by
    show (match msL[y]? with
      | none => none
      | some M => if (lg_sl as).length ≤ M.2.2.1 then qE (qev en d) en M.2.2.2.1 M.2.2.2.2.2.2.2.2 (0, lv_args 0 as, []) σ else none) = _
    rw [hM]
    dsimp only
    rw [if_pos hl]
  rw [e1]
  exact k
end QI
