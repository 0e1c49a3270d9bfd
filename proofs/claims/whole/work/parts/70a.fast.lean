/-! THE TABLES FIT, quicker: the words looked up by the lists that the tables are made of. -/
def lkL : List (Nat × List Cond) → Nat → Option Cond
  | [], _ => none
  | q :: r, i => if i < q.1 then q.2[i]? else lkL r (i - q.1)
theorem lkL_app {n : Nat} {l b : List Cond} {r : List (Nat × List Cond)} (h : l.length = n) (hr : ∀ i : Nat, b[i]? = lkL r i) : ∀ i : Nat, (l ++ b)[i]? = lkL ((n, l) :: r) i := by
  intro i
  unfold lkL
  dsimp only
  by_cases hi : i < n
  · rw [if_pos hi, List.getElem?_append_left (by omega)]
  · rw [if_neg hi, List.getElem?_append_right (by omega), h]
    exact hr (i - n)
theorem lkL_one {n : Nat} {l : List Cond} (h : l.length = n) : ∀ i : Nat, l[i]? = lkL [(n, l)] i := by
  intro i
  unfold lkL lkL
  dsimp only
  by_cases hi : i < n
  · rw [if_pos hi]
  · rw [if_neg hi, List.getElem?_eq_none (by omega)]
def lkQ : List (Nat × List Cond) := [(226, k2_sels lw_privs), (240, tables_1_1), (240, tables_1_2), (240, tables_1_3), (240, tables_1_4), (240, tables_1_5), (240, tables_1_6), (240, tables_1_7), (240, tables_1_8), (240, tables_1_9), (240, tables_1_10), (240, tables_1_11), (240, tables_1_12), (51, tables_1_13)]
set_option maxRecDepth 100000 in
theorem len_tables_1_1 : tables_1_1.length = 240 := by decide +kernel
set_option maxRecDepth 100000 in
theorem len_tables_1_2 : tables_1_2.length = 240 := by decide +kernel
set_option maxRecDepth 100000 in
theorem len_tables_1_3 : tables_1_3.length = 240 := by decide +kernel
set_option maxRecDepth 100000 in
theorem len_tables_1_4 : tables_1_4.length = 240 := by decide +kernel
set_option maxRecDepth 100000 in
theorem len_tables_1_5 : tables_1_5.length = 240 := by decide +kernel
set_option maxRecDepth 100000 in
theorem len_tables_1_6 : tables_1_6.length = 240 := by decide +kernel
set_option maxRecDepth 100000 in
theorem len_tables_1_7 : tables_1_7.length = 240 := by decide +kernel
set_option maxRecDepth 100000 in
theorem len_tables_1_8 : tables_1_8.length = 240 := by decide +kernel
set_option maxRecDepth 100000 in
theorem len_tables_1_9 : tables_1_9.length = 240 := by decide +kernel
set_option maxRecDepth 100000 in
theorem len_tables_1_10 : tables_1_10.length = 240 := by decide +kernel
set_option maxRecDepth 100000 in
theorem len_tables_1_11 : tables_1_11.length = 240 := by decide +kernel
set_option maxRecDepth 100000 in
theorem len_tables_1_12 : tables_1_12.length = 240 := by decide +kernel
set_option maxRecDepth 100000 in
theorem len_tables_1_13 : tables_1_13.length = 51 := by decide +kernel
set_option maxRecDepth 100000 in
theorem len_sels : (k2_sels lw_privs).length = 226 := by decide +kernel
theorem lk_eq (i : Nat) : lw_tbl[i]? = lkL lkQ i := lkL_app len_sels (lkL_app len_tables_1_1 (lkL_app len_tables_1_2 (lkL_app len_tables_1_3 (lkL_app len_tables_1_4 (lkL_app len_tables_1_5 (lkL_app len_tables_1_6 (lkL_app len_tables_1_7 (lkL_app len_tables_1_8 (lkL_app len_tables_1_9 (lkL_app len_tables_1_10 (lkL_app len_tables_1_11 (lkL_app len_tables_1_12 (lkL_one len_tables_1_13))))))))))))) i
def wd2 (i : Nat) (w : Cond) : Bool := decide (lkL lkQ i = some w) && goodWord w
theorem wd_wd2 : wd = wd2 := by
  funext i w
  unfold wd wd2
  rw [lk_eq]
def lnkG (W : Nat → Cond → Bool) (own : String) (init : Bool) (i : Instr) (x : pX) : Bool := match i with
  | .getfield idx => if x.1 = -1 then (if x.2.1 = 0 then W x.2.2 (.fieldLink own idx "java/lang/String" "coder" "B") else W x.2.2 (.fieldLink own idx "java/lang/String" "value" "[B")) else (match vwCl[x.1.toNat]? with
    | some r => decide (x.2.1 < r.2.2) && W x.2.2 (.fieldLink own idx (r.2.1 x.2.1).1 (r.2.1 x.2.1).2.1 (r.2.1 x.2.1).2.2.1)
    | none => false)
  | .putfield idx => match vwCl[x.1.toNat]? with
    | some r => decide (x.2.1 < r.2.2) && (W x.2.2 (.fieldLink own idx (r.2.1 x.2.1).1 (r.2.1 x.2.1).2.1 (r.2.1 x.2.1).2.2.1) && (decide ((r.2.1 x.2.1).2.2.2 = false) || (decide ((r.2.1 x.2.1).2.2.2 = true) && (init && decide ((r.2.1 x.2.1).1 = own)))))
    | none => false
  | .getstatic idx => match stL[x.2.1]? with
    | some q => W x.2.2 (.fieldLink own idx q.1 q.2.1 q.2.2.1)
    | none => false
  | .ldc idx => if x.2.1 = 0 then W x.2.2 (.constant own idx (Int32.ofInt x.1)) else decide (x.2.1 ≤ 3) && (decide (stOwn (x.2.1 - 1) = own) && decide (stIdx (x.2.1 - 1) = idx))
  | .ldc_w idx => W x.2.2 (.constant own idx (Int32.ofInt x.1))
  | .ldc2_w idx => W x.2.2 (.constantLong own idx (Int64.ofInt x.1))
  | .new idx => match vwCl[x.1.toNat]? with
    | some r => W x.2.2 (.classLink own idx r.1) && (W (clP x.1.toNat).1 (.instantiable r.1 r.2.2) && W (clP x.1.toNat).2 (.initialized r.1))
    | none => false
  | .newarray t => match p_aty t with
    | some k => W x.2.2 (.arrayClass (aTy k))
    | none => false
  | .multianewarray idx dd => decide (dd = 2) && (W x.2.2 (.classLink own idx "[[I") && W x.2.1 (.arrayClass .int))
  | _ => true
def lnkCG (W : Nat → Cond → Bool) (ms : List pM) (own : String) (i : Instr) (x : pX) : Bool := match i with
  | .invokevirtual idx => match ms[x.1.toNat]? with
    | some M => decide (M.2.2.2.2.2.1 = 0) && W x.2.2 (.methodLink own idx M.1)
    | none => false
  | .invokestatic idx => if x.1 = -2 then W x.2.2 (.methodLink own idx arraycopyName) else (match ms[x.1.toNat]? with
    | some M => decide (M.2.2.2.2.2.1 = 1) && W x.2.2 (.methodLink own idx M.1)
    | none => false)
  | .invokespecial idx => if x.1 = -1 then W x.2.2 (.methodLink own idx Lib.objectInit) else (match ms[x.1.toNat]? with
    | some M => decide (M.2.2.2.2.2.1 = 2) && (if x.2.1 = 0 then W x.2.2 (.methodLink own idx M.1) else decide (nestL[x.2.2]? = some (.methodLinkNest own idx M.1 "TurnHouse")))
    | none => false)
  | _ => true
def mOKG (W : Nat → Cond → Bool) (ms : List pM) (M : pM) : Bool := match M with
  | (y, bytes, maxL, ret, n, kind, ci, (p0, p1, p2, p3), tab) =>
    (W p0 (.code y bytes maxL ret) && (plainName y.cls && (decide (y.cls ≠ "java/lang/invoke/MethodHandle" ∧ y.cls ≠ "java/lang/invoke/VarHandle" ∧ (parseMethodDescriptor y.desc).map (fun d => d.parameters.length) = some n) && (decide (maxL ≤ 21) && W p3 (.initialized y.cls))))) &&
    ((if kind = 1 then W p1 (.static y) else W p1 (.instanceMethod y)) && ((if kind = 0 then W p2 (.selects y.cls y y) && (match vwCl[ci]? with
      | some r => decide (r.1 = y.cls)
      | none => decide (ci = 13) && decide (y.cls = "java/lang/String")) else true) && (if kind = 2 then decide (y.name = "<init>") && decide (ret = none) else true))) &&
    tab.all (fun q => decide (decode bytes q.1 = .ok (q.2.1, q.2.2.1)) && (p_ok maxL q.1 q.2.1 q.2.2.1 && ( lnkG W y.cls (decide (kind = 2)) q.2.1 q.2.2.2 && lnkCG W ms y.cls q.2.1 q.2.2.2)))
theorem lnkG_wd : lnkG wd = lnk := by
  funext own init i x
  cases i <;> rfl
theorem lnkCG_wd : lnkCG wd = lnkC := by
  funext ms own i x
  cases i <;> rfl
theorem mOKG_wd : mOKG wd = mOK := by
  funext ms M
  obtain ⟨y, bytes, maxL, ret, n, kind, ci, ⟨p0, p1, p2, p3⟩, tab⟩ := M
  unfold mOKG mOK
  rw [lnkG_wd, lnkCG_wd]
  rfl
def wd3 (i : Nat) (w : Cond) : Bool := match w with
  | .code _ _ _ _ => goodWord w
  | _ => wd2 i w
theorem lnkG_wd3 : lnkG wd3 = lnkG wd2 := by
  funext own init i x
  cases i <;> rfl
theorem lnkCG_wd3 : lnkCG wd3 = lnkCG wd2 := by
  funext ms own i x
  cases i <;> rfl
theorem mOK_of3 {y : MethodName} {bytes : ByteArray} {maxL : Nat} {ret : Option FieldType} {n kind ci p0 p1 p2 p3 : Nat} {tab : List pI} (hc : lkL lkQ p0 = some (.code y bytes maxL ret)) (h : mOKG wd3 msL (y, bytes, maxL, ret, n, kind, ci, (p0, p1, p2, p3), tab) = true) : mOK msL (y, bytes, maxL, ret, n, kind, ci, (p0, p1, p2, p3), tab) = true := by
  have e : wd2 p0 (.code y bytes maxL ret) = wd3 p0 (.code y bytes maxL ret) := by
    show (decide (lkL lkQ p0 = some (.code y bytes maxL ret)) && goodWord (.code y bytes maxL ret)) = goodWord (.code y bytes maxL ret)
    rw [decide_eq_true hc]
    rfl
  rw [← mOKG_wd, wd_wd2]
  unfold mOKG at h ⊢
  dsimp only at h ⊢
  rw [lnkG_wd3, lnkCG_wd3] at h
  rw [e]
  exact h
theorem mOK_app {ms : List pM} {y : MethodName} {bytes : ByteArray} {maxL : Nat} {ret : Option FieldType} {n kind ci : Nat} {ps : Nat × Nat × Nat × Nat} {t1 t2 : List pI} (h1 : mOK ms (y, bytes, maxL, ret, n, kind, ci, ps, t1) = true) (h2 : mOK ms (y, bytes, maxL, ret, n, kind, ci, ps, t2) = true) : mOK ms (y, bytes, maxL, ret, n, kind, ci, ps, t1 ++ t2) = true := by
  obtain ⟨p0, p1, p2, p3⟩ := ps
  unfold mOK at h1 h2 ⊢
  obtain ⟨a1, b1⟩ := (Bool.and_eq_true _ _).mp h1
  obtain ⟨a2, b2⟩ := (Bool.and_eq_true _ _).mp h2
  exact (Bool.and_eq_true _ _).mpr ⟨a1, by rw [List.all_append, b1, b2]; rfl⟩
