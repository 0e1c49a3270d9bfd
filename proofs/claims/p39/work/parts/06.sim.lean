/-! CALLS AND RUNS OF THE SMALL MACHINE; the machine does what it does (met_of). -/
def p_args (n : Nat) (st : List Value) : Option (List Value × List Value) := if n ≤ st.length then some ((st.take n).reverse, st.drop n) else none
def p_cats (st : List Value) : Nat := (st.map fun v => v.category).sum
def p_recv (h : pH) (ci : Nat) (v : Value) : Bool := match v with
  | .ref a => decide (a < h.1) && (match h.2.2 a with
    | .inr (cj, _) => decide (cj = ci)
    | _ => false)
  | .retAddr q => decide (1 ≤ q ∧ q ≤ 3) && decide (ci = 13)
  | _ => false
abbrev pFn : Type := Nat → List Value → pH → Option pR
/-- calls -/
def pstepC (ms : List pM) (F : pFn) (pc : Nat) (i : Instr) (x : pX) (ls : List (Nat × Value)) (st : List Value) (h : pH) : Option (pF × pH) := match i with
  | .invokevirtual _ => match ms[x.1.toNat]? with
    | some M => match p_args M.2.2.2.2.1 st with
      | some (as, v :: r) => if p_recv h M.2.2.2.2.2.2.1 v = true ∧ p_cats r ≤ 8 then (match F x.1.toNat (v :: as) h with
        | some (w, h') => some ((pc + 3, ls, w.toList ++ r), h')
        | none => none) else none
      | _ => none
    | none => none
  | .invokestatic _ => if x.1 = -2 then (match p_copy st h with
      | some y => some ((pc + 3, ls, y.1), y.2)
      | none => none) else (match ms[x.1.toNat]? with
    | some M => match p_args M.2.2.2.2.1 st with
      | some (as, r) => if p_cats r ≤ 8 then (match F x.1.toNat as h with
        | some (w, h') => some ((pc + 3, ls, w.toList ++ r), h')
        | none => none) else none
      | none => none
    | none => none)
  | .invokespecial _ => if x.1 = -1 then (match st with
      | .ref _ :: r => if p_cats r ≤ 8 then some ((pc + 3, ls, r), h) else none
      | _ => none) else (match ms[x.1.toNat]? with
    | some M => match p_args M.2.2.2.2.1 st with
      | some (as, .ref a :: r) => if p_cats r ≤ 8 then (match F x.1.toNat (.ref a :: as) h with
        | some (w, h') => some ((pc + 3, ls, w.toList ++ r), h')
        | none => none) else none
      | _ => none
    | none => none)
  | _ => none
def lnkC (ms : List pM) (own : String) (i : Instr) (x : pX) : Bool := match i with
  | .invokevirtual idx => match ms[x.1.toNat]? with
    | some M => decide (M.2.2.2.2.2.1 = 0) && wd x.2.2 (.methodLink own idx M.1)
    | none => false
  | .invokestatic idx => if x.1 = -2 then wd x.2.2 (.methodLink own idx arraycopyName) else (match ms[x.1.toNat]? with
    | some M => decide (M.2.2.2.2.2.1 = 1) && wd x.2.2 (.methodLink own idx M.1)
    | none => false)
  | .invokespecial idx => if x.1 = -1 then wd x.2.2 (.methodLink own idx Lib.objectInit) else (match ms[x.1.toNat]? with
    | some M => decide (M.2.2.2.2.2.1 = 2) && (if x.2.1 = 0 then wd x.2.2 (.methodLink own idx M.1) else decide (nestL[x.2.2]? = some (.methodLinkNest own idx M.1 "TurnHouse")))
    | none => false)
  | _ => true
/-- what a method returns -/
def p_ret (ret : Option FieldType) (i : Instr) (st : List Value) : Option (Option Value) := match i with
  | .ireturn => match st with
    | [.int v] => match ret with
      | some .int => some (some (.int v))
      | some .boolean => if v = 0 ∨ v = 1 then some (some (.int v)) else none
      | some .char => if narrow .char (.int v) = .int v then some (some (.int v)) else none
      | some .byte => if narrow .byte (.int v) = .int v then some (some (.int v)) else none
      | _ => none
    | _ => none
  | .lreturn => match st with
    | [.long v] => match ret with
      | some .long => some (some (.long v))
      | _ => none
    | _ => none
  | .areturn => match st with
    | [.ref a] => match ret with
      | some (.array _) => some (some (.ref a))
      | _ => none
    | _ => none
  | .return_ => match st with
    | [] => match ret with
      | none => some none
      | _ => none
    | _ => none
  | _ => none
def p_isH : Instr → Bool
  | .getfield _ => true
  | .putfield _ => true
  | .getstatic _ => true
  | .iaload => true
  | .laload => true
  | .baload => true
  | .aaload => true
  | .arraylength => true
  | .iastore => true
  | .lastore => true
  | .bastore => true
  | .new _ => true
  | .newarray _ => true
  | .multianewarray _ _ => true
  | .ldc _ => true
  | .ldc_w _ => true
  | .ldc2_w _ => true
  | _ => false
def p_isC : Instr → Bool
  | .invokevirtual _ => true
  | .invokestatic _ => true
  | .invokespecial _ => true
  | _ => false
def pstep (ms : List pM) (F : pFn) (en : pN) (pc : Nat) (i : Instr) (x : pX) (ls : List (Nat × Value)) (st : List Value) (h : pH) : Option (pF × pH) :=
  match p_isC i with
  | true => pstepC ms F pc i x ls st h
  | false => match p_isH i with
    | true => pstepH en pc i x ls st h
    | false => match pstepL pc i ls st with
      | some f => some (f, h)
      | none => none
/-- a run of at most n steps -/
def prun (ms : List pM) (F : pFn) (en : pN) (ret : Option FieldType) (tab : List pI) : Nat → pF → pH → Option pR
  | 0, _, _ => none
  | n + 1, f, h => match p_find tab f.1 with
    | none => none
    | some q => match p_ret ret q.1 f.2.2 with
      | some v => some (v, h)
      | none => match pstep ms F en f.1 q.1 q.2.2 f.2.1 f.2.2 h with
        | some y => prun ms F en ret tab n y.1 y.2
        | none => none
/-- what can be checked of a method by the tables -/
def mOK (ms : List pM) (M : pM) : Bool := match M with
  | (y, bytes, maxL, ret, n, kind, ci, (p0, p1, p2, p3), tab) =>
    (wd p0 (.code y bytes maxL ret) && (plainFor y && (decide (y.cls ≠ "java/lang/invoke/MethodHandle" ∧ y.cls ≠ "java/lang/invoke/VarHandle" ∧ (parseMethodDescriptor y.desc).map (fun d => d.parameters.length) = some n) && (decide (maxL ≤ 21) && wd p3 (.initialized y.cls))))) &&
    ((if kind = 1 then wd p1 (.static y) else wd p1 (.instanceMethod y)) && ((if kind = 0 then wd p2 (.selects y.cls y y) && (match vwCl[ci]? with
      | some r => decide (r.1 = y.cls)
      | none => decide (ci = 13) && decide (y.cls = "java/lang/String")) else true) && (if kind = 2 then decide (y.name = "<init>") && decide (ret = none) else true))) &&
    tab.all (fun q => decide (decode bytes q.1 = .ok (q.2.1, q.2.2.1)) && (p_ok maxL q.1 q.2.1 q.2.2.1 && (lnk y.cls (decide (kind = 2)) q.2.1 q.2.2.2 && lnkC ms y.cls q.2.1 q.2.2.2)))
def wsM (M : pM) : List Cond := .code M.1 M.2.1 M.2.2.1 M.2.2.2.1 :: gT
def rmd (d mc ms : Nat) : Room := { frames := d + 1, cells := mc, slots := ms, locals := 40 * (d + 1) }
def sPre (D : va_G) (cA : Nat → ClassId) (b : Nat) (o : Nat → Nat) (en : pN) (as : List Value) (h : pH) : Array Value → State → Prop := fun v U => v = (rS b o as).toArray ∧ sRep D cA b o h U.heap ∧ va_K D vwCl (tysL cA) U ∧ sEnv en b o U U.heap
def sPost (D : va_G) (cA : Nat → ClassId) (b : Nat) (o : Nat → Nat) (r : Option Value) (h' : pH) : Array Value → State → Outcome → State → Prop := fun _ st oc t => oc = .returned (r.map (rV b o)) ∧ sRep D cA b o h' t.heap ∧ va_F (fun q => b ≤ q) st t
/-- a function of the small machine that the machine does, with d frames -/
def sF (l : Launch) (D : va_G) (cA : Nat → ClassId) (b : Nat) (o : Nat → Nat) (en : pN) (ms : List pM) (d : Nat) (F : pFn) : Prop := ∀ (y : Nat) (as : List Value) (h : pH) (r : Option Value) (h' : pH), F y as h = some (r, h') → (h.1 ≤ h'.1 ∧ h.2.1 ≤ h'.2.1) ∧ ∀ M : pM, ms[y]? = some M → Met l M.1 (wsM M) (rmd d (h'.1 - h.1) (h'.2.1 - h.2.1)) (sPre D cA b o en as h) (sPost D cA b o r h') (h'.1 - h.1) (h'.2.1 - h.2.1) (fun q => b ≤ q)
theorem rS_app (b : Nat) (o : Nat → Nat) (l1 l2 : List Value) : rS b o (l1 ++ l2) = rS b o l1 ++ rS b o l2 := List.map_append
theorem rS_rev (b : Nat) (o : Nat → Nat) (l : List Value) : rS b o l.reverse = (rS b o l).reverse := List.map_reverse
theorem rS_cats (b : Nat) (o : Nat → Nat) (l : List Value) : ((rS b o l).map fun v => v.category).sum = p_cats l := by
  unfold rS p_cats
  rw [List.map_map]
  congr 1
  apply List.map_congr_left
  intro v _
  exact rV_cat b o v
theorem p_args_spec {n : Nat} {st as r : List Value} (h : p_args n st = some (as, r)) : st = as.reverse ++ r ∧ as.length = n := by
  unfold p_args at h
  split at h
  · rename_i hn
    cases h
    exact ⟨by rw [List.reverse_reverse, List.take_append_drop], by rw [List.length_reverse, List.length_take]; omega⟩
  · cases h
theorem sPre_blind {D : va_G} {cA : Nat → ClassId} {b : Nat} {o : Nat → Nat} {en : pN} {as : List Value} {h : pH} : FrameBlind (sPre D cA b o en as h) := fun a U g mk q => ⟨q.1, q.2.1, va_K.moved (u := U) (U := U.calling g mk a) (Vm.Alike.refl U.vm) q.2.2.1, sEnv.same (u := U) (U := U.calling g mk a) rfl rfl q.2.2.2⟩
section SIMC
variable {p : Program} {l : Launch} {e : Env} {R : Room} {s : State} {m : MethodId} {args : Array Value} {below : List Frame} {meth : Method} {c : Code} {H : Heap} {locs : List Loc} {cells slots : Nat} {Q : State → Prop} {cc : ByteArray}
variable {D : va_G} {cA : Nat → ClassId} {en : pN} {b : Nat} {o : Nat → Nat} {ms : List pM}
theorem s_call {pc mc ns : Nat} {LS : Array Slot} {st0 rest : List Value} {a : Array Value} {r : Option Value} {h' : pH} (hr : va_Run p l e R s m args below meth c H locs cells slots mc ns (F0 m pc LS st0) rest (sPost D cA b o r h' a) (fun q => b ≤ q)) (hS : va_S (fun q => b ≤ q) s.heap H locs)
    (kk : ∀ (H1 : Heap) (locs1 : List Loc), sRep D cA b o h' H1 → va_S (fun q => b ≤ q) s.heap H1 locs1 → W p l e R s m args below meth c H1 locs1 (cells + mc) (slots + ns) Q (F0 m (pc + 3) LS ((r.map (rV b o)).toList ++ rest))) : W p l e R s m args below meth c H locs cells slots Q (F0 m pc LS st0) := by
  intro T hT X
  obtain ⟨v, st₀, t, T', L, h0, X', hL, e1, e2, ⟨hv, hRp, hz, hk⟩, st⟩ := hr T hT X
  cases hv
  rw [h0] at hz hk
  obtain ⟨t2, a1, b1⟩ := kk T'.heap (locs ++ L) (by rw [e1]; exact hRp)
    ⟨Nat.le_trans hS.1 (by rw [e1]; exact hz), fun q h1 h2 => by rw [e1, hk q (Nat.lt_of_lt_of_le h1 hS.1) h2]; exact hS.2.1 q h1 h2, fun q hq => by
      rcases List.mem_append.mp hq with h | h
      · exact hS.2.2 q h
      · exact hL q h⟩ T' rfl X'
  exact ⟨t2, st t2 a1, b1⟩
theorem aoB_spec {u : State} (h : (Cond.arrayOver (.array .int)).before #[] u = true) :
    ∃ comp c k, u.vm.findClass (FieldType.array .int).toString = some comp ∧ (u.vm.classes.findIdx? fun (x : Class) => match x.kind with | .array component _ => component == comp | _ => false) = some c ∧ u.vm.classes[c]? = some k ∧ k.kind = .array comp (.array .int) ∧ u.vm.findClass ("[" ++ (FieldType.array .int).toString) = some c := by
  simp only [Cond.before, Cond.holds, Cond.value, beq_iff_eq] at h
  cases hc : u.vm.findClass (FieldType.array .int).toString with
  | none => simp [hc] at h
  | some comp =>
    simp only [hc, Option.bind_some, Option.bind_eq_some_iff, Option.map_eq_some_iff] at h
    obtain ⟨c, hi, k, hk, hb⟩ := h
    obtain ⟨hlt, hp, -⟩ := Array.findIdx?_eq_some_iff_getElem.mp hi
    have hkk : u.vm.classes[c] = k := (Array.getElem?_eq_some_iff.mp hk).2
    rw [hkk] at hp
    cases hkind : k.kind with
    | array component ty =>
      rw [hkind] at hb hp
      simp at hb hp
      exact ⟨comp, c, k, rfl, hi, hk, by rw [hkind, hp, hb.1], hb.2⟩
    | _ => rw [hkind] at hb; simp at hb
theorem aoB_moved {u U : State} (hvm : u.vm.Alike U.vm) (h : (Cond.arrayOver (.array .int)).before #[] u = true) : (Cond.arrayOver (.array .int)).before #[] U = true := by
  obtain ⟨comp, c, k, h1, h2, h3, h4, h5⟩ := aoB_spec h
  obtain ⟨k', hk', he⟩ := hvm.2.2 _ _ h3
  have hi : (U.vm.classes.findIdx? fun (x : Class) => match x.kind with | .array component _ => component == comp | _ => false) = some c := by
    exact ((hvm.findIdx?_eqK _ (fun _ => rfl)).trans h2)
  have hkind : k'.kind = .array comp (.array .int) := by rw [he]; exact h4
  have f1 : U.vm.findClass (FieldType.array .int).toString = some comp := by rw [hvm.findClass]; exact h1
  have f2 : U.vm.findClass ("[" ++ (FieldType.array .int).toString) = some c := by rw [hvm.findClass]; exact h5
  unfold Cond.before Cond.holds
  simp only [Cond.value]
  rw [f1, Option.bind_some]
  refine (congrArg (fun o : Option Nat => (o.bind (fun c => (U.vm.classes[c]?).map fun (k : Class) => match k.kind with | .array _ ty => decide (ty = FieldType.array .int) && decide (U.vm.findClass ("[" ++ (FieldType.array .int).toString) = some c) | _ => false) == some true)) hi).trans ?_
  simp [hk', hkind, f2]
theorem arrayOver_warm {U : State} (hW : s.WarmedH U.vm) (h : (Cond.arrayOver (.array .int)).before #[] s = true) : (Cond.arrayOver (.array .int)).before #[] U = true := aoB_moved hW.alike h
theorem s_preS {as : List Value} {h : pH} (hR : sRep D cA b o h H) (hS : va_S (fun q => b ≤ q) s.heap H locs) (hK : va_K D vwCl (tysL cA) s) (hE : sEnv en b o s s.heap) : ∀ U : State, U.heap = H → s.WarmedH U.vm → sPre D cA b o en as h (rS b o as).toArray U :=
  fun U hU hW => ⟨rfl, by rw [hU]; exact hR, va_K.moved hW.alike hK, by rw [hU]; exact hE.warm hW hS.2.1 (arrayOver_warm hW hE.2.2.2.2)⟩
theorem rV_toList (b : Nat) (o : Nat → Nat) (r : Option Value) (st : List Value) : (r.map (rV b o)).toList ++ rS b o st = rS b o (r.toList ++ st) := by
  cases r <;> rfl
theorem mOK_spec {M : pM} (h : mOK ms M = true) : (wsM M).head? = some (.code M.1 M.2.1 M.2.2.1 M.2.2.2.1) ∧ Cond.code M.1 M.2.1 M.2.2.1 M.2.2.2.1 ∈ gT ∧ plainFor M.1 = true ∧ (M.1.cls ≠ "java/lang/invoke/MethodHandle" ∧ M.1.cls ≠ "java/lang/invoke/VarHandle" ∧ (parseMethodDescriptor M.1.desc).map (fun d => d.parameters.length) = some M.2.2.2.2.1) ∧ M.2.2.1 ≤ 21 ∧ Cond.initialized M.1.cls ∈ gT ∧
    (M.2.2.2.2.2.1 = 1 → Cond.static M.1 ∈ gT) ∧ (¬ M.2.2.2.2.2.1 = 1 → Cond.instanceMethod M.1 ∈ gT) ∧ (M.2.2.2.2.2.1 = 0 → Cond.selects M.1.cls M.1 M.1 ∈ gT ∧ ((∃ r, vwCl[M.2.2.2.2.2.2.1]? = some r ∧ r.1 = M.1.cls) ∨ (M.2.2.2.2.2.2.1 = 13 ∧ M.1.cls = "java/lang/String"))) ∧ (M.2.2.2.2.2.1 = 2 → M.1.name = "<init>" ∧ M.2.2.2.1 = none) ∧
    ∀ q ∈ M.2.2.2.2.2.2.2.2, decode M.2.1 q.1 = .ok (q.2.1, q.2.2.1) ∧ p_ok M.2.2.1 q.1 q.2.1 q.2.2.1 = true ∧ lnk M.1.cls (decide (M.2.2.2.2.2.1 = 2)) q.2.1 q.2.2.2 = true ∧ lnkC ms M.1.cls q.2.1 q.2.2.2 = true := by
  obtain ⟨y, bytes, maxL, ret, n, kind, ci, ⟨p0, p1, p2, p3⟩, tab⟩ := M
  simp only [mOK, Bool.and_eq_true, decide_eq_true_eq, List.all_eq_true] at h
  obtain ⟨⟨⟨a1, a2, a3, a4, a5⟩, b1, b2, b3⟩, c1⟩ := h
  refine ⟨rfl, wd_in a1, a2, a3, a4, wd_in a5, fun z => ?_, fun z => ?_, fun z => ?_, fun z => ?_, fun q hq => ?_⟩
  · dsimp only at z
    rw [if_pos z] at b1
    exact wd_in b1
  · dsimp only at z
    rw [if_neg z] at b1
    exact wd_in b1
  · dsimp only at z
    rw [if_pos z] at b2
    simp only [Bool.and_eq_true] at b2
    refine ⟨wd_in b2.1, ?_⟩
    have b4 := b2.2
    split at b4
    · rename_i r hr
      exact Or.inl ⟨r, hr, of_decide_eq_true b4⟩
    · simp only [Bool.and_eq_true, decide_eq_true_eq] at b4
      exact Or.inr b4
  · dsimp only at z
    rw [if_pos z] at b3
    simp only [Bool.and_eq_true, decide_eq_true_eq] at b3
    exact b3
  · have h1 := c1 q hq
    exact ⟨h1.1, h1.2.1, h1.2.2.1, h1.2.2.2⟩
theorem ws_good {M : pM} (h : Cond.code M.1 M.2.1 M.2.2.1 M.2.2.2.1 ∈ gT) : ∀ w ∈ wsM M, w ∈ gT := by
  intro w hw
  rcases List.mem_cons.mp hw with rfl | hw
  · exact h
  · exact hw
end SIMC
