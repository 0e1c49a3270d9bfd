/-! THE SMALL MACHINE RUNS: the cells that were there before, steps, runs, calls. -/
/-- static fields that nobody writes, and what they hold -/
def stL : List (String × String × String × Value) := [("java/lang/String", "COMPACT_STRINGS", "Z", .int 1), ("jdk/internal/util/Preconditions", "SIOOBE_FORMATTER", "Ljava/util/function/BiFunction;", .float 0)]
def stOwn (i : Nat) : String := match i with
  | 0 => "TurnHouse$Tokens"
  | 1 => "TurnHouse$Reader"
  | _ => "TurnHouse$Tokens"
def stIdx (i : Nat) : Nat := match i with
  | 0 => 15
  | 1 => 11
  | _ => 101
def stTx (i : Nat) : String := match i with
  | 0 => "cas add lock unlock wait wake wakeall start join fence halt assert call reply if while else cell volatile thread later into always never may must leads fair ended wrong waits held stuck"
  | 1 => "write read plus push pop put get"
  | _ => "{}();,=+-*<>&|!."
/-- the bytes of the String constants -/
def stBy (i : Nat) : List Int32 := match i with
  | 0 => [99, 97, 115, 32, 97, 100, 100, 32, 108, 111, 99, 107, 32, 117, 110, 108, 111, 99, 107, 32, 119, 97, 105, 116, 32, 119, 97, 107, 101, 32, 119, 97, 107, 101, 97, 108, 108, 32, 115, 116, 97, 114, 116, 32, 106, 111, 105, 110, 32, 102, 101, 110, 99, 101, 32, 104, 97, 108, 116, 32, 97, 115, 115, 101, 114, 116, 32, 99, 97, 108, 108, 32, 114, 101, 112, 108, 121, 32, 105, 102, 32, 119, 104, 105, 108, 101, 32, 101, 108, 115, 101, 32, 99, 101, 108, 108, 32, 118, 111, 108, 97, 116, 105, 108, 101, 32, 116, 104, 114, 101, 97, 100, 32, 108, 97, 116, 101, 114, 32, 105, 110, 116, 111, 32, 97, 108, 119, 97, 121, 115, 32, 110, 101, 118, 101, 114, 32, 109, 97, 121, 32, 109, 117, 115, 116, 32, 108, 101, 97, 100, 115, 32, 102, 97, 105, 114, 32, 101, 110, 100, 101, 100, 32, 119, 114, 111, 110, 103, 32, 119, 97, 105, 116, 115, 32, 104, 101, 108, 100, 32, 115, 116, 117, 99, 107]
  | 1 => [119, 114, 105, 116, 101, 32, 114, 101, 97, 100, 32, 112, 108, 117, 115, 32, 112, 117, 115, 104, 32, 112, 111, 112, 32, 112, 117, 116, 32, 103, 101, 116]
  | _ => [123, 125, 40, 41, 59, 44, 61, 43, 45, 42, 60, 62, 38, 124, 33, 46]
/-- links between nest mates: not among the words that stay by themselves -/
def nestL : List Cond := [.methodLinkNest "TurnHouse" 9 ⟨"TurnHouse$Tokens", "<init>", "()V"⟩ "TurnHouse", .methodLinkNest "TurnHouse" 44 ⟨"TurnHouse$Turns", "<init>", "()V"⟩ "TurnHouse", .methodLinkNest "TurnHouse$Turns" 11 ⟨"TurnHouse$Machine", "<init>", "()V"⟩ "TurnHouse", .methodLinkNest "TurnHouse$Turns" 20 ⟨"TurnHouse$Findings", "<init>", "()V"⟩ "TurnHouse", .methodLinkNest "TurnHouse" 72 ⟨"TurnHouse$Run", "<init>", "()V"⟩ "TurnHouse", .methodLinkNest "TurnHouse$Run" 11 ⟨"TurnHouse$Machine", "<init>", "()V"⟩ "TurnHouse", .methodLinkNest "TurnHouse" 79 ⟨"TurnHouse$History", "<init>", "()V"⟩ "TurnHouse"]
/-- the script: how long it is, what it holds -/
abbrev pN : Type := Nat × (Nat → Int32)
/-- the arrays that were there before: the script, the String constants' bytes, two static arrays -/
def oArr (en : pN) (i : Nat) : Option (Nat × Nat × (Nat → Int32)) := match i with
  | 0 => some (0, en.1, en.2)
  | 4 => some (3, (stBy 0).length, fun j => (stBy 0).getD j 0)
  | 5 => some (3, (stBy 1).length, fun j => (stBy 1).getD j 0)
  | 6 => some (3, (stBy 2).length, fun j => (stBy 2).getD j 0)
  | _ => none
def sEnv (en : pN) (b : Nat) (o : Nat → Nat) (U : State) (H : Heap) : Prop :=
  (∀ (i t n : Nat) (f : Nat → Int32), oArr en i = some (t, n, f) → va_T (aTy t) (o i) n (fun j => .int (f j)) (fun q => b ≤ q) U H) ∧
  (∀ i : Nat, i < 3 → va_O "java/lang/String" (o (i + 1)) (fun q => b ≤ q) U H ∧ va_OF "java/lang/String" "coder" "B" (.int 0) (o (i + 1)) (fun q => b ≤ q) U H ∧ va_OF "java/lang/String" "value" "[B" (.ref (o (i + 4))) (o (i + 1)) (fun q => b ≤ q) U H ∧ vk_R (stOwn i) (stIdx i) (stTx i) (o (i + 1)) U) ∧
  (∀ q ∈ stL, va_Z q.1 q.2.1 q.2.2.1 (rV b o q.2.2.2) (fun q => b ≤ q) U H) ∧
  (∀ w ∈ nestL, va_Nw w U) ∧ (Cond.arrayOver (.array .int)).before #[] U = true
theorem sEnv.warm {en : pN} {b : Nat} {o : Nat → Nat} {s U : State} {H : Heap} (hW : s.WarmedH U.vm) (h : sEnv en b o s s.heap) (hk : ∀ q : Nat, q < s.heap.size → ¬ b ≤ q → H[q]? = s.heap[q]?) (hao : (Cond.arrayOver (.array .int)).before #[] U = true) : sEnv en b o U H := by
  obtain ⟨h1, h2, h3, h4, -⟩ := h
  refine ⟨fun i t n f hi => (va_T.moved hW.alike (h1 i t n f hi)).kept hk, fun i hi => ?_, fun q hq => (va_Z.moved hW.alike (h3 q hq)).kept hk, fun w hw => ?_, hao⟩
  · obtain ⟨g1, g2, g3, g4⟩ := h2 i hi
    exact ⟨(va_O.moved hW.alike g1).kept hk, (va_OF.moved hW.alike g2).kept hk, (va_OF.moved hW.alike g3).kept hk, vk_R.warm hW g4⟩
  · have hz := h4 w hw
    simp only [nestL, List.mem_cons, List.not_mem_nil, or_false] at hw
    rcases hw with rfl | rfl | rfl | rfl | rfl | rfl | rfl <;> exact va_Nw.warmM hW hz
theorem sEnv.same {en : pN} {b : Nat} {o : Nat → Nat} {u U : State} (hv : U.vm = u.vm) (hh : U.heap = u.heap) (h : sEnv en b o u u.heap) : sEnv en b o U U.heap := by
  have hA : u.vm.Alike U.vm := by rw [hv]; exact Vm.Alike.refl _
  obtain ⟨h1, h2, h3, h4, h5⟩ := h
  rw [hh]
  refine ⟨fun i t n f hi => va_T.moved hA (h1 i t n f hi), fun i hi => ?_, fun q hq => va_Z.moved hA (h3 q hq), fun w hw => ?_, ?_⟩
  · obtain ⟨g1, g2, g3, g4⟩ := h2 i hi
    exact ⟨va_O.moved hA g1, va_OF.moved hA g2, va_OF.moved hA g3, vk_R.same hv g4⟩
  · have hz := h4 w hw
    simp only [nestL, List.mem_cons, List.not_mem_nil, or_false] at hw
    rcases hw with rfl | rfl | rfl | rfl | rfl | rfl | rfl <;> exact va_Nw.same rfl hv.symm hz
  · first
      | (unfold Cond.before Cond.holds at h5 ⊢; simp only [Cond.value, hv] at h5 ⊢; exact h5)
      | (simp only [Cond.before, Cond.holds, Cond.value, hv] at h5 ⊢; exact h5)
/-- a method: name, code, locals, what it returns, how many arguments, kind (0 of an object, 1 static, 2 a constructor), its class's number (13: String), places of its words, its instructions -/
abbrev pM : Type := MethodName × ByteArray × Nat × Option FieldType × Nat × Nat × Nat × (Nat × Nat × Nat × Nat) × List pI
def p_find (tab : List pI) (pc : Nat) : Option (Instr × Nat × pX) := match tab with
  | [] => none
  | q :: r => if q.1 = pc then some q.2 else p_find r pc
theorem p_find_mem {tab : List pI} {pc : Nat} {q : Instr × Nat × pX} (h : p_find tab pc = some q) : (pc, q) ∈ tab := by
  induction tab with
  | nil => cases h
  | cons x r ih =>
    unfold p_find at h
    by_cases hq : x.1 = pc
    · rw [if_pos hq] at h
      cases h
      subst hq
      exact List.mem_cons_self
    · rw [if_neg hq] at h
      exact List.mem_cons_of_mem _ (ih h)
def p_inB (i : Int32) (n : Nat) : Bool := decide (¬ (i < 0 ∨ n ≤ i.toNatClampNeg))
def p_nar (v x : Int32) : Int32 := v
/-- instructions that read or write cells -/
def pstepH (en : pN) (pc : Nat) (i : Instr) (x : pX) (ls : List (Nat × Value)) (st : List Value) (h : pH) : Option (pF × pH) := match i with
  | .getfield _ => match st with
    | .ref a :: r => match h.2.2 a with
      | .inr (ci, fs) => if a < h.1 ∧ x.1 = (ci : Int) then (match fs[x.2.1]? with
        | some v => some ((pc + 3, ls, v :: r), h)
        | none => none) else none
      | _ => none
    | .retAddr q :: r => if (1 ≤ q ∧ q ≤ 3) ∧ x.1 = -1 then (if x.2.1 = 0 then some ((pc + 3, ls, .int 0 :: r), h) else some ((pc + 3, ls, .retAddr (q + 3) :: r), h)) else none
    | _ => none
  | .putfield _ => match st with
    | v :: .ref a :: r => match h.2.2 a with
      | .inr (ci, fs) => if (a < h.1 ∧ x.1 = (ci : Int)) ∧ (x.2.1 < fs.length ∧ p_fit (clTy ci x.2.1) v = true) then some ((pc + 3, ls, r), (h.1, h.2.1, p_up h.2.2 a (.inr (ci, fs.set x.2.1 v)))) else none
      | _ => none
    | _ => none
  | .getstatic _ => match stL[x.2.1]? with
    | some q => some ((pc + 3, ls, q.2.2.2 :: st), h)
    | none => none
  | .iaload => match st with
    | .int i :: .ref a :: r => match h.2.2 a with
      | .inl (0, n, .inl f) => if a < h.1 ∧ p_inB i n = true then some ((pc + 1, ls, .int (f i.toNatClampNeg) :: r), h) else none
      | _ => none
    | .int i :: .retAddr q :: r => match oArr en q with
      | some (0, n, f) => if p_inB i n = true then some ((pc + 1, ls, .int (f i.toNatClampNeg) :: r), h) else none
      | _ => none
    | _ => none
  | .laload => match st with
    | .int i :: .ref a :: r => match h.2.2 a with
      | .inl (1, n, .inr (.inl f)) => if a < h.1 ∧ p_inB i n = true then some ((pc + 1, ls, .long (f i.toNatClampNeg) :: r), h) else none
      | _ => none
    | _ => none
  | .baload => match st with
    | .int i :: .ref a :: r => match h.2.2 a with
      | .inl (3, n, .inl f) => if a < h.1 ∧ p_inB i n = true then some ((pc + 1, ls, .int (f i.toNatClampNeg) :: r), h) else none
      | _ => none
    | .int i :: .retAddr q :: r => match oArr en q with
      | some (3, n, f) => if p_inB i n = true then some ((pc + 1, ls, .int (f i.toNatClampNeg) :: r), h) else none
      | _ => none
    | _ => none
  | .aaload => match st with
    | .int i :: .ref a :: r => match h.2.2 a with
      | .inl (4, n, .inr (.inr (.inr (.inr f)))) => match f i.toNatClampNeg with
        | some q => if a < h.1 ∧ p_inB i n = true then some ((pc + 1, ls, .ref q :: r), h) else none
        | none => none
      | _ => none
    | _ => none
  | .arraylength => match st with
    | .ref a :: r => match h.2.2 a with
      | .inl (t, y) => if a < h.1 ∧ t < 5 then some ((pc + 1, ls, .int (Int32.ofNat y.1) :: r), h) else none
      | _ => none
    | .retAddr q :: r => match oArr en q with
      | some (_, n, _) => some ((pc + 1, ls, .int (Int32.ofNat n) :: r), h)
      | none => none
    | _ => none
  | .iastore => match st with
    | .int v :: .int i :: .ref a :: r => match h.2.2 a with
      | .inl (0, n, .inl f) => if a < h.1 ∧ p_inB i n = true then some ((pc + 1, ls, r), (h.1, h.2.1, p_up h.2.2 a (.inl (0, n, .inl (upd f i.toNatClampNeg v))))) else none
      | _ => none
    | _ => none
  | .lastore => match st with
    | .long v :: .int i :: .ref a :: r => match h.2.2 a with
      | .inl (1, n, .inr (.inl f)) => if a < h.1 ∧ p_inB i n = true then some ((pc + 1, ls, r), (h.1, h.2.1, p_up h.2.2 a (.inl (1, n, .inr (.inl (vp_updL f i.toNatClampNeg v)))))) else none
      | _ => none
    | _ => none
  | .bastore => match st with
    | .int v :: .int i :: .ref a :: r => match h.2.2 a with
      | .inl (3, n, .inl f) => if a < h.1 ∧ p_inB i n = true then some ((pc + 1, ls, r), (h.1, h.2.1, p_up h.2.2 a (.inl (3, n, .inl (upd f i.toNatClampNeg (vp_nar .byte v)))))) else none
      | _ => none
    | _ => none
  | .new _ => match vwCl[x.1.toNat]? with
    | some r => some ((pc + 3, ls, .ref h.1 :: st), (h.1 + 1, h.2.1 + r.2.2, p_up h.2.2 h.1 (.inr (x.1.toNat, p_dfl x.1.toNat r.2.2))))
    | none => none
  | .newarray t => match p_aty t, st with
    | some k, .int n :: r => if ¬ n < 0 ∧ n.toNatClampNeg * 8 ≤ 536870912 then some ((pc + 2, ls, .ref h.1 :: r), (h.1 + 1, h.2.1 + n.toNatClampNeg, p_up h.2.2 h.1 (.inl (k, n.toNatClampNeg, p_zero k)))) else none
    | _, _ => none
  | .multianewarray _ dd => match st with
    | .int k :: .int n :: r => if (dd = 2 ∧ ¬ n < 0 ∧ ¬ k < 0) ∧ (n.toNatClampNeg * 4 ≤ 536870912 ∧ k.toNatClampNeg * 4 ≤ 536870912) then some ((pc + 4, ls, .ref h.1 :: r), p_mna n.toNatClampNeg k.toNatClampNeg h) else none
    | _ => none
  | .ldc _ => if x.2.1 = 0 then some ((pc + 2, ls, .int (Int32.ofInt x.1) :: st), h) else some ((pc + 2, ls, .retAddr x.2.1 :: st), h)
  | .ldc_w _ => some ((pc + 3, ls, .int (Int32.ofInt x.1) :: st), h)
  | .ldc2_w _ => some ((pc + 3, ls, .long (Int64.ofInt x.1) :: st), h)
  | _ => none
/-- a word of the tables, by its place -/
def wd (i : Nat) (w : Cond) : Bool := decide (lw_tbl[i]? = some w) && goodWord w
theorem wd_in {i : Nat} {w : Cond} (h : wd i w = true) : w ∈ gT := by
  obtain ⟨h1, h2⟩ := (Bool.and_eq_true _ _).mp h
  exact gT_place (of_decide_eq_true h1) h2
/-- places of 'can be made' and 'initialised' of each class -/
def clP (ci : Nat) : Nat × Nat := match ci with
  | 0 => (455, 104)
  | 1 => (663, 108)
  | 2 => (591, 106)
  | 3 => (393, 103)
  | 4 => (224, 99)
  | 5 => (249, 100)
  | 6 => (333, 101)
  | 7 => (483, 105)
  | 8 => (635, 107)
  | 9 => (122, 94)
  | 10 => (387, 102)
  | _ => (114, 93)
/-- what an instruction is linked to, by the tables -/
def lnk (own : String) (init : Bool) (i : Instr) (x : pX) : Bool := match i with
  | .getfield idx => if x.1 = -1 then (if x.2.1 = 0 then wd x.2.2 (.fieldLink own idx "java/lang/String" "coder" "B") else wd x.2.2 (.fieldLink own idx "java/lang/String" "value" "[B")) else (match vwCl[x.1.toNat]? with
    | some r => decide (x.2.1 < r.2.2) && wd x.2.2 (.fieldLink own idx (r.2.1 x.2.1).1 (r.2.1 x.2.1).2.1 (r.2.1 x.2.1).2.2.1)
    | none => false)
  | .putfield idx => match vwCl[x.1.toNat]? with
    | some r => decide (x.2.1 < r.2.2) && (wd x.2.2 (.fieldLink own idx (r.2.1 x.2.1).1 (r.2.1 x.2.1).2.1 (r.2.1 x.2.1).2.2.1) && (decide ((r.2.1 x.2.1).2.2.2 = false) || (decide ((r.2.1 x.2.1).2.2.2 = true) && (init && decide ((r.2.1 x.2.1).1 = own)))))
    | none => false
  | .getstatic idx => match stL[x.2.1]? with
    | some q => wd x.2.2 (.fieldLink own idx q.1 q.2.1 q.2.2.1)
    | none => false
  | .ldc idx => if x.2.1 = 0 then wd x.2.2 (.constant own idx (Int32.ofInt x.1)) else decide (x.2.1 ≤ 3) && (decide (stOwn (x.2.1 - 1) = own) && decide (stIdx (x.2.1 - 1) = idx))
  | .ldc_w idx => wd x.2.2 (.constant own idx (Int32.ofInt x.1))
  | .ldc2_w idx => wd x.2.2 (.constantLong own idx (Int64.ofInt x.1))
  | .new idx => match vwCl[x.1.toNat]? with
    | some r => wd x.2.2 (.classLink own idx r.1) && (wd (clP x.1.toNat).1 (.instantiable r.1 r.2.2) && wd (clP x.1.toNat).2 (.initialized r.1))
    | none => false
  | .newarray t => match p_aty t with
    | some k => wd x.2.2 (.arrayClass (aTy k))
    | none => false
  | .multianewarray idx dd => decide (dd = 2) && (wd x.2.2 (.classLink own idx "[[I") && wd x.2.1 (.arrayClass .int))
  | _ => true
section SIMS
variable {p : Program} {l : Launch} {e : Env} {R : Room} {s : State} {m : MethodId} {args : Array Value} {below : List Frame} {meth : Method} {c : Code} {H : Heap} {locs : List Loc} {cells slots : Nat} {Q : State → Prop} {cc : ByteArray}
theorem p_inB_spec {i : Int32} {n : Nat} (h : p_inB i n = true) : vp_in i n := by
  unfold p_inB at h
  show ¬ (i < 0 ∨ n ≤ i.toNatClampNeg)
  exact of_decide_eq_true h
/-- the count of cells and of slots never falls -/
theorem pstepH_mono {en : pN} {pc : Nat} {i : Instr} {x : pX} {ls : List (Nat × Value)} {st : List Value} {h h' : pH} {f' : pF} (hs : pstepH en pc i x ls st h = some (f', h')) : h.1 ≤ h'.1 ∧ h.2.1 ≤ h'.2.1 := by
  have key : ∀ {y : pF × pH}, some y = some (f', h') → (h.1 ≤ y.2.1 ∧ h.2.1 ≤ y.2.2.1) → h.1 ≤ h'.1 ∧ h.2.1 ≤ h'.2.1 := by
    intro y hy hz
    cases hy
    exact hz
  unfold pstepH at hs
  repeat' split at hs
  all_goals first
    | exact key hs ⟨Nat.le_refl _, Nat.le_refl _⟩
    | exact key hs ⟨Nat.le_succ _, Nat.le_add_right _ _⟩
    | exact key hs ⟨by show h.1 ≤ h.1 + 1 + _; omega, by show h.2.1 ≤ h.2.1 + _ + _; omega⟩
    | cases hs
theorem sH {D : va_G} {cA : Nat → ClassId} {en : pN} {b : Nat} {o : Nat → Nat} {own : String} {init : Bool} {nL pc len : Nat} {i : Instr} {x : pX} {ls ls' : List (Nat × Value)} {st st' : List Value} {h h' : pH} {pc' : Nat} {LS : Array Slot} {c0 n0 : Nat}
    (hx : p.tables.exec = Jvm.exec) (hb : c.code = cc) (hts : ∀ w ∈ gT, w.before args s = true) (hown : s.vm.findClass own = some m.cls) (hK : va_K D vwCl (tysL cA) s) (hE : sEnv en b o s s.heap) (hinit : init = true → meth.name = "<init>")
    (hR : sRep D cA b o h H) (hS : va_S (fun q => b ≤ q) s.heap H locs) (hdg : decode cc pc = .ok (i, len)) (hok : p_ok nL pc i len = true) (hlk : lnk own init i x = true) (hl : lv_has LS nL (rL b o ls)) (hs : pstepH en pc i x ls st h = some ((pc', ls', st'), h'))
    (hc0 : c0 ≤ h.1) (hn0 : n0 ≤ h.2.1) (hcR : h'.1 - c0 ≤ R.cells) (hnR : h'.2.1 - n0 ≤ R.slots)
    (k : ∀ (H1 : Heap) (locs1 : List Loc), sRep D cA b o h' H1 → va_S (fun q => b ≤ q) s.heap H1 locs1 → lv_has LS nL (rL b o ls') → W p l e R s m args below meth c H1 locs1 (h'.1 - c0) (h'.2.1 - n0) Q (F0 m pc' LS (rS b o st'))) : W p l e R s m args below meth c H locs (h.1 - c0) (h.2.1 - n0) Q (F0 m pc LS (rS b o st)) := by
  cases i
  case getfield idx =>
    obtain rfl : len = 3 := of_decide_eq_true hok
    simp only [pstepH] at hs
    split at hs
    · rename_i a r
      split at hs
      · rename_i ci fs he
        split at hs
        · rename_i hg
          split at hs
          · rename_i v hv
            simp only [Option.some.injEq, Prod.mk.injEq] at hs
            obtain ⟨⟨rfl, rfl, rfl⟩, rfl⟩ := hs
            have hne : ¬ x.1 = -1 := by rw [hg.2]; omega
            simp only [lnk, if_neg hne] at hlk
            have hci : x.1.toNat = ci := by rw [hg.2]; rfl
            rw [hci] at hlk
            split at hlk
            · rename_i r0 hc
              obtain ⟨g1, g2⟩ := (Bool.and_eq_true _ _).mp hlk
              exact s_get hx hb hts hown hK hR hg.1 he hc (of_decide_eq_true g1) (hts _ (wd_in g2)) hv hdg (k H locs hR hS hl)
            · cases hlk
          · cases hs
        · cases hs
      · cases hs
    · rename_i q r
      split at hs
      · rename_i hg
        simp only [lnk, if_pos hg.2] at hlk
        obtain ⟨j, rfl, hj⟩ : ∃ j, q = j + 1 ∧ j < 3 := ⟨q - 1, by omega, by omega⟩
        obtain ⟨g1, g2, g3, -⟩ := hE.2.1 j hj
        split at hs
        · rename_i h0
          rw [if_pos h0] at hlk
          simp only [Option.some.injEq, Prod.mk.injEq] at hs
          obtain ⟨⟨rfl, rfl, rfl⟩, rfl⟩ := hs
          exact vk_getf hx hb g2 hS hown (hts _ (wd_in hlk)) (fun _ z => z) hdg (k H locs hR hS hl)
        · rename_i h0
          rw [if_neg h0] at hlk
          simp only [Option.some.injEq, Prod.mk.injEq] at hs
          obtain ⟨⟨rfl, rfl, rfl⟩, rfl⟩ := hs
          exact vk_getf hx hb g3 hS hown (hts _ (wd_in hlk)) (fun _ z => z) hdg (k H locs hR hS hl)
      · cases hs
    · cases hs
  case putfield idx =>
    obtain rfl : len = 3 := of_decide_eq_true hok
    simp only [pstepH] at hs
    split at hs
    · rename_i v a r
      split at hs
      · rename_i ci fs he
        split at hs
        · rename_i hg
          simp only [Option.some.injEq, Prod.mk.injEq] at hs
          obtain ⟨⟨rfl, rfl, rfl⟩, rfl⟩ := hs
          obtain ⟨⟨ha, hxc⟩, hlen, hfit⟩ := hg
          have hci : x.1.toNat = ci := by rw [hxc]; rfl
          simp only [lnk] at hlk
          rw [hci] at hlk
          split at hlk
          · rename_i r0 hc
            obtain ⟨g1, g2⟩ := (Bool.and_eq_true _ _).mp hlk
            obtain ⟨g2, g3⟩ := (Bool.and_eq_true _ _).mp g2
            refine s_put hx hb hts hown hK hR hS ha he hc (of_decide_eq_true g1) (hts _ (wd_in g2)) hlen hfit ?_ hdg (fun H1 locs1 a1 a2 => k H1 locs1 a1 a2 hl)
            rcases (Bool.or_eq_true _ _).mp g3 with g3 | g3
            · exact Or.inl (of_decide_eq_true g3)
            · obtain ⟨g4, g5⟩ := (Bool.and_eq_true _ _).mp g3
              obtain ⟨g5, g6⟩ := (Bool.and_eq_true _ _).mp g5
              exact Or.inr ⟨of_decide_eq_true g4, hinit g5, of_decide_eq_true g6⟩
          · cases hlk
        · cases hs
      · cases hs
    · cases hs
  case getstatic idx =>
    obtain rfl : len = 3 := of_decide_eq_true hok
    simp only [pstepH] at hs
    split at hs
    · rename_i q hq
      simp only [Option.some.injEq, Prod.mk.injEq] at hs
      obtain ⟨⟨rfl, rfl, rfl⟩, rfl⟩ := hs
      simp only [lnk, hq] at hlk
      exact va_gets hx hb (hE.2.2.1 q (List.mem_of_getElem? hq)) hS hown (hts _ (wd_in hlk)) (fun _ z => z) hdg (k H locs hR hS hl)
    · cases hs
  case iaload =>
    obtain rfl : len = 1 := of_decide_eq_true hok
    simp only [pstepH] at hs
    split at hs
    · rename_i i a r
      split at hs
      · rename_i n f he
        split at hs
        · rename_i hg
          simp only [Option.some.injEq, Prod.mk.injEq] at hs
          obtain ⟨⟨rfl, rfl, rfl⟩, rfl⟩ := hs
          exact s_ild hx hb hK hR hg.1 he (p_inB_spec hg.2) hdg (k H locs hR hS hl)
        · cases hs
      · cases hs
    · rename_i i q r
      split at hs
      · rename_i n f he
        split at hs
        · rename_i hg
          simp only [Option.some.injEq, Prod.mk.injEq] at hs
          obtain ⟨⟨rfl, rfl, rfl⟩, rfl⟩ := hs
          exact va_ti hx hb (hE.1 _ _ _ _ he) hS (p_inB_spec hg) rfl hdg (k H locs hR hS hl)
        · cases hs
      · cases hs
    · cases hs
  case laload =>
    obtain rfl : len = 1 := of_decide_eq_true hok
    simp only [pstepH] at hs
    split at hs
    · rename_i i a r
      split at hs
      · rename_i n f he
        split at hs
        · rename_i hg
          simp only [Option.some.injEq, Prod.mk.injEq] at hs
          obtain ⟨⟨rfl, rfl, rfl⟩, rfl⟩ := hs
          exact s_lld hx hb hK hR hg.1 he (p_inB_spec hg.2) hdg (k H locs hR hS hl)
        · cases hs
      · cases hs
    · cases hs
  case baload =>
    obtain rfl : len = 1 := of_decide_eq_true hok
    simp only [pstepH] at hs
    split at hs
    · rename_i i a r
      split at hs
      · rename_i n f he
        split at hs
        · rename_i hg
          simp only [Option.some.injEq, Prod.mk.injEq] at hs
          obtain ⟨⟨rfl, rfl, rfl⟩, rfl⟩ := hs
          exact s_bld hx hb hK hR hg.1 he (p_inB_spec hg.2) hdg (k H locs hR hS hl)
        · cases hs
      · cases hs
    · rename_i i q r
      split at hs
      · rename_i n f he
        split at hs
        · rename_i hg
          simp only [Option.some.injEq, Prod.mk.injEq] at hs
          obtain ⟨⟨rfl, rfl, rfl⟩, rfl⟩ := hs
          exact va_tb hx hb (hE.1 _ _ _ _ he) hS (p_inB_spec hg) rfl hdg (k H locs hR hS hl)
        · cases hs
      · cases hs
    · cases hs
  case aaload =>
    obtain rfl : len = 1 := of_decide_eq_true hok
    simp only [pstepH] at hs
    split at hs
    · rename_i i a r
      split at hs
      · rename_i n f he
        split at hs
        · rename_i q hq
          split at hs
          · rename_i hg
            simp only [Option.some.injEq, Prod.mk.injEq] at hs
            obtain ⟨⟨rfl, rfl, rfl⟩, rfl⟩ := hs
            exact s_ald hx hb hK hR hg.1 he (p_inB_spec hg.2) hq hdg (k H locs hR hS hl)
          · cases hs
        · cases hs
      · cases hs
    · cases hs
  case arraylength =>
    obtain rfl : len = 1 := of_decide_eq_true hok
    simp only [pstepH] at hs
    split at hs
    · rename_i a r
      split at hs
      · rename_i t y he
        split at hs
        · rename_i hg
          simp only [Option.some.injEq, Prod.mk.injEq] at hs
          obtain ⟨⟨rfl, rfl, rfl⟩, rfl⟩ := hs
          exact s_len hx hb hK hR hg.1 he hg.2 hdg (k H locs hR hS hl)
        · cases hs
      · cases hs
    · rename_i q r
      split at hs
      · rename_i t n f he
        simp only [Option.some.injEq, Prod.mk.injEq] at hs
        obtain ⟨⟨rfl, rfl, rfl⟩, rfl⟩ := hs
        exact va_tlen hx hb (hE.1 _ _ _ _ he) hS rfl hdg (k H locs hR hS hl)
      · cases hs
    · cases hs
  case iastore =>
    obtain rfl : len = 1 := of_decide_eq_true hok
    simp only [pstepH] at hs
    split at hs
    · rename_i v i a r
      split at hs
      · rename_i n f he
        split at hs
        · rename_i hg
          simp only [Option.some.injEq, Prod.mk.injEq] at hs
          obtain ⟨⟨rfl, rfl, rfl⟩, rfl⟩ := hs
          exact s_ist hx hb hK hR hS hg.1 he (p_inB_spec hg.2) hdg (fun H1 locs1 a1 a2 => k H1 locs1 a1 a2 hl)
        · cases hs
      · cases hs
    · cases hs
  case lastore =>
    obtain rfl : len = 1 := of_decide_eq_true hok
    simp only [pstepH] at hs
    split at hs
    · rename_i v i a r
      split at hs
      · rename_i n f he
        split at hs
        · rename_i hg
          simp only [Option.some.injEq, Prod.mk.injEq] at hs
          obtain ⟨⟨rfl, rfl, rfl⟩, rfl⟩ := hs
          exact s_lst hx hb hK hR hS hg.1 he (p_inB_spec hg.2) hdg (fun H1 locs1 a1 a2 => k H1 locs1 a1 a2 hl)
        · cases hs
      · cases hs
    · cases hs
  case bastore =>
    obtain rfl : len = 1 := of_decide_eq_true hok
    simp only [pstepH] at hs
    split at hs
    · rename_i v i a r
      split at hs
      · rename_i n f he
        split at hs
        · rename_i hg
          simp only [Option.some.injEq, Prod.mk.injEq] at hs
          obtain ⟨⟨rfl, rfl, rfl⟩, rfl⟩ := hs
          exact s_bst hx hb hK hR hS hg.1 he (p_inB_spec hg.2) hdg (fun H1 locs1 a1 a2 => k H1 locs1 a1 a2 hl)
        · cases hs
      · cases hs
    · cases hs
  case new idx =>
    obtain rfl : len = 3 := of_decide_eq_true hok
    simp only [pstepH] at hs
    split at hs
    · rename_i r hc
      simp only [Option.some.injEq, Prod.mk.injEq] at hs
      obtain ⟨⟨rfl, rfl, rfl⟩, rfl⟩ := hs
      simp only [lnk, hc] at hlk
      obtain ⟨g1, g2⟩ := (Bool.and_eq_true _ _).mp hlk
      obtain ⟨g2, g3⟩ := (Bool.and_eq_true _ _).mp g2
      have e1 : h.1 + 1 - c0 = h.1 - c0 + 1 := by omega
      have e2 : h.2.1 + r.2.2 - n0 = h.2.1 - n0 + r.2.2 := by omega
      dsimp only at hcR hnR
      refine s_new hx hb hts hown hK hR hS hc (hts _ (wd_in g1)) (hts _ (wd_in g2)) (hts _ (wd_in g3)) (by omega) (by omega) hdg (fun H1 a1 a2 => ?_)
      exact W.cs e1.symm e2.symm (k H1 locs a1 a2 hl)
    · cases hs
  case newarray t =>
    obtain rfl : len = 2 := of_decide_eq_true hok
    simp only [pstepH] at hs
    split at hs
    · rename_i q n r hq
      split at hs
      · rename_i hg
        simp only [Option.some.injEq, Prod.mk.injEq] at hs
        obtain ⟨⟨rfl, rfl, rfl⟩, rfl⟩ := hs
        simp only [lnk, hq] at hlk
        have e1 : h.1 + 1 - c0 = h.1 - c0 + 1 := by omega
        have e2 : h.2.1 + n.toNatClampNeg - n0 = h.2.1 - n0 + n.toNatClampNeg := by omega
        dsimp only at hcR hnR
        refine s_newa hx hb hK hR hS hq (hts _ (wd_in hlk)) hg.1 hg.2 (by omega) (by omega) hdg (fun H1 a1 a2 => ?_)
        exact W.cs e1.symm e2.symm (k H1 locs a1 a2 hl)
      · cases hs
    · cases hs
  case multianewarray idx dd =>
    obtain rfl : len = 4 := of_decide_eq_true hok
    simp only [pstepH] at hs
    split at hs
    · rename_i kz n r
      split at hs
      · rename_i hg
        simp only [Option.some.injEq, Prod.mk.injEq] at hs
        obtain ⟨⟨rfl, rfl, rfl⟩, rfl⟩ := hs
        obtain ⟨⟨rfl, g1, g2⟩, g3, g4⟩ := hg
        simp only [lnk] at hlk
        obtain ⟨-, q2⟩ := (Bool.and_eq_true _ _).mp hlk
        obtain ⟨q2, q3⟩ := (Bool.and_eq_true _ _).mp q2
        have hcR : h.1 + 1 + n.toNatClampNeg - c0 ≤ R.cells := hcR
        have hnR : h.2.1 + n.toNatClampNeg + n.toNatClampNeg * kz.toNatClampNeg - n0 ≤ R.slots := hnR
        have e1 : h.1 + 1 + n.toNatClampNeg - c0 = h.1 - c0 + 1 + n.toNatClampNeg := by omega
        have e2 : h.2.1 + n.toNatClampNeg + n.toNatClampNeg * kz.toNatClampNeg - n0 = h.2.1 - n0 + n.toNatClampNeg + n.toNatClampNeg * kz.toNatClampNeg := by omega
        refine s_mna hx hb hown (hts _ (wd_in q2)) hE.2.2.2.2 (hts _ (wd_in q3)) hK hR hS g1 g2 g3 g4 (by omega) (by omega) hdg (fun H1 a1 a2 => ?_)
        exact W.cs e1.symm e2.symm (k H1 locs a1 a2 hl)
      · cases hs
    · cases hs
  case ldc idx =>
    obtain rfl : len = 2 := of_decide_eq_true hok
    simp only [pstepH] at hs
    split at hs
    · rename_i h0
      simp only [lnk, if_pos h0] at hlk
      simp only [Option.some.injEq, Prod.mk.injEq] at hs
      obtain ⟨⟨rfl, rfl, rfl⟩, rfl⟩ := hs
      exact lv_ldc hx hb hown (hts _ (wd_in hlk)) hdg (k H locs hR hS hl)
    · rename_i h0
      simp only [lnk, if_neg h0] at hlk
      simp only [Option.some.injEq, Prod.mk.injEq] at hs
      obtain ⟨⟨rfl, rfl, rfl⟩, rfl⟩ := hs
      obtain ⟨g1, g2⟩ := (Bool.and_eq_true _ _).mp hlk
      obtain ⟨g2, g3⟩ := (Bool.and_eq_true _ _).mp g2
      have g1 := of_decide_eq_true g1
      have g2 := of_decide_eq_true g2
      have g3 := of_decide_eq_true g3
      obtain ⟨a1, a2, a3, a4⟩ := hE.2.1 (x.2.1 - 1) (by omega)
      rw [g2, g3] at a4
      have e3 : x.2.1 - 1 + 1 = x.2.1 := by omega
      rw [e3] at a4
      exact va_ldcS hx hb hown a4 hdg (k H locs hR hS hl)
  case ldc_w idx =>
    obtain rfl : len = 3 := of_decide_eq_true hok
    simp only [pstepH, Option.some.injEq, Prod.mk.injEq] at hs
    obtain ⟨⟨rfl, rfl, rfl⟩, rfl⟩ := hs
    exact lv_ldcw hx hb hown (hts _ (wd_in hlk)) hdg (k H locs hR hS hl)
  case ldc2_w idx =>
    obtain rfl : len = 3 := of_decide_eq_true hok
    simp only [pstepH, Option.some.injEq, Prod.mk.injEq] at hs
    obtain ⟨⟨rfl, rfl, rfl⟩, rfl⟩ := hs
    exact lv_ldc2 hx hb hown (hts _ (wd_in hlk)) hdg (k H locs hR hS hl)
  all_goals (simp [pstepH] at hs)
end SIMS
