/-! THE READER: simple statements on both sides, with their lines. -/
/-- the block that is read: its key, what the class and the model call it -/
abbrev keyI (u N key : Nat) (th : Nat → Nat) (pa ow pt : Int32) : Prop := (key < 4 ∧ pa = -1 ∧ ow = -2 ∧ key = u) ∨ (∃ p c : Nat, p < N ∧ c < 2 ∧ key = 4 + 2 * p + c ∧ pa = nI p ∧ ow = nI p ∧ pt = nI c ∧ th p = u)
/-- its last line on both sides -/
abbrev lastI (lo : Option Nat) (la laM : Int32) : Prop := (∀ l, lo = some l → la = nI l ∧ laM = nI l) ∧ (lo = none → la = -1 ∧ laM = -2)
/-- the model's open blocks -/
abbrev topI (t : qS) (b : Nat) (ow pt laM : Int32) : Prop := t.1 184 b = ow ∧ t.1 185 b = pt ∧ t.1 186 b = laM
section SIM
variable {en : pN} {d d' k b i i' n N j x y r m m' u F p nc nl nt D m0 key un : Nat} {V cl cl' th th' K : Nat → Nat} {U U' : Nat → Nat → Nat} {s s' s'' s0 t t' t'' t0 t1 : qS} {B : Nat → Nat} {v w dp pa pt lv ow kk kk' la laM : Int32} {lo : Option Nat} {bl : Nat → List Nat}
theorem bV_bV {α : Type} {x : Option qR} {f : qS → Option qR} {g : qS → Option α} : bV (bV x f) g = bV x (fun s => bV (f s) g) := by
  cases x with
  | none => rfl
  | some r =>
    obtain ⟨o, s⟩ := r
    cases o with
    | none => rfl
    | some z => rfl
end SIM

