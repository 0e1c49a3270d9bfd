/-! TOKENS OF A TEXT THAT IS A LIST, piece by piece. -/
def skL : Bool → List Nat → Nat
  | _, [] => 0
  | r, b :: S => if b = 10 then 1 + skL false S else if b = 35 then 1 + skL true S else if r = true ∨ b = 9 ∨ b = 13 ∨ b = 32 then 1 + skL r S else 0
def wnL (Q : Nat → Bool) : List Nat → Nat
  | [] => 0
  | b :: S => if Q b = true then 1 + wnL Q S else 0
def wuL (Q : Nat → Bool) (c : Nat) : List Nat → Nat → Nat
  | [], m => m
  | b :: S, m => if Q b = true then wuL Q c S (c * m + b) else m
def nuL : List Nat → Nat → Nat
  | [], m => m
  | b :: S, m => if dgt b = true then nuL S (10 * m + (b - 48)) else m
/-- the token at the head: kind, value, length -/
def tqL : List Nat → Nat × Nat × Nat
  | [] => (0, 0, 0)
  | b :: S => if ltr b = true then (if wnL wch (b :: S) ≤ 8 then (kyd (wuL wch 128 (b :: S) 0), wuL wch 128 (b :: S) 0, wnL wch (b :: S)) else (1, 0, wnL wch (b :: S)))
    else if dgt b = true then (if wnL dgt (b :: S) ≤ 3 then (3, nuL (b :: S) 0, wnL dgt (b :: S)) else (1, 0, wnL dgt (b :: S)))
    else (gkd b (S.headD 256), 0, gnd b (S.headD 256) 0)
def lexL : Nat → List Nat → List (Nat × Nat)
  | 0, _ => []
  | f + 1, S => ((tqL (S.drop (skL false S))).1, (tqL (S.drop (skL false S))).2.1) :: (if (tqL (S.drop (skL false S))).1 = 0 ∨ (tqL (S.drop (skL false S))).1 = 1 then [] else lexL f ((S.drop (skL false S)).drop (tqL (S.drop (skL false S))).2.2))
theorem tqL_c {b : Nat} {S : List Nat} : tqL (b :: S) = if ltr b = true then (if wnL wch (b :: S) ≤ 8 then (kyd (wuL wch 128 (b :: S) 0), wuL wch 128 (b :: S) 0, wnL wch (b :: S)) else (1, 0, wnL wch (b :: S)))
    else if dgt b = true then (if wnL dgt (b :: S) ≤ 3 then (3, nuL (b :: S) 0, wnL dgt (b :: S)) else (1, 0, wnL dgt (b :: S)))
    else (gkd b (S.headD 256), 0, gnd b (S.headD 256) 0) := rfl
theorem skL_c {b : Nat} {S : List Nat} {r : Bool} : skL r (b :: S) = if b = 10 then 1 + skL false S else if b = 35 then 1 + skL true S else if r = true ∨ b = 9 ∨ b = 13 ∨ b = 32 then 1 + skL r S else 0 := rfl
theorem lexL_s {f : Nat} {S : List Nat} : lexL (f + 1) S = ((tqL (S.drop (skL false S))).1, (tqL (S.drop (skL false S))).2.1) :: (if (tqL (S.drop (skL false S))).1 = 0 ∨ (tqL (S.drop (skL false S))).1 = 1 then [] else lexL f ((S.drop (skL false S)).drop (tqL (S.drop (skL false S))).2.2)) := rfl
section LX
variable {B : Nat → Nat} {n q f g k : Nat} {S F R T : List Nat} {Q : Nat → Bool}
theorem hB_tl {b : Nat} (h : ∀ i, i < (b :: S).length → B (q + i) = (b :: S).getD i 0) : B q = b ∧ ∀ i, i < S.length → B (q + 1 + i) = S.getD i 0 := by
  refine ⟨h 0 (by rw [List.length_cons]; omega), fun i hi => ?_⟩
  have := h (i + 1) (by rw [List.length_cons]; omega)
  rw [show q + (i + 1) = q + 1 + i by omega] at this
  rw [this]
  rfl
theorem skp_L : ∀ (S : List Nat) (q : Nat) (r : Bool), (∀ i, i < S.length → B (q + i) = S.getD i 0) → skp B S.length r q = q + skL r S := by
  intro S
  induction S with
  | nil => intro q r _; rfl
  | cons b S ih =>
    intro q r h
    obtain ⟨h0, h1⟩ := hB_tl h
    rw [List.length_cons]
    unfold skp skL
    rw [h0, ih _ _ h1, ih _ _ h1, ih _ _ h1]
    split
    · omega
    · split
      · omega
      · split <;> omega
theorem wnd_L : ∀ (S : List Nat) (q : Nat), (∀ i, i < S.length → B (q + i) = S.getD i 0) → wnd Q B S.length q = q + wnL Q S := by
  intro S
  induction S with
  | nil => intro q _; rfl
  | cons b S ih =>
    intro q h
    obtain ⟨h0, h1⟩ := hB_tl h
    rw [List.length_cons]
    unfold wnd wnL
    rw [h0, ih _ h1]
    split <;> omega
theorem wnu_L {c : Nat} : ∀ (S : List Nat) (q m : Nat), (∀ i, i < S.length → B (q + i) = S.getD i 0) → wnu Q c B S.length q m = wuL Q c S m := by
  intro S
  induction S with
  | nil => intro q m _; rfl
  | cons b S ih =>
    intro q m h
    obtain ⟨h0, h1⟩ := hB_tl h
    rw [List.length_cons]
    unfold wnu wuL
    rw [h0, ih _ _ h1]
theorem nnu_L : ∀ (S : List Nat) (q m : Nat), (∀ i, i < S.length → B (q + i) = S.getD i 0) → nnu B S.length q m = nuL S m := by
  intro S
  induction S with
  | nil => intro q m _; rfl
  | cons b S ih =>
    intro q m h
    obtain ⟨h0, h1⟩ := hB_tl h
    rw [List.length_cons]
    unfold nnu nuL
    rw [h0, ih _ _ h1]
theorem aTok_L (hn : n = q + S.length) (h : ∀ i, i < S.length → B (q + i) = S.getD i 0) : aTok B n q = ((tqL S).1, (tqL S).2.1, q + (tqL S).2.2) := by
  cases S with
  | nil =>
    unfold aTok
    rw [if_pos (by rw [hn]; exact Nat.le_refl _)]
    rfl
  | cons b S =>
    obtain ⟨h0, h1⟩ := hB_tl h
    have hl : n - q = (b :: S).length := by omega
    have e1 : byt B n (q + 1) = S.headD 256 := by
      unfold byt
      cases S with
      | nil => rw [if_neg (by rw [hn]; simp)]; rfl
      | cons c S => rw [if_pos (by rw [hn, List.length_cons, List.length_cons]; omega)]; exact h1 0 (by rw [List.length_cons]; omega)
    unfold aTok
    rw [List.length_cons] at hn
    rw [tqL_c, if_neg (by omega), hl, wnd_L _ _ h, wnd_L _ _ h, wnu_L _ _ _ h, nnu_L _ _ _ h, h0, e1, show q + wnL wch (b :: S) - q = wnL wch (b :: S) by omega, show q + wnL dgt (b :: S) - q = wnL dgt (b :: S) by omega]
    by_cases c1 : ltr b = true
    · rw [if_pos c1, if_pos c1]
      by_cases c2 : wnL wch (b :: S) ≤ 8
      · rw [if_pos c2, if_pos c2]
      · rw [if_neg c2, if_neg c2]
    · rw [if_neg c1, if_neg c1]
      by_cases c2 : dgt b = true
      · rw [if_pos c2, if_pos c2]
        by_cases c3 : wnL dgt (b :: S) ≤ 3
        · rw [if_pos c3, if_pos c3]
        · rw [if_neg c3, if_neg c3]
      · rw [if_neg c2, if_neg c2]
        have e3 : gnd b (S.headD 256) q = q + gnd b (S.headD 256) 0 := by
          unfold gnd
          split
          · split <;> rfl
          · rfl
        rw [e3]
theorem drop_B (hk : k ≤ S.length) (h : ∀ i, i < S.length → B (q + i) = S.getD i 0) : ∀ i, i < (S.drop k).length → B (q + k + i) = (S.drop k).getD i 0 := by
  intro i hi
  rw [List.length_drop] at hi
  rw [show q + k + i = q + (k + i) by omega, h (k + i) (by omega), List.getD_eq_getElem?_getD, List.getD_eq_getElem?_getD, List.getElem?_drop]
theorem skL_le : ∀ (S : List Nat) (r : Bool), skL r S ≤ S.length := by
  intro S
  induction S with
  | nil => intro r; exact Nat.le_refl _
  | cons b S ih =>
    intro r
    unfold skL
    have := ih false
    have := ih true
    have := ih r
    rw [List.length_cons]
    split
    · omega
    · split
      · omega
      · split <;> omega
theorem wnL_le : ∀ (S : List Nat), wnL Q S ≤ S.length := by
  intro S
  induction S with
  | nil => exact Nat.le_refl _
  | cons b S ih =>
    unfold wnL
    rw [List.length_cons]
    split <;> omega
theorem tqL_le : (tqL S).2.2 ≤ S.length := by
  cases S with
  | nil => exact Nat.le_refl _
  | cons b S =>
    have a1 := @wnL_le wch (b :: S)
    have a2 := @wnL_le dgt (b :: S)
    rw [tqL_c]
    split
    · split
      · exact a1
      · exact a1
    · split
      · split
        · exact a2
        · exact a2
      · show gnd b (S.headD 256) 0 ≤ (b :: S).length
        rw [List.length_cons]
        unfold gnd
        split
        · split
          · rename_i z
            cases S with
            | nil => exact absurd z.2 (by decide)
            | cons c S => rw [List.length_cons]; omega
          · omega
        · omega
/-- the row of tokens by the list -/
theorem aL_L : ∀ (f q : Nat) (S : List Nat), n = q + S.length → (∀ i, i < S.length → B (q + i) = S.getD i 0) → (aL B n f q).map (fun t => (t.2.1, t.2.2.1)) = lexL f S := by
  intro f
  induction f with
  | zero => intro q S _ _; rfl
  | succ f ih =>
    intro q S hn h
    have hs := skL_le S false
    have e1 : skp B (n - q) false q = q + skL false S := by rw [show n - q = S.length by omega]; exact skp_L S q false h
    have h2 := drop_B hs h
    have e2 := aTok_L (B := B) (n := n) (q := q + skL false S) (S := S.drop (skL false S)) (by rw [List.length_drop]; omega) h2
    have ht := @tqL_le (S.drop (skL false S))
    unfold aL lexL
    rw [e1, e2, List.map_cons]
    dsimp only
    by_cases c : (tqL (S.drop (skL false S))).1 = 0 ∨ (tqL (S.drop (skL false S))).1 = 1
    · rw [if_pos c, if_pos c]; rfl
    · rw [if_neg c, if_neg c]
      rw [ih (q + skL false S + (tqL (S.drop (skL false S))).2.2) ((S.drop (skL false S)).drop (tqL (S.drop (skL false S))).2.2) (by rw [List.length_drop, List.length_drop] at *; omega) (drop_B ht h2)]
/-! pieces -/
/-- the tokens of a piece, if none hangs on what is behind it -/
def lexF : Nat → List Nat → Option (List (Nat × Nat))
  | 0, _ => none
  | f + 1, F => match F.drop (skL false F) with
    | [] => some []
    | b :: T => if (tqL (b :: T)).1 ≤ 1 then none
      else if (if ltr b = true then decide (wnL wch (b :: T) < (b :: T).length) else if dgt b = true then decide (wnL dgt (b :: T) < (b :: T).length) else (!(two_ b) || decide (0 < T.length))) = true then (match lexF f ((b :: T).drop (tqL (b :: T)).2.2) with
        | some l => some (((tqL (b :: T)).1, (tqL (b :: T)).2.1) :: l)
        | none => none) else none
theorem skL_app : ∀ (F : List Nat), (∀ b, b ∈ F → b ≠ 35) → (skL false F < F.length → skL false (F ++ R) = skL false F) ∧ (skL false F = F.length → skL false (F ++ R) = F.length + skL false R) := by
  intro F
  induction F with
  | nil => intro _; exact ⟨fun h => absurd h (Nat.lt_irrefl _), fun _ => (Nat.zero_add _).symm⟩
  | cons b F ih =>
    intro h
    obtain ⟨i1, i2⟩ := ih (fun c hc => h c (List.mem_cons_of_mem _ hc))
    have hb := h b List.mem_cons_self
    have hs := skL_le F false
    rw [List.cons_append, List.length_cons, skL_c, skL_c, if_neg hb, if_neg hb]
    by_cases c : b = 10
    · rw [if_pos c, if_pos c]
      exact ⟨fun z => by rw [i1 (by omega)], fun z => by rw [i2 (by omega)]; omega⟩
    · rw [if_neg c, if_neg c]
      by_cases c2 : false = true ∨ b = 9 ∨ b = 13 ∨ b = 32
      · rw [if_pos c2, if_pos c2]
        exact ⟨fun z => by rw [i1 (by omega)], fun z => by rw [i2 (by omega)]; omega⟩
      · rw [if_neg c2, if_neg c2]
        exact ⟨fun _ => rfl, fun z => by omega⟩
theorem wnL_app : ∀ (F : List Nat), wnL Q F < F.length → wnL Q (F ++ R) = wnL Q F := by
  intro F
  induction F with
  | nil => intro h; exact absurd h (Nat.lt_irrefl _)
  | cons b F ih =>
    intro h
    rw [List.cons_append]
    rw [List.length_cons] at h
    unfold wnL at h ⊢
    by_cases c : Q b = true
    · rw [if_pos c] at h
      rw [if_pos c, if_pos c, ih (by omega)]
    · rw [if_neg c, if_neg c]
theorem wuL_app {c : Nat} : ∀ (F : List Nat) (m : Nat), wnL Q F < F.length → wuL Q c (F ++ R) m = wuL Q c F m := by
  intro F
  induction F with
  | nil => intro m h; exact absurd h (Nat.lt_irrefl _)
  | cons b F ih =>
    intro m h
    rw [List.cons_append]
    rw [List.length_cons] at h
    unfold wnL at h
    unfold wuL
    by_cases c : Q b = true
    · rw [if_pos c] at h
      rw [if_pos c, if_pos c, ih _ (by omega)]
    · rw [if_neg c, if_neg c]
theorem nuL_app : ∀ (F : List Nat) (m : Nat), wnL dgt F < F.length → nuL (F ++ R) m = nuL F m := by
  intro F
  induction F with
  | nil => intro m h; exact absurd h (Nat.lt_irrefl _)
  | cons b F ih =>
    intro m h
    rw [List.cons_append]
    rw [List.length_cons] at h
    unfold wnL at h
    unfold nuL
    by_cases c : dgt b = true
    · rw [if_pos c] at h
      rw [if_pos c, if_pos c, ih _ (by omega)]
    · rw [if_neg c, if_neg c]
theorem tqL_app {b : Nat} (h : (if ltr b = true then decide (wnL wch (b :: T) < (b :: T).length) else if dgt b = true then decide (wnL dgt (b :: T) < (b :: T).length) else (!(two_ b) || decide (0 < T.length))) = true) : tqL (b :: T ++ R) = tqL (b :: T) := by
  rw [List.cons_append, tqL_c, tqL_c]
  by_cases c1 : ltr b = true
  · rw [if_pos c1] at h
    have h := of_decide_eq_true h
    have e1 := wnL_app (R := R) (b :: T) h
    have e2 := wuL_app (R := R) (c := 128) (b :: T) 0 h
    rw [List.cons_append] at e1 e2
    rw [if_pos c1, if_pos c1, e1, e2]
  · rw [if_neg c1] at h
    rw [if_neg c1, if_neg c1]
    by_cases c2 : dgt b = true
    · rw [if_pos c2] at h
      have h := of_decide_eq_true h
      have e1 := wnL_app (R := R) (b :: T) h
      have e2 := nuL_app (R := R) (b :: T) 0 h
      rw [List.cons_append] at e1 e2
      rw [if_pos c2, if_pos c2, e1, e2]
    · rw [if_neg c2] at h
      rw [if_neg c2, if_neg c2]
      cases T with
      | cons c T => rfl
      | nil =>
        have h2 : two_ b = false := by
          simpa using h
        unfold gkd gnd
        rw [h2]
        simp
theorem lex_skip (h : skL false F = F.length) (hF : ∀ b, b ∈ F → b ≠ 35) : lexL g (F ++ R) = lexL g R := by
  cases g with
  | zero => rfl
  | succ g =>
    have e := (skL_app (R := R) F hF).2 h
    have e2 : (F ++ R).drop (skL false (F ++ R)) = R.drop (skL false R) := by
      rw [e, ← List.drop_drop, List.drop_left]
    unfold lexL
    rw [e2]
theorem lex_app : ∀ (f : Nat) (F : List Nat) (K : List (Nat × Nat)), (∀ b, b ∈ F → b ≠ 35) → lexF f F = some K → lexL (K.length + g) (F ++ R) = K ++ lexL g R := by
  intro f
  induction f with
  | zero => intro F K _ h; cases h
  | succ f ih =>
    intro F K hF h
    have hs := skL_le F false
    have e0 : lexF (f + 1) F = match F.drop (skL false F) with
      | [] => some []
      | b :: T => if (tqL (b :: T)).1 ≤ 1 then none
        else if (if ltr b = true then decide (wnL wch (b :: T) < (b :: T).length) else if dgt b = true then decide (wnL dgt (b :: T) < (b :: T).length) else (!(two_ b) || decide (0 < T.length))) = true then (match lexF f ((b :: T).drop (tqL (b :: T)).2.2) with
          | some l => some (((tqL (b :: T)).1, (tqL (b :: T)).2.1) :: l)
          | none => none) else none := rfl
    rw [e0] at h
    cases hd : F.drop (skL false F) with
    | nil =>
      rw [hd] at h
      cases h
      have : skL false F = F.length := by
        have := congrArg List.length hd
        rw [List.length_drop, List.length_nil] at this
        omega
      rw [List.length_nil, Nat.zero_add, List.nil_append]
      exact lex_skip this hF
    | cons b T =>
      rw [hd] at h
      dsimp only at h
      by_cases c1 : (tqL (b :: T)).1 ≤ 1
      · rw [if_pos c1] at h; cases h
      rw [if_neg c1] at h
      by_cases c2 : (if ltr b = true then decide (wnL wch (b :: T) < (b :: T).length) else if dgt b = true then decide (wnL dgt (b :: T) < (b :: T).length) else (!(two_ b) || decide (0 < T.length))) = true
      · rw [if_pos c2] at h
        have hlt : skL false F < F.length := by
          have := congrArg List.length hd
          rw [List.length_drop, List.length_cons] at this
          omega
        have e1 := (skL_app (R := R) F hF).1 hlt
        have e2 : (F ++ R).drop (skL false (F ++ R)) = b :: T ++ R := by rw [e1, List.drop_append_of_le_length hs, hd]
        have e3 := tqL_app (R := R) c2
        have hl := @tqL_le (b :: T)
        cases hr : lexF f ((b :: T).drop (tqL (b :: T)).2.2) with
        | none => rw [hr] at h; cases h
        | some l =>
          rw [hr] at h
          cases h
          have ih' := ih ((b :: T).drop (tqL (b :: T)).2.2) l (fun c hc => hF c (by
            have := List.mem_of_mem_drop hc
            rw [← hd] at this
            exact List.mem_of_mem_drop this)) hr
          rw [List.length_cons, show l.length + 1 + g = (l.length + g) + 1 by omega]
          rw [lexL_s, e2, e3, if_neg (by omega), List.drop_append_of_le_length hl, ih']
          rfl
      · rw [if_neg c2] at h; cases h
end LX
